/-! The law's act (written by wip/p21/run3.py). -/
def f_L_act (x : tc_X) (z : tc_Z) (a3 : Int32) : Option (Int32 × tc_X × tc_Z) := tc_jn (fun (w1 : Int32) => tc_jn (fun (o5 : Option Nat) => Option.bind (f_L_below (a3 >>> ((5 : Int32) &&& 31)) 2) (fun r9 => tc_jn (fun (w11 : Int32) => tc_jn (fun (w15 : Int32) (o16 : Option Nat) => tc_jn (Option.bind (f_L_below (a3 >>> ((9 : Int32) &&& 31)) 3) (fun r23 => tc_jn (fun (w25 : Int32) => Option.bind (f_L_below (a3 >>> ((4 : Int32) &&& 31)) w25) (fun r29 => tc_let ((1 : Int32) + r29) (fun v31 => tc_jn (fun (w32 : Int32) => tc_jn (fun (w40 : Int32) (x41 : tc_X) => tc_jn (fun (w45 : Int32) => (if w40 = w45 then (if w32 = 0 then some (1, x41, z) else (if ¬ w11 < 0 ∧ w11.toNatClampNeg < 16 then (if tc_zl z (5 + w11.toNatClampNeg) ≤ 40 then tc_let (tc_wf2 (tc_zl z (5 + w11.toNatClampNeg)) (tc_zf z (5 + w11.toNatClampNeg)) (nI (tc_zl z 2))) (fun u54 => tc_let (tc_zR z (5 + w11.toNatClampNeg) ((tc_zl z (5 + w11.toNatClampNeg)) + 1) u54) (fun z55 => (if tc_zl z55 2 ≤ 40 then tc_let (tc_wf2 (tc_zl z55 2) (tc_zf z55 2) v31) (fun u60 => tc_let (tc_zR z55 2 ((tc_zl z55 2) + 1) u60) (fun z61 => some (1, x41, z61))) else none))) else none) else none)) else some (0, x41, z))) (fun kc48 => (if w32 = 0 then kc48 (-1) else kc48 (nI (tc_zl z 2))))) (fun kc44 => tc_b3 (f_X2_land x w11 v31) (fun k36 r37 x38 => (if k36 = 0 then kc44 r37 x38 else (if k36 = 3 then kc44 (-1) x else none))))) (fun kc35 => (if 40 ≤ (nI (tc_zl z 2)) then kc35 0 else (if ¬ w11 < 0 ∧ w11.toNatClampNeg < 16 then (if 8 ≤ (nI (tc_zl z (5 + w11.toNatClampNeg))) then kc35 0 else Option.bind (f_S_areFine z w11 ((nI (tc_zl z (5 + w11.toNatClampNeg))) + (1 : Int32)) none) (fun r71 => (if r71 = 0 then kc35 0 else kc35 1))) else none)))))) (fun kc28 => (if r23 = 0 then kc28 60 else kc28 25)))) (fun kc20 => tc_jn ((tc_oc o16 none (fun j78 => (if tc_isc z j78 then Option.bind (f_S_canTurn z j78 w11) (fun r79 => tc_jn (fun (w82 : Int32) => tc_jn (fun (w90 : Int32) (x91 : tc_X) => tc_jn (fun (z95 : tc_Z) => tc_jn (fun (w99 : Int32) => (if w99 = 0 ∨ w99 = 1 then some (w99, x91, z95) else none)) (fun kc102 => (if w90 = w82 then kc102 1 else kc102 0))) (fun kc98 => (if w82 < 0 then kc98 z else (if 5 < tc_zl z j78 then tc_let (tc_zs z j78 5 w11) (fun z107 => tc_let (tc_zg z107 0 ((z107.1 0) + w82)) (fun z109 => kc98 z109)) else none)))) (fun kc94 => tc_b3 (f_X2_turn x w1 w11) (fun k86 r87 x88 => (if k86 = 0 then kc94 r87 x88 else (if k86 = 3 then kc94 (-1) x else none))))) (fun kc85 => (if r79 = 0 then kc85 (-1) else (if 5 < tc_zl z j78 then tc_let (tc_abs ((tc_zf z j78 5) - w11)) (fun v114 => kc85 v114) else none)))) else none)))) (fun kc75 => tc_jn ((tc_oc o16 none (fun j118 => (if tc_isc z j118 then (if 5 < tc_zl z j118 then (if ¬ (tc_zf z j118 5) < 0 ∧ (tc_zf z j118 5).toNatClampNeg < 16 then tc_let (nI (tc_zl z (5 + (tc_zf z j118 5).toNatClampNeg))) (fun v122 => Option.bind (f_L_below (a3 >>> ((7 : Int32) &&& 31)) 4) (fun r123 => tc_jn (fun (w125 : Int32) => (if 7 < tc_zl z j118 then tc_jn (fun (w130 : Int32) => tc_jn (fun (w134 : Int32) => tc_jn (fun (w138 : Int32) => tc_jn (fun (w142 : Int32) => (if 4 < tc_zl z j118 then tc_jn (fun (w147 : Int32) (z148 : tc_Z) => tc_jn (fun (w156 : Int32) (x157 : tc_X) => tc_jn (fun (w161 : Int32) => (if w161 = 0 ∨ w161 = 1 then some (w161, x157, z148) else none)) (fun kc164 => (if w156 = w147 then kc164 1 else kc164 0))) (fun kc160 => tc_b3 (f_X2_hoist x w1 w125) (fun k152 r153 x154 => (if k152 = 0 then kc160 r153 x154 else (if k152 = 3 then kc160 (-2) x else none))))) (fun kc151 => (if ((tc_zf z j118 4) + w142) ≤ 99 then (if w134 = 0 then kc151 w138 z else tc_let (tc_zs z j118 4 ((tc_zf z j118 4) + w142)) (fun z170 => (if 6 < tc_zl z170 j118 then tc_let (tc_zs z170 j118 6 w125) (fun z173 => tc_let (tc_zg z173 0 ((z173.1 0) + w138)) (fun z175 => kc151 w138 z175)) else none))) else (if ¬ (tc_zf z j118 7) < 0 ∧ (tc_zf z j118 7).toNatClampNeg < 40 then tc_let (tc_zs z 4 ((tc_zf z j118 7).toNatClampNeg) 1) (fun z178 => tc_let (tc_zg z178 1 ((z178.1 1) + (1 : Int32))) (fun z180 => (if 7 < tc_zl z180 j118 then tc_let (tc_zs z180 j118 7 (-1)) (fun z183 => (if 4 < tc_zl z183 j118 then tc_let (tc_zs z183 j118 4 99) (fun z186 => kc151 (-1) z186) else none)) else none))) else none))) else none)) (fun kc145 => (if w134 = 0 then kc145 0 else (if (tc_zf z j118 7) < 0 then kc145 0 else (if 6 < tc_zl z j118 then (if (tc_zf z j118 6) ≤ w125 then kc145 0 else (if ¬ (tc_zf z j118 7) < 0 ∧ (tc_zf z j118 7).toNatClampNeg < tc_zl z 2 then kc145 (w138 * (((tc_zf z 2 (tc_zf z j118 7).toNatClampNeg) / (20 : Int32)) + (1 : Int32))) else none)) else none))))) (fun kc141 => (if w134 = 0 then kc141 (-2) else (if 6 < tc_zl z j118 then tc_let (tc_abs (w125 - (tc_zf z j118 6))) (fun v195 => Option.bind (f_S_wound (tc_zl z j118) (tc_zf z j118) v195) (fun r196 => kc141 r196)) else none)))) (fun kc137 => (if w125 < w130 then kc137 0 else (if 6 < tc_zl z j118 then (if w125 ≤ (tc_zf z j118 6) then kc137 1 else (if (tc_zf z j118 7) < 0 then kc137 1 else (if ¬ (tc_zf z j118 7) < 0 ∧ (tc_zf z j118 7).toNatClampNeg < tc_zl z 2 then Option.bind (f_S_strong (tc_zl z j118) (tc_zf z j118) ) (fun r203 => (if r203 < (tc_zf z 2 (tc_zf z j118 7).toNatClampNeg) then kc137 0 else kc137 1)) else none))) else none)))) (fun kc133 => (if 0 ≤ (tc_zf z j118 7) then kc133 (v122 + (1 : Int32)) else kc133 v122)) else none)) (fun kc128 => (if r123 = 0 then Option.bind (f_L_below (a3 >>> ((4 : Int32) &&& 31)) 21) (fun r213 => kc128 r213) else Option.bind (f_L_below (a3 >>> ((9 : Int32) &&& 31)) 3) (fun r208 => (if r208 = 0 then kc128 10 else (if 7 < tc_zl z j118 then (if 0 ≤ (tc_zf z j118 7) then kc128 (v122 + (1 : Int32)) else kc128 v122) else none))))))) else none) else none) else none)))) (fun kc115 => tc_jn ((tc_oc o16 none (fun j218 => (if tc_isc z j218 then (if 5 < tc_zl z j218 then (if ¬ (tc_zf z j218 5) < 0 ∧ (tc_zf z j218 5).toNatClampNeg < 16 then tc_let (nI (tc_zl z (5 + (tc_zf z j218 5).toNatClampNeg))) (fun v222 => (if 7 < tc_zl z j218 then tc_jn (fun (w224 : Int32) => tc_jn (fun (w232 : Int32) (x233 : tc_X) => tc_jn (fun (w237 : Int32) => (if w232 = w237 then (if w224 = 0 then some (1, x233, z) else tc_let (tc_zs z j218 7 w232) (fun z243 => (if 5 < tc_zl z243 j218 then (if ¬ (tc_zf z243 j218 5) < 0 ∧ (tc_zf z243 j218 5).toNatClampNeg < 16 then (if 0 < tc_zl z243 (5 + (tc_zf z243 j218 5).toNatClampNeg) ∧ tc_zl z243 (5 + (tc_zf z243 j218 5).toNatClampNeg) ≤ 40 then tc_let (tc_wo2 (tc_zl z243 (5 + (tc_zf z243 j218 5).toNatClampNeg)) (tc_zf z243 (5 + (tc_zf z243 j218 5).toNatClampNeg))) (fun u249 => tc_let (tc_zR z243 (5 + (tc_zf z243 j218 5).toNatClampNeg) ((tc_zl z243 (5 + (tc_zf z243 j218 5).toNatClampNeg)) - 1) u249) (fun z250 => some (1, x233, z250))) else none) else none) else none))) else some (0, x233, z))) (fun kc240 => (if w224 = 0 then kc240 (-1) else (if ¬ (v222 - (1 : Int32)) < 0 ∧ (v222 - (1 : Int32)).toNatClampNeg < tc_zl z (5 + (tc_zf z j218 5).toNatClampNeg) then kc240 (tc_zf z (5 + (tc_zf z j218 5).toNatClampNeg) (v222 - (1 : Int32)).toNatClampNeg) else none)))) (fun kc236 => tc_b3 (f_X2_take x w1) (fun k228 r229 x230 => (if k228 = 0 then kc236 r229 x230 else (if k228 = 3 then kc236 (-1) x else none))))) (fun kc227 => (if 0 ≤ (tc_zf z j218 7) then kc227 0 else (if v222 ≤ 0 then kc227 0 else (if 6 < tc_zl z j218 then (if (tc_zf z j218 6) = v222 then kc227 1 else kc227 0) else none)))) else none)) else none) else none) else none)))) (fun kc215 => (if w15 = 0 then kc20 else (if w15 = 1 then kc20 else (if w15 = 2 then kc20 else (if w15 = 3 then tc_let (fun _ : Nat => (0 : Int32)) (fun u267 => tc_let (upd u267 0 w11) (fun u269 => Option.bind (f_L_below (a3 >>> ((4 : Int32) &&& 31)) 15) (fun r270 => tc_let (upd u269 1 ((1 : Int32) + r270)) (fun u272 => Option.bind (f_L_below (a3 >>> ((8 : Int32) &&& 31)) 6) (fun r273 => tc_let (upd u272 2 ((1 : Int32) + r273)) (fun u275 => Option.bind (f_L_below (a3 >>> ((3 : Int32) &&& 31)) 9) (fun r276 => tc_let (upd u275 3 r276) (fun u278 => tc_let (upd u278 4 0) (fun u279 => tc_let (upd u279 5 w11) (fun u280 => tc_let (upd u280 6 10) (fun u281 => tc_let (upd u281 7 (-1)) (fun u282 => tc_jn (fun (w287 : Int32) (x288 : tc_X) => tc_let (nI (tc_zn z)) (fun v292 => tc_jn (fun (w293 : Int32) => (if w287 = w293 then (if 0 ≤ w287 then (if tc_zn z < 5 ∧ v292 = nI (tc_zn z) then tc_let (tc_zC z u282) (fun z300 => some (1, x288, z300)) else none) else some (1, x288, z)) else some (0, x288, z))) (fun kc296 => (if 5 ≤ v292 then kc296 (-1) else kc296 v292)))) (fun kc291 => tc_b3 (f_X2_build x w11 (u282 1) (u282 2) (u282 3)) (fun k283 r284 x285 => (if k283 = 0 then kc291 r284 x285 else (if k283 = 3 then kc291 (-1) x else none)))))))))))))))) else (if w15 = 4 then (tc_oc o16 none (fun j307 => (if tc_isc z j307 then (if 3 < tc_zl z j307 then tc_let (tc_zf z j307 3) (fun v310 => Option.bind (f_L_below (a3 >>> ((6 : Int32) &&& 31)) 9) (fun r311 => tc_let (tc_zs z j307 3 r311) (fun z313 => (if 3 < tc_zl z313 j307 then tc_b3 (f_X2_man x w1 (tc_zf z313 j307 3)) (fun k316 r317 x318 => (if k316 = 0 then tc_jn (fun (w321 : Int32) => (if w321 = 0 ∨ w321 = 1 then some (w321, x318, z313) else none)) (fun kc324 => (if r317 = v310 then kc324 1 else kc324 0)) else none)) else none)))) else none) else none))) else (if w15 = 5 then Option.bind (f_L_below (a3 >>> ((8 : Int32) &&& 31)) 3) (fun r328 => (if r328 ≤ 0 then (tc_oc o16 none (fun j331 => (if tc_isc z j331 then (if 4 < tc_zl z j331 then tc_let (tc_zf z j331 4) (fun v334 => tc_let (tc_zs z j331 4 0) (fun z335 => tc_b3 (f_X2_mend x w1) (fun k337 r338 x339 => (if k337 = 0 then tc_jn (fun (w342 : Int32) => (if w342 = 0 ∨ w342 = 1 then some (w342, x339, z335) else none)) (fun kc345 => (if r338 = v334 then kc345 1 else kc345 0)) else none)))) else none) else none))) else some (1, x, z))) else (if w15 = 6 then kc75 else (if w15 = 7 then kc75 else (if w15 = 8 then kc115 else (if w15 = 9 then kc115 else (if w15 = 10 then kc115 else (if w15 = 11 then kc215 else (if w15 = 12 then kc215 else (tc_oc o16 none (fun j355 => (if tc_isc z j355 then (if 5 < tc_zl z j355 then (if ¬ (tc_zf z j355 5) < 0 ∧ (tc_zf z j355 5).toNatClampNeg < 16 then tc_let (nI (tc_zl z (5 + (tc_zf z j355 5).toNatClampNeg))) (fun v359 => (if 7 < tc_zl z j355 then tc_jn (fun (w361 : Int32) => tc_jn (fun (w369 : Int32) (x370 : tc_X) => tc_jn (fun (w374 : Int32) => (if w369 = w374 then (if w361 = 0 then some (1, x370, z) else (if tc_zl z (5 + (tc_zf z j355 5).toNatClampNeg) ≤ 40 then tc_let (tc_wf2 (tc_zl z (5 + (tc_zf z j355 5).toNatClampNeg)) (tc_zf z (5 + (tc_zf z j355 5).toNatClampNeg)) (tc_zf z j355 7)) (fun u382 => tc_let (tc_zR z (5 + (tc_zf z j355 5).toNatClampNeg) ((tc_zl z (5 + (tc_zf z j355 5).toNatClampNeg)) + 1) u382) (fun z383 => (if 7 < tc_zl z383 j355 then tc_let (tc_zs z383 j355 7 (-1)) (fun z389 => some (1, x370, z389)) else none))) else none)) else some (0, x370, z))) (fun kc377 => (if w361 = 0 then kc377 (-1) else kc377 (v359 + (1 : Int32))))) (fun kc373 => tc_b3 (f_X2_lay x w1) (fun k365 r366 x367 => (if k365 = 0 then kc373 r366 x367 else (if k365 = 3 then kc373 (-1) x else none))))) (fun kc364 => (if (tc_zf z j355 7) < 0 then kc364 0 else (if 6 < tc_zl z j355 then (if (tc_zf z j355 6) = (v359 + (1 : Int32)) then (if 8 ≤ v359 then kc364 0 else Option.bind (f_S_areFine z (tc_zf z j355 5) (v359 + (1 : Int32)) (some j355)) (fun r397 => (if r397 = 0 then kc364 0 else kc364 1))) else kc364 0) else none))) else none)) else none) else none) else none))))))))))))))))))))) (fun kc19 => (tc_oc o5 (Option.bind (f_L_below a3 14) (fun r401 => (if r401 ≤ 3 then Option.bind (f_L_below a3 14) (fun r404 => kc19 r404 none) else kc19 3 none))) (fun j400 => Option.bind (f_L_below a3 14) (fun r406 => kc19 r406 (some j400)))))) (fun kc14 => (if r9 = 0 then Option.bind (f_L_below (a3 >>> ((6 : Int32) &&& 31)) 16) (fun r411 => kc14 r411) else Option.bind (f_L_below (a3 >>> ((7 : Int32) &&& 31)) 5) (fun r409 => kc14 ((4 : Int32) + r409)))))) (fun kc8 => (if 0 ≤ w1 then (if ¬ w1 < 0 ∧ w1.toNatClampNeg < tc_zn z then kc8 (some (21 + w1.toNatClampNeg)) else none) else kc8 none))) (fun kc4 => (if (nI (tc_zn z)) = 0 then kc4 (-1) else Option.bind (f_L_below (a3 >>> ((3 : Int32) &&& 31)) (nI (tc_zn z))) (fun r416 => kc4 r416)))
set_option maxHeartbeats 16000000 in
set_option maxRecDepth 100000 in
theorem mt_L_act (l : Launch) (hst : l.stackTraces = false) (D : va_G) (cU cO cI cII cZ : ClassId) (e0 : Nat) (A : Nat → Prop) (E F : Nat → Nat) (x : tc_X) (z : tc_Z) (a3 : Int32) (hwf : tc_wf x) (r : Int32) (x' : tc_X) (z' : tc_Z) (hF : f_L_act x z a3 = some (r, x', z')) : Met l yL_act wsL_act ({ frames := 8, cells := 6, slots := 161, locals := 181 } : Room) (va_Pc [.ref (E 0), .ref (F 0), .int a3] (fun U => tc_WL D cU cO cI cII cZ e0 A E F x z U.heap ∧ tc_KX D cU cO cI e0 A U ∧ tc_KS D cI cII cZ U)) (tc_Qw (some (.int r)) (fun H9 => ∃ E9 F9 : Nat → Nat, E9 0 = E 0 ∧ F9 0 = F 0 ∧ tc_WL D cU cO cI cII cZ e0 A E9 F9 x' z' H9) A) 6 161 A := by
  refine va_MetW (cc := cL_act) (maxL := 13) (ret := (some .boolean)) (by decide) rfl ?_
  intro p e s m args below meth c s₁ B hml hv
  obtain ⟨rfl, hW, hKX, hKF⟩ := hv
  have hx := B.exec
  have hb := B.bytes
  have hr := B.returns
  have hts := atoms_spec (ws := wsL_act) B.pre
  have hown : s.vm.findClass RL = some m.cls := findClass_of_methodNamed B.named
  have hlocks := B.notSynchronized
  have htab := vx_table (x := yL_act) B (hts _ List.mem_cons_self)
  have hK := hKX.1.1
  have hKS := hKF.1
  have hA0 := hKX.2.1
  have hAn := hKX.2.1
  have hAe := hW.2.2
  have hEF : E 0 = E 0 ∧ F 0 = F 0 := ⟨rfl, rfl⟩
  have heA := hW.2.2
  have hS : va_S A s.heap s.heap [] := va_S.rf
  have hinX3 : ∀ w ∈ wsX30, w ∈ wsL_act := fun w9 h9 => List.mem_cons_of_mem _ (List.mem_append_left _ (List.mem_append_left _ (List.mem_append_left _ (List.mem_append_left _ (List.mem_append_left _ (List.mem_append_left _ (List.mem_append_left _ (List.mem_append_right _ h9))))))))
  have hl := lv_entry ([.ref (E 0), .ref (F 0), .int a3]) (n := 13) (Nat.le_of_ble_eq_true rfl)
  rw [lg_entry_eq]
  generalize (lg_sl ([.ref (E 0), .ref (F 0), .int a3]) ++ List.replicate (13 - (lg_sl ([.ref (E 0), .ref (F 0), .int a3])).length) Slot.unset).toArray = ls at hl ⊢
  have hl : lv_has ls 13 [(0, .ref (E 0)), (1, .ref (F 0)), (2, .int a3)] := hl
  refine tc_hideQ (R9 := ({ frames := 8, cells := 6, slots := 161, locals := 181 } : Room)) rfl (fun QQ eQQ => ?_)
  refine lv_aload_n hx hb dL_act_0 rfl (lv_at hl 1 rfl) ?_
  refine tc_get (v := .ref (F 3)) hx hb hts hinX3 hown hK (hW.2.1.o) (C := RX3) (T := TX3) (N := 6) rfl 4 (by decide) (hts (.fieldLink RL 9 "TreadCranesLaw$Sim" "cranes" "[[I") (List.mem_of_getElem? (i := 2) rfl)) (fun _ h9 => h9) rfl dL_act_1 ?_
  refine tc_alen (v := nI (tc_zn z)) hx hb hKS hW.2.1.c 0 rfl rfl dL_act_4 ?_
  obtain ⟨kc4, ekc4, hF⟩ := tc_jx hF
  have Jkc4 : ∀ (w1 : Int32) (E2 F3 : Nat → Nat) (H : Heap) (locs : List Loc) (ls : Array Slot), kc4 w1 = some (r, x', z') → lv_has ls 13 [(2, .int a3), (1, .ref (F3 0)), (0, .ref (E2 0))] → tc_WL D cU cO cI cII cZ e0 A E2 F3 x z H → E2 0 = E 0 ∧ F3 0 = F 0 → va_S A s.heap H locs → W p l e ({ frames := 8, cells := 6, slots := 161, locals := 181 } : Room) s m (([.ref (E 0), .ref (F 0), .int a3] : List Value).toArray) below meth c H locs (0) (0) QQ (F0 m 23 ls [.int w1]) := by
    intro w1 E2 F3 H locs ls hF hl hW hEF hS
    rw [ekc4] at hF
    dsimp only at hF
    refine lv_istore_n (lv' := [(3, .int w1), (2, .int a3), (1, .ref (F3 0)), (0, .ref (E2 0))]) hx hb dL_act_23 rfl hl (by decide) rfl (fun ls hl => ?_)
    refine lv_iload_n hx hb dL_act_24 rfl (lv_at hl 0 rfl) ?_
    obtain ⟨kc8, ekc8, hF⟩ := tc_jx hF
    have Jkc8 : ∀ (o5 : Option Nat) (E6 F7 : Nat → Nat) (H : Heap) (locs : List Loc) (ls : Array Slot), kc8 o5 = some (r, x', z') → lv_has ls 13 [(3, .int w1), (2, .int a3), (1, .ref (F7 0)), (0, .ref (E6 0))] → tc_WL D cU cO cI cII cZ e0 A E6 F7 x z H → E6 0 = E 0 ∧ F7 0 = F 0 → va_S A s.heap H locs → W p l e ({ frames := 8, cells := 6, slots := 161, locals := 181 } : Room) s m (([.ref (E 0), .ref (F 0), .int a3] : List Value).toArray) below meth c H locs (0) (0) QQ (F0 m 38 ls [va_rf (tc_af F7 o5)]) := by
      intro o5 E6 F7 H locs ls hF hl hW hEF hS
      rw [ekc8] at hF
      dsimp only at hF
      refine tc_astoreO (lv' := [(4, va_rf (tc_af F7 o5)), (3, .int w1), (2, .int a3), (1, .ref (F7 0)), (0, .ref (E6 0))]) hx hb dL_act_38 hl (by decide) rfl (fun ls hl => ?_)
      refine lv_iload_n hx hb dL_act_40 rfl (lv_at hl 2 rfl) ?_
      refine lv_iconst (v := 5) hx hb dL_act_41 (by decide) ?_
      refine lv_ishr hx hb dL_act_42 ?_
      refine lv_iconst (v := 2) hx hb dL_act_43 (by decide) ?_
      obtain ⟨r9, h10, hF⟩ := tc_bi hF
      refine tc_cr (W.runS (As := [.int (a3 >>> ((5 : Int32) &&& 31)), .int 2]) (rest := []) ⟨hx, hb, hml, hown, hts⟩ (mt_L_below l (a3 >>> ((5 : Int32) &&& 31)) 2 r9 h10) (va_cwS 2 hts gL_act_L_below rfl rfl rfl (by decide +kernel) ⟨Nat.le_of_ble_eq_true rfl, Nat.le_of_ble_eq_true rfl⟩) ⟨fun a U g mk q => q, fun U hU hW9 => ⟨rfl, trivial⟩⟩ rfl rfl hl.1 rfl (lv_room (Nat.le_of_ble_eq_true rfl)) dL_act_44 ⟨(by show _ ≤ (6 : Nat); omega), (by show _ ≤ (161 : Nat); omega)⟩) ?_
      obtain ⟨kc14, ekc14, hF⟩ := tc_jx hF
      have Jkc14 : ∀ (w11 : Int32) (E12 F13 : Nat → Nat) (H : Heap) (locs : List Loc) (ls : Array Slot), kc14 w11 = some (r, x', z') → lv_has ls 13 [(4, va_rf (tc_af F13 o5)), (3, .int w1), (2, .int a3), (1, .ref (F13 0)), (0, .ref (E12 0))] → tc_WL D cU cO cI cII cZ e0 A E12 F13 x z H → E12 0 = E 0 ∧ F13 0 = F 0 → va_S A s.heap H locs → W p l e ({ frames := 8, cells := 6, slots := 161, locals := 181 } : Room) s m (([.ref (E 0), .ref (F 0), .int a3] : List Value).toArray) below meth c H locs (0) (0) QQ (F0 m 72 ls [.int w11]) := by
        intro w11 E12 F13 H locs ls hF hl hW hEF hS
        rw [ekc14] at hF
        dsimp only at hF
        refine lv_istore (lv' := [(5, .int w11), (4, va_rf (tc_af F13 o5)), (3, .int w1), (2, .int a3), (1, .ref (F13 0)), (0, .ref (E12 0))]) hx hb dL_act_72 hl (by decide) (by cases o5 <;> rfl) (fun ls hl => ?_)
        obtain ⟨kc19, ekc19, hF⟩ := tc_jx hF
        have Jkc19 : ∀ (w15 : Int32) (o16 : Option Nat) (E17 F18 : Nat → Nat) (H : Heap) (locs : List Loc) (ls : Array Slot), kc19 w15 o16 = some (r, x', z') → lv_has ls 13 [(5, .int w11), (4, va_rf (tc_af F18 o16)), (3, .int w1), (2, .int a3), (1, .ref (F18 0)), (0, .ref (E17 0))] → tc_WL D cU cO cI cII cZ e0 A E17 F18 x z H → E17 0 = E 0 ∧ F18 0 = F 0 → va_S A s.heap H locs → W p l e ({ frames := 8, cells := 6, slots := 161, locals := 181 } : Room) s m (([.ref (E 0), .ref (F 0), .int a3] : List Value).toArray) below meth c H locs (0) (0) QQ (F0 m 99 ls [.int w15]) := by
          intro w15 o16 E17 F18 H locs ls hF hl hW hEF hS
          rw [ekc19] at hF
          dsimp only at hF
          obtain ⟨kc20, ekc20, hF⟩ := tc_jx hF
          have Jkc20 : ∀  (E21 F22 : Nat → Nat) (H : Heap) (locs : List Loc) (ls : Array Slot), kc20 = some (r, x', z') → lv_has ls 13 [(5, .int w11), (2, .int a3), (1, .ref (F22 0)), (0, .ref (E21 0))] → tc_WL D cU cO cI cII cZ e0 A E21 F22 x z H → E21 0 = E 0 ∧ F22 0 = F 0 → va_S A s.heap H locs → W p l e ({ frames := 8, cells := 6, slots := 161, locals := 181 } : Room) s m (([.ref (E 0), .ref (F 0), .int a3] : List Value).toArray) below meth c H locs (0) (0) QQ (F0 m 164 ls []) := by
            intro  E21 F22 H locs ls hF hl hW hEF hS
            rw [ekc20] at hF
            refine lv_iconst (v := 1) hx hb dL_act_164 (by decide) ?_
            refine lv_iload_n hx hb dL_act_165 rfl (lv_at hl 1 rfl) ?_
            refine lv_iconst (v := 4) hx hb dL_act_166 (by decide) ?_
            refine lv_ishr hx hb dL_act_167 ?_
            refine lv_iload_n hx hb dL_act_168 rfl (lv_at hl 1 rfl) ?_
            refine lv_bipush (v := 9) hx hb dL_act_169 (by decide) ?_
            refine lv_ishr hx hb dL_act_171 ?_
            refine lv_iconst (v := 3) hx hb dL_act_172 (by decide) ?_
            obtain ⟨r23, h24, hF⟩ := tc_bi hF
            refine tc_cr (W.runS (As := [.int (a3 >>> ((9 : Int32) &&& 31)), .int 3]) (rest := [.int (a3 >>> ((4 : Int32) &&& 31)), .int 1]) ⟨hx, hb, hml, hown, hts⟩ (mt_L_below l (a3 >>> ((9 : Int32) &&& 31)) 3 r23 h24) (va_cwS 2 hts gL_act_L_below rfl rfl rfl (by decide +kernel) ⟨Nat.le_of_ble_eq_true rfl, Nat.le_of_ble_eq_true rfl⟩) ⟨fun a U g mk q => q, fun U hU hW9 => ⟨rfl, trivial⟩⟩ rfl rfl hl.1 rfl (lv_room (Nat.le_of_ble_eq_true rfl)) dL_act_173 ⟨(by show _ ≤ (6 : Nat); omega), (by show _ ≤ (161 : Nat); omega)⟩) ?_
            obtain ⟨kc28, ekc28, hF⟩ := tc_jx hF
            have Jkc28 : ∀ (w25 : Int32) (E26 F27 : Nat → Nat) (H : Heap) (locs : List Loc) (ls : Array Slot), kc28 w25 = some (r, x', z') → lv_has ls 13 [(5, .int w11), (1, .ref (F27 0)), (0, .ref (E26 0))] → tc_WL D cU cO cI cII cZ e0 A E26 F27 x z H → E26 0 = E 0 ∧ F27 0 = F 0 → va_S A s.heap H locs → W p l e ({ frames := 8, cells := 6, slots := 161, locals := 181 } : Room) s m (([.ref (E 0), .ref (F 0), .int a3] : List Value).toArray) below meth c H locs (0) (0) QQ (F0 m 186 ls [.int w25, .int (a3 >>> ((4 : Int32) &&& 31)), .int 1]) := by
              intro w25 E26 F27 H locs ls hF hl hW hEF hS
              rw [ekc28] at hF
              dsimp only at hF
              obtain ⟨r29, h30, hF⟩ := tc_bi hF
              refine tc_cr (W.runS (As := [.int (a3 >>> ((4 : Int32) &&& 31)), .int w25]) (rest := [.int 1]) ⟨hx, hb, hml, hown, hts⟩ (mt_L_below l (a3 >>> ((4 : Int32) &&& 31)) w25 r29 h30) (va_cwS 2 hts gL_act_L_below rfl rfl rfl (by decide +kernel) ⟨Nat.le_of_ble_eq_true rfl, Nat.le_of_ble_eq_true rfl⟩) ⟨fun a U g mk q => q, fun U hU hW9 => ⟨rfl, trivial⟩⟩ rfl rfl hl.1 rfl (lv_room (Nat.le_of_ble_eq_true rfl)) dL_act_186 ⟨(by show _ ≤ (6 : Nat); omega), (by show _ ≤ (161 : Nat); omega)⟩) ?_
              refine lv_iadd hx hb dL_act_189 ?_
              refine lv_topi (fun v31 ev31 => ?_)
              have hF := tc_lt hF ev31
              refine lv_istore (lv' := [(7, .int v31), (5, .int w11), (1, .ref (F27 0)), (0, .ref (E26 0))]) hx hb dL_act_190 hl (by decide) rfl (fun ls hl => ?_)
              refine lv_aload_n hx hb dL_act_192 rfl (lv_at hl 2 rfl) ?_
              refine tc_get (v := .ref (F27 2)) hx hb hts hinX3 hown hK (hW.2.1.o) (C := RX3) (T := TX3) (N := 6) rfl 3 (by decide) (hts (.fieldLink RL 21 "TreadCranesLaw$Sim" "weights" "[I") (List.mem_of_getElem? (i := 3) rfl)) (fun _ h9 => h9) rfl dL_act_193 ?_
              refine tc_alen (v := nI (tc_zl z 2)) hx hb hK (hW.2.1.r tc_isrW) 2 rfl rfl dL_act_196 ?_
              refine lv_bipush (v := 40) hx hb dL_act_197 (by decide) ?_
              obtain ⟨kc35, ekc35, hF⟩ := tc_jx hF
              have Jkc35 : ∀ (w32 : Int32) (E33 F34 : Nat → Nat) (H : Heap) (locs : List Loc) (ls : Array Slot), kc35 w32 = some (r, x', z') → lv_has ls 13 [(7, .int v31), (5, .int w11), (1, .ref (F34 0)), (0, .ref (E33 0))] → tc_WL D cU cO cI cII cZ e0 A E33 F34 x z H → E33 0 = E 0 ∧ F34 0 = F 0 → va_S A s.heap H locs → W p l e ({ frames := 8, cells := 6, slots := 161, locals := 181 } : Room) s m (([.ref (E 0), .ref (F 0), .int a3] : List Value).toArray) below meth c H locs (0) (0) QQ (F0 m 240 ls [.int w32]) := by
                intro w32 E33 F34 H locs ls hF hl hW hEF hS
                rw [ekc35] at hF
                dsimp only at hF
                refine lv_istore (lv' := [(8, .int w32), (7, .int v31), (5, .int w11), (1, .ref (F34 0)), (0, .ref (E33 0))]) hx hb dL_act_240 hl (by decide) rfl (fun ls hl => ?_)
                refine lv_aload_n hx hb dL_act_242 rfl (lv_at hl 4 rfl) ?_
                refine lv_iload hx hb dL_act_243 (lv_at hl 2 rfl) ?_
                refine lv_iload hx hb dL_act_245 (lv_at hl 1 rfl) ?_
                obtain ⟨kc44, ekc44, hF⟩ := tc_jx hF
                have Jkc44 : ∀ (w40 : Int32) (x41 : tc_X) (E42 F43 : Nat → Nat) (H : Heap) (locs : List Loc) (ls : Array Slot), kc44 w40 x41 = some (r, x', z') → lv_has ls 13 [(8, .int w32), (7, .int v31), (6, .int w40), (5, .int w11), (1, .ref (F43 0))] → tc_WL D cU cO cI cII cZ e0 A E42 F43 x41 z H → E42 0 = E 0 ∧ F43 0 = F 0 → va_S A s.heap H locs → W p l e ({ frames := 8, cells := 6, slots := 161, locals := 181 } : Room) s m (([.ref (E 0), .ref (F 0), .int a3] : List Value).toArray) below meth c H locs (4) (79) QQ (F0 m 260 ls []) := by
                  intro w40 x41 E42 F43 H locs ls hF hl hW hEF hS
                  rw [ekc44] at hF
                  dsimp only at hF
                  refine lv_iload hx hb dL_act_260 (lv_at hl 2 rfl) ?_
                  refine lv_iload hx hb dL_act_262 (lv_at hl 0 rfl) ?_
                  obtain ⟨kc48, ekc48, hF⟩ := tc_jx hF
                  have Jkc48 : ∀ (w45 : Int32) (E46 F47 : Nat → Nat) (H : Heap) (locs : List Loc) (ls : Array Slot), kc48 w45 = some (r, x', z') → lv_has ls 13 [(8, .int w32), (7, .int v31), (5, .int w11), (1, .ref (F47 0))] → tc_WL D cU cO cI cII cZ e0 A E46 F47 x41 z H → E46 0 = E 0 ∧ F47 0 = F 0 → va_S A s.heap H locs → W p l e ({ frames := 8, cells := 6, slots := 161, locals := 181 } : Room) s m (([.ref (E 0), .ref (F 0), .int a3] : List Value).toArray) below meth c H locs (4) (79) QQ (F0 m 276 ls [.int w45, .int w40]) := by
                    intro w45 E46 F47 H locs ls hF hl hW hEF hS
                    rw [ekc48] at hF
                    dsimp only at hF
                    refine lv_icmp_eq (tgt := 281) hx hb dL_act_276 (by decide) (fun c49 => ?_) (fun c49 => ?_)
                    · have hF := tc_it hF c49
                      refine lv_iload hx hb dL_act_281 (lv_at hl 0 rfl) ?_
                      refine lv_if_ne (tgt := 288) hx hb dL_act_283 (by decide) (fun c50 => ?_) (fun c50 => ?_)
                      · have hF := tc_if hF c50
                        refine lv_aload_n hx hb dL_act_288 rfl (lv_at hl 3 rfl) ?_
                        refine tc_get (v := .ref (F47 1)) hx hb hts hinX3 hown hK (hW.2.1.o) (C := RX3) (T := TX3) (N := 6) rfl 2 (by decide) (hts (.fieldLink RL 25 "TreadCranesLaw$Sim" "quay" "[[I") (List.mem_of_getElem? (i := 4) rfl)) (fun _ h9 => h9) rfl dL_act_289 ?_
                        refine lv_iload hx hb dL_act_292 (lv_at hl 2 rfl) ?_
                        refine lv_aload_n hx hb dL_act_294 rfl (lv_at hl 3 rfl) ?_
                        refine tc_get (v := .ref (F47 1)) hx hb hts hinX3 hown hK (hW.2.1.o) (C := RX3) (T := TX3) (N := 6) rfl 2 (by decide) (hts (.fieldLink RL 25 "TreadCranesLaw$Sim" "quay" "[[I") (List.mem_of_getElem? (i := 4) rfl)) (fun _ h9 => h9) rfl dL_act_295 ?_
                        refine lv_iload hx hb dL_act_298 (lv_at hl 2 rfl) ?_
                        obtain ⟨g51, hF⟩ := tc_ob hF
                        refine tc_aaldA2 (q := F47 (5 + w11.toNatClampNeg)) (j := w11.toNatClampNeg) (rfl) hx hb hKS hW.2.1.q 0 rfl g51 dL_act_300 rfl ?_
                        refine lv_aload_n hx hb dL_act_301 rfl (lv_at hl 3 rfl) ?_
                        refine tc_get (v := .ref (F47 2)) hx hb hts hinX3 hown hK (hW.2.1.o) (C := RX3) (T := TX3) (N := 6) rfl 3 (by decide) (hts (.fieldLink RL 21 "TreadCranesLaw$Sim" "weights" "[I") (List.mem_of_getElem? (i := 3) rfl)) (fun _ h9 => h9) rfl dL_act_302 ?_
                        refine tc_alen (v := nI (tc_zl z 2)) hx hb hK (hW.2.1.r tc_isrW) 2 rfl rfl dL_act_305 ?_
                        obtain ⟨g52, hF⟩ := tc_ob hF
                        refine tc_cn (va_runS (As := [.ref (F47 (5 + w11.toNatClampNeg)), .int (nI (tc_zl z 2))]) (rest := [.int w11, .ref (F47 1)]) ⟨hx, hb, hml, hown, hts⟩ (mt_X3_with l D cU cO cI A (F47 (5 + w11.toNatClampNeg)) (tc_zl z (5 + w11.toNatClampNeg)) (tc_zf z (5 + w11.toNatClampNeg)) (nI (tc_zl z 2)) g52) (va_cwS 2 hts gL_act_X3_with rfl rfl rfl (by decide +kernel) ⟨Nat.le_of_ble_eq_true rfl, Nat.le_of_ble_eq_true rfl⟩) ⟨fun a U g mk q => ⟨q.1, q.2.1, va_K.moved (Vm.Alike.refl U.vm) q.2.2.1, q.2.2.2⟩, fun U hU hW9 => ⟨rfl, by rw [hU]; exact (hW.2.1.r (tc_isrQ (show ¬ w11 < 0 ∧ w11.toNatClampNeg < 16 from g51).2)), va_K.moved hW9.alike hK, by rw [hU]; exact (fun z9 h9 => by exact hAn z9 (Nat.le_trans hS.1 h9))⟩⟩ rfl rfl hl.1 rfl (lv_room (Nat.le_of_ble_eq_true rfl)) dL_act_306 ⟨(by show _ ≤ (6 : Nat); omega), (by show _ ≤ (161 : Nat); omega)⟩) hS (fun z9 h9 => h9.elim (fun h9 => h9) (fun h8 => by rw [h8]; exact (hW.2.1.own (tc_isr.sl (z := z) (tc_isrQ (show ¬ w11 < 0 ∧ w11.toNatClampNeg < 16 from g51).2))))) (fun q53 H locs hq_q53 et_q53 o1 hS => ?_)
                        have hr_q53 := hq_q53.2
                        have hq_q53 := hq_q53.1
                        obtain ⟨u54, eu54⟩ : ∃ z9 : Nat → Int32, z9 = tc_wf2 (tc_zl z (5 + w11.toNatClampNeg)) (tc_zf z (5 + w11.toNatClampNeg)) (nI (tc_zl z 2)) := ⟨_, rfl⟩
                        have hF := tc_lt hF eu54
                        rw [← eu54] at et_q53
                        have hnc_q53 := hW.neE hq_q53
                        have hnf_q53 := hW.neF hq_q53
                        have hW := hW.grown o1
                        refine tc_aastA2 (j := w11.toNatClampNeg) (rfl) hx hb hK 2 rfl hKF hW.2.1.q hS (hW.2.1.own (tc_slf (by decide))) et_q53 g51 dL_act_309 (fun H locs e1 z1 o1 hS => ?_)
                        have et_q53 := et_q53.kept (o1 _ (fun h9 => hnf_q53 1 (tc_slf (by decide)) h9.symm))
                        have hW1 := hW.sQ (show ¬ w11 < 0 ∧ w11.toNatClampNeg < 16 from g51).2 hr_q53 hnc_q53 hnf_q53 e1 o1 et_q53
                        obtain ⟨z55, ez55⟩ : ∃ z9 : tc_Z, z9 = tc_zR z (5 + w11.toNatClampNeg) ((tc_zl z (5 + w11.toNatClampNeg)) + 1) u54 := ⟨_, rfl⟩
                        have hF := tc_lt hF ez55
                        obtain ⟨F56, eF56⟩ : ∃ z9 : Nat → Nat, z9 = va_up F47 (5 + w11.toNatClampNeg) q53 := ⟨_, rfl⟩
                        have hW : tc_WL D cU cO cI cII cZ e0 A E46 F56 x41 z55 H := by rw [ez55, eF56]; exact hW1
                        have h57 : F56 0 = F47 0 := by rw [eF56]; exact va_up_ne _ _ (by omega)
                        have hEF := And.intro hEF.1 (h57.trans hEF.2)
                        have hl : lv_has ls 13 [(8, .int w32), (7, .int v31), (5, .int w11), (1, .ref (F56 0))] := by simp only [h57]; exact hl
                        refine lv_aload_n hx hb dL_act_310 rfl (lv_at hl 3 rfl) ?_
                        refine lv_aload_n hx hb dL_act_311 rfl (lv_at hl 3 rfl) ?_
                        refine tc_get (v := .ref (F56 2)) hx hb hts hinX3 hown hK (hW.2.1.o) (C := RX3) (T := TX3) (N := 6) rfl 3 (by decide) (hts (.fieldLink RL 21 "TreadCranesLaw$Sim" "weights" "[I") (List.mem_of_getElem? (i := 3) rfl)) (fun _ h9 => h9) rfl dL_act_312 ?_
                        refine lv_iload hx hb dL_act_315 (lv_at hl 1 rfl) ?_
                        obtain ⟨g58, hF⟩ := tc_ob hF
                        refine tc_cn (va_runS (As := [.ref (F56 2), .int v31]) (rest := [.ref (F56 0)]) ⟨hx, hb, hml, hown, hts⟩ (mt_X3_with l D cU cO cI A (F56 2) (tc_zl z55 2) (tc_zf z55 2) v31 g58) (va_cwS 2 hts gL_act_X3_with rfl rfl rfl (by decide +kernel) ⟨Nat.le_of_ble_eq_true rfl, Nat.le_of_ble_eq_true rfl⟩) ⟨fun a U g mk q => ⟨q.1, q.2.1, va_K.moved (Vm.Alike.refl U.vm) q.2.2.1, q.2.2.2⟩, fun U hU hW9 => ⟨rfl, by rw [hU]; exact (hW.2.1.r tc_isrW), va_K.moved hW9.alike hK, by rw [hU]; exact (fun z9 h9 => by exact hAn z9 (Nat.le_trans hS.1 h9))⟩⟩ rfl rfl hl.1 rfl (lv_room (Nat.le_of_ble_eq_true rfl)) dL_act_317 ⟨(by show _ ≤ (6 : Nat); omega), (by show _ ≤ (161 : Nat); omega)⟩) hS (fun z9 h9 => h9.elim (fun h9 => h9) (fun h8 => by rw [h8]; exact (hW.2.1.own (tc_isr.sl (z := z55) tc_isrW)))) (fun q59 H locs hq_q59 et_q59 o1 hS => ?_)
                        have hr_q59 := hq_q59.2
                        have hq_q59 := hq_q59.1
                        obtain ⟨u60, eu60⟩ : ∃ z9 : Nat → Int32, z9 = tc_wf2 (tc_zl z55 2) (tc_zf z55 2) v31 := ⟨_, rfl⟩
                        have hF := tc_lt hF eu60
                        rw [← eu60] at et_q59
                        have hnc_q59 := hW.neE hq_q59
                        have hnf_q59 := hW.neF hq_q59
                        have hW := hW.grown o1
                        refine tc_put (v := .ref q59) (ty := .array .int) hx hb hts hinX3 tyX3 tyX3_ok nmX3 hown hK (hW.2.1.o) hS (hW.2.1.own (tc_slf (by decide))) (C := RX3) (T := TX3) (N := 6) rfl 3 (by decide) (hts (.fieldLink RL 21 "TreadCranesLaw$Sim" "weights" "[I") (List.mem_of_getElem? (i := 3) rfl)) (fun _ h9 => h9) rfl (by decide +kernel) rfl rfl (Nat.le_of_ble_eq_true rfl) dL_act_320 (fun H locs e1 z1 o1 hS => ?_)
                        have et_q59 := et_q59.kept (o1 _ (fun h9 => hnf_q59 0 (tc_slf (by decide)) h9.symm))
                        have hW1 := hW.sW hr_q59 hnc_q59 hnf_q59 e1 o1 et_q59
                        obtain ⟨z61, ez61⟩ : ∃ z9 : tc_Z, z9 = tc_zR z55 2 ((tc_zl z55 2) + 1) u60 := ⟨_, rfl⟩
                        have hF := tc_lt hF ez61
                        obtain ⟨F62, eF62⟩ : ∃ z9 : Nat → Nat, z9 = va_up F56 2 q59 := ⟨_, rfl⟩
                        have hW : tc_WL D cU cO cI cII cZ e0 A E46 F62 x41 z61 H := by rw [ez61, eF62]; exact hW1
                        have h63 : F62 0 = F56 0 := by rw [eF62]; exact va_up_ne _ _ (by omega)
                        have hEF := And.intro hEF.1 (h63.trans hEF.2)
                        have hl : lv_has ls 13 [(8, .int w32), (7, .int v31), (5, .int w11), (1, .ref (F62 0))] := by simp only [h63]; exact hl
                        refine lv_iconst (v := 1) hx hb dL_act_323 (by decide) ?_
                        obtain ⟨h91, h92, h93⟩ := tc_pr3 (Option.some.inj hF)
                        rw [eQQ]
                        refine W.widen (k := 6) (n := 161) (by omega) (by omega) ?_
                        exact W.zret hx hb hr rfl (fun t ht hW9 => ⟨⟨by rw [← h91], by rw [← h92, ← h93, ht]; exact ⟨E46, F62, hEF.1, hEF.2, hW⟩⟩, tc_F hS ht⟩) hS.2.2 dL_act_324
                      · have hF := tc_it hF c50
                        refine lv_iconst (v := 1) hx hb dL_act_286 (by decide) ?_
                        obtain ⟨h91, h92, h93⟩ := tc_pr3 (Option.some.inj hF)
                        rw [eQQ]
                        refine W.widen (k := 6) (n := 161) (by omega) (by omega) ?_
                        exact W.zret hx hb hr rfl (fun t ht hW9 => ⟨⟨by rw [← h91], by rw [← h92, ← h93, ht]; exact ⟨E46, F47, hEF.1, hEF.2, hW⟩⟩, tc_F hS ht⟩) hS.2.2 dL_act_287
                    · have hF := tc_if hF c49
                      refine lv_iconst (v := 0) hx hb dL_act_279 (by decide) ?_
                      obtain ⟨h91, h92, h93⟩ := tc_pr3 (Option.some.inj hF)
                      rw [eQQ]
                      refine W.widen (k := 6) (n := 161) (by omega) (by omega) ?_
                      exact W.zret hx hb hr rfl (fun t ht hW9 => ⟨⟨by rw [← h91], by rw [← h92, ← h93, ht]; exact ⟨E46, F47, hEF.1, hEF.2, hW⟩⟩, tc_F hS ht⟩) hS.2.2 dL_act_280
                  refine lv_if_eq (tgt := 275) hx hb dL_act_264 (by decide) (fun c64 => ?_) (fun c64 => ?_)
                  · have hF := tc_it hF c64
                    refine lv_iconst (v := (-1)) hx hb dL_act_275 (by decide) ?_
                    exact Jkc48 (-1) E42 F43 _ _ _ hF (lv_sub hl [0, 1, 3, 4] rfl) hW hEF hS
                  · have hF := tc_if hF c64
                    refine lv_aload_n hx hb dL_act_267 rfl (lv_at hl 4 rfl) ?_
                    refine tc_get (v := .ref (F43 2)) hx hb hts hinX3 hown hK (hW.2.1.o) (C := RX3) (T := TX3) (N := 6) rfl 3 (by decide) (hts (.fieldLink RL 21 "TreadCranesLaw$Sim" "weights" "[I") (List.mem_of_getElem? (i := 3) rfl)) (fun _ h9 => h9) rfl dL_act_268 ?_
                    refine tc_alen (v := nI (tc_zl z 2)) hx hb hK (hW.2.1.r tc_isrW) 2 rfl rfl dL_act_271 ?_
                    refine lv_goto (tgt := 276) hx hb dL_act_272 (by decide) ?_
                    exact Jkc48 (nI (tc_zl z 2)) E42 F43 _ _ _ hF (lv_sub hl [0, 1, 3, 4] rfl) hW hEF hS
                obtain ⟨k36, r37, x38, h39, hF⟩ := tc_bi3 hF
                refine tc_cx (vx_runV (As := [.int w11, .int v31]) (rest := []) ⟨hx, hb, hml, hown, hts⟩ (mt_X2_land l hst D cU cO cI e0 (tc_A1 A F34 z) E33 x w11 v31 k36 r37 x38 hwf h39) (cwV 2 hts gL_act_X2_land rfl rfl rfl (by decide +kernel) ⟨Nat.le_of_ble_eq_true rfl, Nat.le_of_ble_eq_true rfl⟩) ⟨fun a U g mk q => ⟨q.1, q.2.1, q.2.2.call⟩, tc_rcv hW.1.o hK rfl, fun U hU hW9 => ⟨rfl, by rw [hU]; exact hW.1, ((hKX.go hS hU hW9).narrow (fun z9 h9 => h9.1) (by rw [hU]; exact hW.newA (fun z9 h9 => by exact hAn z9 (Nat.le_trans hS.1 h9))))⟩⟩ rfl rfl hl.1 rfl (lv_room (Nat.le_of_ble_eq_true rfl)) dL_act_247 ⟨(by show _ ≤ (6 : Nat); omega), (by show _ ≤ (161 : Nat); omega)⟩) hS (fun z9 _ h9 => h9.1) (fun z9 h9 => h9.1) (fun z9 _ h9 => h9.1) (fun ce q9 H locs c65 hB z1 o1 hS hce hcv hcl => ?_) (fun H locs c65 hB z1 o1 hS => ?_)
                · have hF := tc_if hF c65
                  obtain ⟨g9, hF⟩ := tc_ob hF
                  subst g9
                  have hW := hW.afterC hB o1
                  refine vx_catch (own := RL) (name := "java/lang/IllegalStateException") (E := "java/lang/IllegalStateException") hown [] ⟨242, 252, 255, 37⟩ [⟨394, 414, 417, 37⟩, ⟨613, 622, 625, 37⟩, ⟨958, 967, 970, 37⟩, ⟨1031, 1038, 1041, 37⟩, ⟨1176, 1183, 1186, 37⟩] htab (fun z9 h9 => absurd h9 List.not_mem_nil) (by decide) (by decide) (hts (.classLink RL 37 "java/lang/IllegalStateException") (List.mem_of_getElem? (i := 1) rfl)) (va_Nw.use rfl hKX.2.2.2.2.2.2.2.2.2.1) hce hcv hcl ?_
                  refine lv_astore (lv' := [(9, .ref q9), (8, .int w32), (7, .int v31), (5, .int w11), (1, .ref (F34 0)), (0, .ref (E33 0))]) hx hb dL_act_255 hl (by decide) rfl (fun ls hl => ?_)
                  refine lv_iconst (v := (-1)) hx hb dL_act_257 (by decide) ?_
                  refine lv_istore (lv' := [(6, .int (-1)), (9, .ref q9), (8, .int w32), (7, .int v31), (5, .int w11), (1, .ref (F34 0)), (0, .ref (E33 0))]) hx hb dL_act_258 hl (by decide) rfl (fun ls hl => ?_)
                  exact Jkc44 (-1) x E33 F34 _ _ _ hF (lv_sub hl [2, 3, 0, 4, 5] rfl) hW hEF hS
                · have hF := tc_it hF c65
                  obtain ⟨E66, h67, hB⟩ := hB
                  have hW := hW.afterC hB o1
                  have hl : lv_has ls 13 [(8, .int w32), (7, .int v31), (5, .int w11), (1, .ref (F34 0)), (0, .ref (E66 0))] := by rw [h67]; exact hl
                  have hEF := And.intro (h67.trans hEF.1) hEF.2
                  refine lv_istore (lv' := [(6, .int r37), (8, .int w32), (7, .int v31), (5, .int w11), (1, .ref (F34 0)), (0, .ref (E66 0))]) hx hb dL_act_250 hl (by decide) rfl (fun ls hl => ?_)
                  refine lv_goto (tgt := 260) hx hb dL_act_252 (by decide) ?_
                  exact Jkc44 r37 x38 E66 F34 _ _ _ hF (lv_sub hl [1, 2, 0, 3, 4] rfl) hW hEF hS
              refine lv_icmp_ge (tgt := 239) hx hb dL_act_199 (by decide) (fun c68 => ?_) (fun c68 => ?_)
              · have hF := tc_it hF c68
                refine lv_iconst (v := 0) hx hb dL_act_239 (by decide) ?_
                exact Jkc35 0 E26 F27 _ _ _ hF (lv_sub hl [0, 1, 2, 3] rfl) hW hEF hS
              · have hF := tc_if hF c68
                refine lv_aload_n hx hb dL_act_202 rfl (lv_at hl 2 rfl) ?_
                refine tc_get (v := .ref (F27 1)) hx hb hts hinX3 hown hK (hW.2.1.o) (C := RX3) (T := TX3) (N := 6) rfl 2 (by decide) (hts (.fieldLink RL 25 "TreadCranesLaw$Sim" "quay" "[[I") (List.mem_of_getElem? (i := 4) rfl)) (fun _ h9 => h9) rfl dL_act_203 ?_
                refine lv_iload hx hb dL_act_206 (lv_at hl 1 rfl) ?_
                obtain ⟨g69, hF⟩ := tc_ob hF
                refine tc_aaldA2 (q := F27 (5 + w11.toNatClampNeg)) (j := w11.toNatClampNeg) (rfl) hx hb hKS hW.2.1.q 0 rfl g69 dL_act_208 rfl ?_
                refine tc_alen (v := nI (tc_zl z (5 + w11.toNatClampNeg))) hx hb hK (hW.2.1.r (tc_isrQ (show ¬ w11 < 0 ∧ w11.toNatClampNeg < 16 from g69).2)) 2 rfl rfl dL_act_209 ?_
                refine lv_bipush (v := 8) hx hb dL_act_210 (by decide) ?_
                refine lv_icmp_ge (tgt := 239) hx hb dL_act_212 (by decide) (fun c70 => ?_) (fun c70 => ?_)
                · have hF := tc_it hF c70
                  refine lv_iconst (v := 0) hx hb dL_act_239 (by decide) ?_
                  exact Jkc35 0 E26 F27 _ _ _ hF (lv_sub hl [0, 1, 2, 3] rfl) hW hEF hS
                · have hF := tc_if hF c70
                  refine lv_aload_n hx hb dL_act_215 rfl (lv_at hl 2 rfl) ?_
                  refine lv_iload hx hb dL_act_216 (lv_at hl 1 rfl) ?_
                  refine lv_aload_n hx hb dL_act_218 rfl (lv_at hl 2 rfl) ?_
                  refine tc_get (v := .ref (F27 1)) hx hb hts hinX3 hown hK (hW.2.1.o) (C := RX3) (T := TX3) (N := 6) rfl 2 (by decide) (hts (.fieldLink RL 25 "TreadCranesLaw$Sim" "quay" "[[I") (List.mem_of_getElem? (i := 4) rfl)) (fun _ h9 => h9) rfl dL_act_219 ?_
                  refine lv_iload hx hb dL_act_222 (lv_at hl 1 rfl) ?_
                  refine tc_aaldA2 (q := F27 (5 + w11.toNatClampNeg)) (j := w11.toNatClampNeg) (rfl) hx hb hKS hW.2.1.q 0 rfl g69 dL_act_224 rfl ?_
                  refine tc_alen (v := nI (tc_zl z (5 + w11.toNatClampNeg))) hx hb hK (hW.2.1.r (tc_isrQ (show ¬ w11 < 0 ∧ w11.toNatClampNeg < 16 from g69).2)) 2 rfl rfl dL_act_225 ?_
                  refine lv_iconst (v := 1) hx hb dL_act_226 (by decide) ?_
                  refine lv_iadd hx hb dL_act_227 ?_
                  refine lv_null hx hb dL_act_228 ?_
                  obtain ⟨r71, h72, hF⟩ := tc_bi hF
                  refine tc_cr (W.runV (As := [.int w11, .int ((nI (tc_zl z (5 + w11.toNatClampNeg))) + (1 : Int32)), .null]) (rest := []) ⟨hx, hb, hml, hown, hts⟩ (mt_X3_areFine l D cU cO cI cII cZ A F27 z w11 ((nI (tc_zl z (5 + w11.toNatClampNeg))) + (1 : Int32)) none r71 (fun j9 h9 => by cases h9) h72) (cwV 3 hts gL_act_X3_areFine rfl rfl rfl (by decide +kernel) ⟨Nat.le_of_ble_eq_true rfl, Nat.le_of_ble_eq_true rfl⟩) ⟨fun a U g mk q => ⟨q.1, q.2.1, va_K.moved (Vm.Alike.refl U.vm) q.2.2.1, va_K.moved (Vm.Alike.refl U.vm) q.2.2.2⟩, tc_rcv hW.2.1.o hK rfl, fun U hU hW9 => ⟨rfl, by rw [hU]; exact hW.2.1, va_K.moved hW9.alike hK, va_K.moved hW9.alike hKS⟩⟩ rfl rfl hl.1 rfl (lv_room (Nat.le_of_ble_eq_true rfl)) dL_act_229 ⟨(by show _ ≤ (6 : Nat); omega), (by show _ ≤ (161 : Nat); omega)⟩) ?_
                  refine lv_if_eq (tgt := 239) hx hb dL_act_232 (by decide) (fun c73 => ?_) (fun c73 => ?_)
                  · have hF := tc_it hF c73
                    refine lv_iconst (v := 0) hx hb dL_act_239 (by decide) ?_
                    exact Jkc35 0 E26 F27 _ _ _ hF (lv_sub hl [0, 1, 2, 3] rfl) hW hEF hS
                  · have hF := tc_if hF c73
                    refine lv_iconst (v := 1) hx hb dL_act_235 (by decide) ?_
                    refine lv_goto (tgt := 240) hx hb dL_act_236 (by decide) ?_
                    exact Jkc35 1 E26 F27 _ _ _ hF (lv_sub hl [0, 1, 2, 3] rfl) hW hEF hS
            refine lv_if_ne (tgt := 184) hx hb dL_act_176 (by decide) (fun c74 => ?_) (fun c74 => ?_)
            · have hF := tc_if hF c74
              refine lv_bipush (v := 25) hx hb dL_act_184 (by decide) ?_
              exact Jkc28 25 E21 F22 _ _ _ hF (lv_sub hl [0, 2, 3] rfl) hW hEF hS
            · have hF := tc_it hF c74
              refine lv_bipush (v := 60) hx hb dL_act_179 (by decide) ?_
              refine lv_goto (tgt := 186) hx hb dL_act_181 (by decide) ?_
              exact Jkc28 60 E21 F22 _ _ _ hF (lv_sub hl [0, 2, 3] rfl) hW hEF hS
          obtain ⟨kc75, ekc75, hF⟩ := tc_jx hF
          have Jkc75 : ∀  (E76 F77 : Nat → Nat) (H : Heap) (locs : List Loc) (ls : Array Slot), kc75 = some (r, x', z') → lv_has ls 13 [(5, .int w11), (4, va_rf (tc_af F77 o16)), (3, .int w1), (1, .ref (F77 0)), (0, .ref (E76 0))] → tc_WL D cU cO cI cII cZ e0 A E76 F77 x z H → E76 0 = E 0 ∧ F77 0 = F 0 → va_S A s.heap H locs → W p l e ({ frames := 8, cells := 6, slots := 161, locals := 181 } : Room) s m (([.ref (E 0), .ref (F 0), .int a3] : List Value).toArray) below meth c H locs (0) (0) QQ (F0 m 586 ls []) := by
            intro  E76 F77 H locs ls hF hl hW hEF hS
            rw [ekc75] at hF
            refine lv_aload_n hx hb dL_act_586 rfl (lv_at hl 3 rfl) ?_
            cases o16 with
            | none =>
              have hF := tc_on hF rfl
              cases hF
            | some j78 =>
              have hF := tc_os hF rfl
              have hl : lv_has ls 13 [(5, .int w11), (4, .ref (F77 j78)), (3, .int w1), (1, .ref (F77 0)), (0, .ref (E76 0))] := hl
              refine lv_aload hx hb dL_act_587 (lv_at hl 1 rfl) ?_
              refine lv_iload hx hb dL_act_589 (lv_at hl 0 rfl) ?_
              obtain ⟨g81, hF⟩ := tc_ob hF
              obtain ⟨r79, h80, hF⟩ := tc_bi hF
              refine tc_cr (W.runV (As := [.ref (F77 j78), .int w11]) (rest := []) ⟨hx, hb, hml, hown, hts⟩ (mt_X3_canTurn l D cU cO cI cII cZ A F77 z j78 w11 r79 (tc_isc.r (z := z) g81) h80) (cwV 2 hts gL_act_X3_canTurn rfl rfl rfl (by decide +kernel) ⟨Nat.le_of_ble_eq_true rfl, Nat.le_of_ble_eq_true rfl⟩) ⟨fun a U g mk q => ⟨q.1, q.2.1, va_K.moved (Vm.Alike.refl U.vm) q.2.2.1, va_K.moved (Vm.Alike.refl U.vm) q.2.2.2⟩, tc_rcv hW.2.1.o hK rfl, fun U hU hW9 => ⟨rfl, by rw [hU]; exact hW.2.1, va_K.moved hW9.alike hK, va_K.moved hW9.alike hKS⟩⟩ rfl rfl hl.1 rfl (lv_room (Nat.le_of_ble_eq_true rfl)) dL_act_591 ⟨(by show _ ≤ (6 : Nat); omega), (by show _ ≤ (161 : Nat); omega)⟩) ?_
              obtain ⟨kc85, ekc85, hF⟩ := tc_jx hF
              have Jkc85 : ∀ (w82 : Int32) (E83 F84 : Nat → Nat) (H : Heap) (locs : List Loc) (ls : Array Slot), kc85 w82 = some (r, x', z') → lv_has ls 13 [(5, .int w11), (4, .ref (F84 j78)), (3, .int w1), (1, .ref (F84 0)), (0, .ref (E83 0))] → tc_WL D cU cO cI cII cZ e0 A E83 F84 x z H → E83 0 = E 0 ∧ F84 0 = F 0 → va_S A s.heap H locs → W p l e ({ frames := 8, cells := 6, slots := 161, locals := 181 } : Room) s m (([.ref (E 0), .ref (F 0), .int a3] : List Value).toArray) below meth c H locs (0) (0) QQ (F0 m 611 ls [.int w82]) := by
                intro w82 E83 F84 H locs ls hF hl hW hEF hS
                rw [ekc85] at hF
                dsimp only at hF
                refine lv_istore (lv' := [(7, .int w82), (5, .int w11), (4, .ref (F84 j78)), (3, .int w1), (1, .ref (F84 0)), (0, .ref (E83 0))]) hx hb dL_act_611 hl (by decide) rfl (fun ls hl => ?_)
                refine lv_aload_n hx hb dL_act_613 rfl (lv_at hl 5 rfl) ?_
                refine lv_iload_n hx hb dL_act_614 rfl (lv_at hl 3 rfl) ?_
                refine lv_iload hx hb dL_act_615 (lv_at hl 1 rfl) ?_
                obtain ⟨kc94, ekc94, hF⟩ := tc_jx hF
                have Jkc94 : ∀ (w90 : Int32) (x91 : tc_X) (E92 F93 : Nat → Nat) (H : Heap) (locs : List Loc) (ls : Array Slot), kc94 w90 x91 = some (r, x', z') → lv_has ls 13 [(7, .int w82), (6, .int w90), (5, .int w11), (4, .ref (F93 j78)), (1, .ref (F93 0))] → tc_WL D cU cO cI cII cZ e0 A E92 F93 x91 z H → E92 0 = E 0 ∧ F93 0 = F 0 → va_S A s.heap H locs → W p l e ({ frames := 8, cells := 6, slots := 161, locals := 181 } : Room) s m (([.ref (E 0), .ref (F 0), .int a3] : List Value).toArray) below meth c H locs (3) (18) QQ (F0 m 630 ls []) := by
                  intro w90 x91 E92 F93 H locs ls hF hl hW hEF hS
                  rw [ekc94] at hF
                  dsimp only at hF
                  refine lv_iload hx hb dL_act_630 (lv_at hl 0 rfl) ?_
                  obtain ⟨kc98, ekc98, hF⟩ := tc_jx hF
                  have Jkc98 : ∀ (z95 : tc_Z) (E96 F97 : Nat → Nat) (H : Heap) (locs : List Loc) (ls : Array Slot), kc98 z95 = some (r, x', z') → lv_has ls 13 [(7, .int w82), (6, .int w90)] → tc_WL D cU cO cI cII cZ e0 A E96 F97 x91 z95 H → E96 0 = E 0 ∧ F97 0 = F 0 → va_S A s.heap H locs → W p l e ({ frames := 8, cells := 6, slots := 161, locals := 181 } : Room) s m (([.ref (E 0), .ref (F 0), .int a3] : List Value).toArray) below meth c H locs (3) (18) QQ (F0 m 652 ls []) := by
                    intro z95 E96 F97 H locs ls hF hl hW hEF hS
                    rw [ekc98] at hF
                    dsimp only at hF
                    refine lv_iload hx hb dL_act_652 (lv_at hl 1 rfl) ?_
                    refine lv_iload hx hb dL_act_654 (lv_at hl 0 rfl) ?_
                    obtain ⟨kc102, ekc102, hF⟩ := tc_jx hF
                    have Jkc102 : ∀ (w99 : Int32) (E100 F101 : Nat → Nat) (H : Heap) (locs : List Loc) (ls : Array Slot), kc102 w99 = some (r, x', z') → lv_has ls 13 [] → tc_WL D cU cO cI cII cZ e0 A E100 F101 x91 z95 H → E100 0 = E 0 ∧ F101 0 = F 0 → va_S A s.heap H locs → W p l e ({ frames := 8, cells := 6, slots := 161, locals := 181 } : Room) s m (([.ref (E 0), .ref (F 0), .int a3] : List Value).toArray) below meth c H locs (3) (18) QQ (F0 m 664 ls [.int w99]) := by
                      intro w99 E100 F101 H locs ls hF hl hW hEF hS
                      rw [ekc102] at hF
                      dsimp only at hF
                      obtain ⟨g103, hF⟩ := tc_ob hF
                      obtain ⟨h91, h92, h93⟩ := tc_pr3 (Option.some.inj hF)
                      rw [eQQ]
                      refine W.widen (k := 6) (n := 161) (by omega) (by omega) ?_
                      exact W.zret hx hb hr (tc_nz g103) (fun t ht hW9 => ⟨⟨by rw [← h91], by rw [← h92, ← h93, ht]; exact ⟨E100, F101, hEF.1, hEF.2, hW⟩⟩, tc_F hS ht⟩) hS.2.2 dL_act_664
                    refine lv_icmp_ne (tgt := 663) hx hb dL_act_656 (by decide) (fun c104 => ?_) (fun c104 => ?_)
                    · have hF := tc_if hF c104
                      refine lv_iconst (v := 0) hx hb dL_act_663 (by decide) ?_
                      exact Jkc102 0 E96 F97 _ _ _ hF (lv_sub hl [] rfl) hW hEF hS
                    · have hF := tc_it hF c104
                      refine lv_iconst (v := 1) hx hb dL_act_659 (by decide) ?_
                      refine lv_goto (tgt := 664) hx hb dL_act_660 (by decide) ?_
                      exact Jkc102 1 E96 F97 _ _ _ hF (lv_sub hl [] rfl) hW hEF hS
                  refine lv_if_lt (tgt := 652) hx hb dL_act_632 (by decide) (fun c105 => ?_) (fun c105 => ?_)
                  · have hF := tc_it hF c105
                    exact Jkc98 z E92 F93 _ _ _ hF (lv_sub hl [0, 1] rfl) hW hEF hS
                  · have hF := tc_if hF c105
                    refine lv_aload hx hb dL_act_635 (lv_at hl 3 rfl) ?_
                    refine lv_iconst (v := 5) hx hb dL_act_637 (by decide) ?_
                    refine lv_iload hx hb dL_act_638 (lv_at hl 2 rfl) ?_
                    obtain ⟨g106, hF⟩ := tc_ob hF
                    refine tc_iast2 (j := 5) (by decide) hx hb hK (hW.2.1.r (tc_isc.r (z := z) g81)) hS (hW.2.1.own (tc_isr.sl (z := z) (tc_isc.r (z := z) g81))) 2 rfl ⟨by decide, g106⟩ dL_act_640 (fun H locs e1 z1 o1 hS => ?_)
                    have hW1 := hW.at1 (z' := tc_zs z j78 5 w11) (tc_isr.sl (z := z) (tc_isc.r (z := z) g81)) rfl (hW.2.1.ss (tc_isc.r (z := z) g81) e1 o1) o1
                    obtain ⟨z107, ez107⟩ : ∃ z9 : tc_Z, z9 = tc_zs z j78 5 w11 := ⟨_, rfl⟩
                    have hF := tc_lt hF ez107
                    have hW : tc_WL D cU cO cI cII cZ e0 A E92 F93 x91 z107 H := by rw [ez107]; exact hW1
                    have g108 : tc_isc z107 j78 := by rw [ez107]; exact g81
                    refine lv_aload_n hx hb dL_act_641 rfl (lv_at hl 4 rfl) ?_
                    refine lv_dup hx hb dL_act_642 rfl ?_
                    refine tc_get (v := .int (z107.1 0)) hx hb hts hinX3 hown hK (hW.2.1.o) (C := RX3) (T := TX3) (N := 6) rfl 0 (by decide) (hts (.fieldLink RL 67 "TreadCranesLaw$Sim" "ticks" "I") (List.mem_of_getElem? (i := 11) rfl)) (fun _ h9 => h9) rfl dL_act_643 ?_
                    refine lv_iload hx hb dL_act_646 (lv_at hl 0 rfl) ?_
                    refine lv_iadd hx hb dL_act_648 ?_
                    refine tc_put (v := .int ((z107.1 0) + w82)) (ty := .int) hx hb hts hinX3 tyX3 tyX3_ok nmX3 hown hK (hW.2.1.o) hS (hW.2.1.own (tc_slf (by decide))) (C := RX3) (T := TX3) (N := 6) rfl 0 (by decide) (hts (.fieldLink RL 67 "TreadCranesLaw$Sim" "ticks" "I") (List.mem_of_getElem? (i := 11) rfl)) (fun _ h9 => h9) rfl (by decide +kernel) rfl rfl (Nat.le_of_ble_eq_true rfl) dL_act_649 (fun H locs e1 z1 o1 hS => ?_)
                    have hW1 := hW.at1 (z' := tc_zg z107 0 ((z107.1 0) + w82)) (tc_slf (by decide)) rfl (hW.2.1.sg0 e1 o1) o1
                    obtain ⟨z109, ez109⟩ : ∃ z9 : tc_Z, z9 = tc_zg z107 0 ((z107.1 0) + w82) := ⟨_, rfl⟩
                    have hF := tc_lt hF ez109
                    have hW : tc_WL D cU cO cI cII cZ e0 A E92 F93 x91 z109 H := by rw [ez109]; exact hW1
                    have g110 : tc_isc z109 j78 := by rw [ez109]; exact g108
                    exact Jkc98 z109 E92 F93 _ _ _ hF (lv_sub hl [0, 1] rfl) hW hEF hS
                obtain ⟨k86, r87, x88, h89, hF⟩ := tc_bi3 hF
                refine tc_cx (vx_runV (As := [.int w1, .int w11]) (rest := []) ⟨hx, hb, hml, hown, hts⟩ (mt_X2_turn l hst D cU cO cI e0 (tc_A1 A F84 z) E83 x w1 w11 k86 r87 x88 h89) (cwV 2 hts gL_act_X2_turn rfl rfl rfl (by decide +kernel) ⟨Nat.le_of_ble_eq_true rfl, Nat.le_of_ble_eq_true rfl⟩) ⟨fun a U g mk q => ⟨q.1, q.2.1, q.2.2.call⟩, tc_rcv hW.1.o hK rfl, fun U hU hW9 => ⟨rfl, by rw [hU]; exact hW.1, ((hKX.go hS hU hW9).narrow (fun z9 h9 => h9.1) (by rw [hU]; exact hW.newA (fun z9 h9 => by exact hAn z9 (Nat.le_trans hS.1 h9))))⟩⟩ rfl rfl hl.1 rfl (lv_room (Nat.le_of_ble_eq_true rfl)) dL_act_617 ⟨(by show _ ≤ (6 : Nat); omega), (by show _ ≤ (161 : Nat); omega)⟩) hS (fun z9 _ h9 => h9.1) (fun z9 h9 => h9.1) (fun z9 _ h9 => h9.1) (fun ce q9 H locs c111 hB z1 o1 hS hce hcv hcl => ?_) (fun H locs c111 hB z1 o1 hS => ?_)
                · have hF := tc_if hF c111
                  obtain ⟨g9, hF⟩ := tc_ob hF
                  subst g9
                  have hW := hW.afterC hB o1
                  refine vx_catch (own := RL) (name := "java/lang/IllegalStateException") (E := "java/lang/IllegalStateException") hown [⟨242, 252, 255, 37⟩, ⟨394, 414, 417, 37⟩] ⟨613, 622, 625, 37⟩ [⟨958, 967, 970, 37⟩, ⟨1031, 1038, 1041, 37⟩, ⟨1176, 1183, 1186, 37⟩] htab (fun z9 h9 => Or.inl ((by decide : ∀ z ∈ ([⟨242, 252, 255, 37⟩, ⟨394, 414, 417, 37⟩] : List ExceptionTableEntry), covers z 617 = false) z9 h9)) (by decide) (by decide) (hts (.classLink RL 37 "java/lang/IllegalStateException") (List.mem_of_getElem? (i := 1) rfl)) (va_Nw.use rfl hKX.2.2.2.2.2.2.2.2.2.1) hce hcv hcl ?_
                  refine lv_astore (lv' := [(8, .ref q9), (7, .int w82), (5, .int w11), (4, .ref (F84 j78)), (3, .int w1), (1, .ref (F84 0)), (0, .ref (E83 0))]) hx hb dL_act_625 hl (by decide) rfl (fun ls hl => ?_)
                  refine lv_iconst (v := (-1)) hx hb dL_act_627 (by decide) ?_
                  refine lv_istore (lv' := [(6, .int (-1)), (8, .ref q9), (7, .int w82), (5, .int w11), (4, .ref (F84 j78)), (3, .int w1), (1, .ref (F84 0)), (0, .ref (E83 0))]) hx hb dL_act_628 hl (by decide) rfl (fun ls hl => ?_)
                  exact Jkc94 (-1) x E83 F84 _ _ _ hF (lv_sub hl [2, 0, 3, 4, 6] rfl) hW hEF hS
                · have hF := tc_it hF c111
                  have hW := hW.afterC hB o1
                  refine lv_istore (lv' := [(6, .int r87), (7, .int w82), (5, .int w11), (4, .ref (F84 j78)), (3, .int w1), (1, .ref (F84 0)), (0, .ref (E83 0))]) hx hb dL_act_620 hl (by decide) rfl (fun ls hl => ?_)
                  refine lv_goto (tgt := 630) hx hb dL_act_622 (by decide) ?_
                  exact Jkc94 r87 x88 E83 F84 _ _ _ hF (lv_sub hl [1, 0, 2, 3, 5] rfl) hW hEF hS
              refine lv_if_eq (tgt := 610) hx hb dL_act_594 (by decide) (fun c112 => ?_) (fun c112 => ?_)
              · have hF := tc_it hF c112
                refine lv_iconst (v := (-1)) hx hb dL_act_610 (by decide) ?_
                exact Jkc85 (-1) E76 F77 _ _ _ hF (lv_sub hl [0, 1, 2, 3, 4] rfl) hW hEF hS
              · have hF := tc_if hF c112
                refine lv_aload hx hb dL_act_597 (lv_at hl 1 rfl) ?_
                refine lv_iconst (v := 5) hx hb dL_act_599 (by decide) ?_
                obtain ⟨g113, hF⟩ := tc_ob hF
                refine tc_iald2 (j := 5) (by decide) hx hb hK (hW.2.1.r (tc_isc.r (z := z) g81)) 2 rfl ⟨by decide, g113⟩ dL_act_600 ?_
                refine lv_iload hx hb dL_act_601 (lv_at hl 0 rfl) ?_
                refine lv_isub hx hb dL_act_603 ?_
                refine va_mabs hx hb (by rw [hml]; exact hl.1.symm) hown (hts (.methodLink RL 59 Lib.Math.abs.name) (List.mem_of_getElem? (i := 7) rfl)) (hts (.static Lib.Math.abs.name) (List.mem_of_getElem? (i := 8) rfl)) (hts (.initialized "java/lang/Math") (List.mem_of_getElem? (i := 9) rfl)) (hts (.code Lib.Math.abs.name Lib.Math.abs.code 1 (some .int)) (List.mem_of_getElem? (i := 10) rfl)) (Nat.le_of_ble_eq_true rfl) (Nat.le_of_ble_eq_true rfl) ((by show _ ≤ (6 : Nat); omega)) ((by show _ ≤ (161 : Nat); omega)) dL_act_604 ?_
                refine lv_topi (fun v114 ev114 => ?_)
                have hF := tc_lt hF ev114
                refine lv_goto (tgt := 611) hx hb dL_act_607 (by decide) ?_
                exact Jkc85 v114 E76 F77 _ _ _ hF (lv_sub hl [0, 1, 2, 3, 4] rfl) hW hEF hS
          obtain ⟨kc115, ekc115, hF⟩ := tc_jx hF
          have Jkc115 : ∀  (E116 F117 : Nat → Nat) (H : Heap) (locs : List Loc) (ls : Array Slot), kc115 = some (r, x', z') → lv_has ls 13 [(4, va_rf (tc_af F117 o16)), (3, .int w1), (2, .int a3), (1, .ref (F117 0)), (0, .ref (E116 0))] → tc_WL D cU cO cI cII cZ e0 A E116 F117 x z H → E116 0 = E 0 ∧ F117 0 = F 0 → va_S A s.heap H locs → W p l e ({ frames := 8, cells := 6, slots := 161, locals := 181 } : Room) s m (([.ref (E 0), .ref (F 0), .int a3] : List Value).toArray) below meth c H locs (0) (0) QQ (F0 m 665 ls []) := by
            intro  E116 F117 H locs ls hF hl hW hEF hS
            rw [ekc115] at hF
            refine lv_aload_n hx hb dL_act_665 rfl (lv_at hl 3 rfl) ?_
            refine tc_get (v := .ref (F117 1)) hx hb hts hinX3 hown hK (hW.2.1.o) (C := RX3) (T := TX3) (N := 6) rfl 2 (by decide) (hts (.fieldLink RL 25 "TreadCranesLaw$Sim" "quay" "[[I") (List.mem_of_getElem? (i := 4) rfl)) (fun _ h9 => h9) rfl dL_act_666 ?_
            cases o16 with
            | none =>
              have hF := tc_on hF rfl
              cases hF
            | some j118 =>
              have hF := tc_os hF rfl
              have hl : lv_has ls 13 [(4, .ref (F117 j118)), (3, .int w1), (2, .int a3), (1, .ref (F117 0)), (0, .ref (E116 0))] := hl
              refine lv_aload hx hb dL_act_669 (lv_at hl 0 rfl) ?_
              refine lv_iconst (v := 5) hx hb dL_act_671 (by decide) ?_
              obtain ⟨g119, hF⟩ := tc_ob hF
              obtain ⟨g120, hF⟩ := tc_ob hF
              refine tc_iald2 (j := 5) (by decide) hx hb hK (hW.2.1.r (tc_isc.r (z := z) g119)) 2 rfl ⟨by decide, g120⟩ dL_act_672 ?_
              obtain ⟨g121, hF⟩ := tc_ob hF
              refine tc_aaldA2 (q := F117 (5 + (tc_zf z j118 5).toNatClampNeg)) (j := (tc_zf z j118 5).toNatClampNeg) (rfl) hx hb hKS hW.2.1.q 0 rfl g121 dL_act_673 rfl ?_
              refine tc_alen (v := nI (tc_zl z (5 + (tc_zf z j118 5).toNatClampNeg))) hx hb hK (hW.2.1.r (tc_isrQ (show ¬ (tc_zf z j118 5) < 0 ∧ (tc_zf z j118 5).toNatClampNeg < 16 from g121).2)) 2 rfl rfl dL_act_674 ?_
              refine lv_topi (fun v122 ev122 => ?_)
              have hF := tc_lt hF ev122
              refine lv_istore (lv' := [(7, .int v122), (4, .ref (F117 j118)), (3, .int w1), (2, .int a3), (1, .ref (F117 0)), (0, .ref (E116 0))]) hx hb dL_act_675 hl (by decide) rfl (fun ls hl => ?_)
              refine lv_iload_n hx hb dL_act_677 rfl (lv_at hl 3 rfl) ?_
              refine lv_bipush (v := 7) hx hb dL_act_678 (by decide) ?_
              refine lv_ishr hx hb dL_act_680 ?_
              refine lv_iconst (v := 4) hx hb dL_act_681 (by decide) ?_
              obtain ⟨r123, h124, hF⟩ := tc_bi hF
              refine tc_cr (W.runS (As := [.int (a3 >>> ((7 : Int32) &&& 31)), .int 4]) (rest := []) ⟨hx, hb, hml, hown, hts⟩ (mt_L_below l (a3 >>> ((7 : Int32) &&& 31)) 4 r123 h124) (va_cwS 2 hts gL_act_L_below rfl rfl rfl (by decide +kernel) ⟨Nat.le_of_ble_eq_true rfl, Nat.le_of_ble_eq_true rfl⟩) ⟨fun a U g mk q => q, fun U hU hW9 => ⟨rfl, trivial⟩⟩ rfl rfl hl.1 rfl (lv_room (Nat.le_of_ble_eq_true rfl)) dL_act_682 ⟨(by show _ ≤ (6 : Nat); omega), (by show _ ≤ (161 : Nat); omega)⟩) ?_
              obtain ⟨kc128, ekc128, hF⟩ := tc_jx hF
              have Jkc128 : ∀ (w125 : Int32) (E126 F127 : Nat → Nat) (H : Heap) (locs : List Loc) (ls : Array Slot), kc128 w125 = some (r, x', z') → lv_has ls 13 [(7, .int v122), (4, .ref (F127 j118)), (3, .int w1), (1, .ref (F127 0)), (0, .ref (E126 0))] → tc_WL D cU cO cI cII cZ e0 A E126 F127 x z H → E126 0 = E 0 ∧ F127 0 = F 0 → va_S A s.heap H locs → W p l e ({ frames := 8, cells := 6, slots := 161, locals := 181 } : Room) s m (([.ref (E 0), .ref (F 0), .int a3] : List Value).toArray) below meth c H locs (0) (0) QQ (F0 m 732 ls [.int w125]) := by
                intro w125 E126 F127 H locs ls hF hl hW hEF hS
                rw [ekc128] at hF
                dsimp only at hF
                refine lv_istore (lv' := [(8, .int w125), (7, .int v122), (4, .ref (F127 j118)), (3, .int w1), (1, .ref (F127 0)), (0, .ref (E126 0))]) hx hb dL_act_732 hl (by decide) rfl (fun ls hl => ?_)
                refine lv_iload hx hb dL_act_734 (lv_at hl 0 rfl) ?_
                refine lv_aload hx hb dL_act_736 (lv_at hl 2 rfl) ?_
                refine lv_bipush (v := 7) hx hb dL_act_738 (by decide) ?_
                obtain ⟨g129, hF⟩ := tc_ob hF
                refine tc_iald2 (j := 7) (by decide) hx hb hK (hW.2.1.r (tc_isc.r (z := z) g119)) 2 rfl ⟨by decide, g129⟩ dL_act_740 ?_
                obtain ⟨kc133, ekc133, hF⟩ := tc_jx hF
                have Jkc133 : ∀ (w130 : Int32) (E131 F132 : Nat → Nat) (H : Heap) (locs : List Loc) (ls : Array Slot), kc133 w130 = some (r, x', z') → lv_has ls 13 [(8, .int w125), (4, .ref (F132 j118)), (3, .int w1), (1, .ref (F132 0)), (0, .ref (E131 0))] → tc_WL D cU cO cI cII cZ e0 A E131 F132 x z H → E131 0 = E 0 ∧ F132 0 = F 0 → va_S A s.heap H locs → W p l e ({ frames := 8, cells := 6, slots := 161, locals := 181 } : Room) s m (([.ref (E 0), .ref (F 0), .int a3] : List Value).toArray) below meth c H locs (0) (0) QQ (F0 m 753 ls [.int w130, .int w125]) := by
                  intro w130 E131 F132 H locs ls hF hl hW hEF hS
                  rw [ekc133] at hF
                  dsimp only at hF
                  obtain ⟨kc137, ekc137, hF⟩ := tc_jx hF
                  have Jkc137 : ∀ (w134 : Int32) (E135 F136 : Nat → Nat) (H : Heap) (locs : List Loc) (ls : Array Slot), kc137 w134 = some (r, x', z') → lv_has ls 13 [(8, .int w125), (4, .ref (F136 j118)), (3, .int w1), (1, .ref (F136 0)), (0, .ref (E135 0))] → tc_WL D cU cO cI cII cZ e0 A E135 F136 x z H → E135 0 = E 0 ∧ F136 0 = F 0 → va_S A s.heap H locs → W p l e ({ frames := 8, cells := 6, slots := 161, locals := 181 } : Room) s m (([.ref (E 0), .ref (F 0), .int a3] : List Value).toArray) below meth c H locs (0) (0) QQ (F0 m 798 ls [.int w134]) := by
                    intro w134 E135 F136 H locs ls hF hl hW hEF hS
                    rw [ekc137] at hF
                    dsimp only at hF
                    refine lv_istore (lv' := [(9, .int w134), (8, .int w125), (4, .ref (F136 j118)), (3, .int w1), (1, .ref (F136 0)), (0, .ref (E135 0))]) hx hb dL_act_798 hl (by decide) rfl (fun ls hl => ?_)
                    refine lv_iload hx hb dL_act_800 (lv_at hl 0 rfl) ?_
                    obtain ⟨kc141, ekc141, hF⟩ := tc_jx hF
                    have Jkc141 : ∀ (w138 : Int32) (E139 F140 : Nat → Nat) (H : Heap) (locs : List Loc) (ls : Array Slot), kc141 w138 = some (r, x', z') → lv_has ls 13 [(9, .int w134), (8, .int w125), (4, .ref (F140 j118)), (3, .int w1), (1, .ref (F140 0)), (0, .ref (E139 0))] → tc_WL D cU cO cI cII cZ e0 A E139 F140 x z H → E139 0 = E 0 ∧ F140 0 = F 0 → va_S A s.heap H locs → W p l e ({ frames := 8, cells := 6, slots := 161, locals := 181 } : Room) s m (([.ref (E 0), .ref (F 0), .int a3] : List Value).toArray) below meth c H locs (0) (0) QQ (F0 m 826 ls [.int w138]) := by
                      intro w138 E139 F140 H locs ls hF hl hW hEF hS
                      rw [ekc141] at hF
                      dsimp only at hF
                      refine lv_istore (lv' := [(10, .int w138), (9, .int w134), (8, .int w125), (4, .ref (F140 j118)), (3, .int w1), (1, .ref (F140 0)), (0, .ref (E139 0))]) hx hb dL_act_826 hl (by decide) rfl (fun ls hl => ?_)
                      refine lv_iload hx hb dL_act_828 (lv_at hl 1 rfl) ?_
                      obtain ⟨kc145, ekc145, hF⟩ := tc_jx hF
                      have Jkc145 : ∀ (w142 : Int32) (E143 F144 : Nat → Nat) (H : Heap) (locs : List Loc) (ls : Array Slot), kc145 w142 = some (r, x', z') → lv_has ls 13 [(10, .int w138), (9, .int w134), (8, .int w125), (4, .ref (F144 j118)), (3, .int w1), (1, .ref (F144 0)), (0, .ref (E143 0))] → tc_WL D cU cO cI cII cZ e0 A E143 F144 x z H → E143 0 = E 0 ∧ F144 0 = F 0 → va_S A s.heap H locs → W p l e ({ frames := 8, cells := 6, slots := 161, locals := 181 } : Room) s m (([.ref (E 0), .ref (F 0), .int a3] : List Value).toArray) below meth c H locs (0) (0) QQ (F0 m 873 ls [.int w142]) := by
                        intro w142 E143 F144 H locs ls hF hl hW hEF hS
                        rw [ekc145] at hF
                        dsimp only at hF
                        refine lv_istore (lv' := [(11, .int w142), (10, .int w138), (9, .int w134), (8, .int w125), (4, .ref (F144 j118)), (3, .int w1), (1, .ref (F144 0)), (0, .ref (E143 0))]) hx hb dL_act_873 hl (by decide) rfl (fun ls hl => ?_)
                        refine lv_aload hx hb dL_act_875 (lv_at hl 4 rfl) ?_
                        refine lv_iconst (v := 4) hx hb dL_act_877 (by decide) ?_
                        obtain ⟨g146, hF⟩ := tc_ob hF
                        refine tc_iald2 (j := 4) (by decide) hx hb hK (hW.2.1.r (tc_isc.r (z := z) g119)) 2 rfl ⟨by decide, g146⟩ dL_act_878 ?_
                        refine lv_iload hx hb dL_act_879 (lv_at hl 0 rfl) ?_
                        refine lv_iadd hx hb dL_act_881 ?_
                        refine lv_bipush (v := 99) hx hb dL_act_882 (by decide) ?_
                        obtain ⟨kc151, ekc151, hF⟩ := tc_jx hF
                        have Jkc151 : ∀ (w147 : Int32) (z148 : tc_Z) (E149 F150 : Nat → Nat) (H : Heap) (locs : List Loc) (ls : Array Slot), kc151 w147 z148 = some (r, x', z') → lv_has ls 13 [(10, .int w147), (8, .int w125), (3, .int w1), (0, .ref (E149 0))] → tc_WL D cU cO cI cII cZ e0 A E149 F150 x z148 H → E149 0 = E 0 ∧ F150 0 = F 0 → va_S A s.heap H locs → W p l e ({ frames := 8, cells := 6, slots := 161, locals := 181 } : Room) s m (([.ref (E 0), .ref (F 0), .int a3] : List Value).toArray) below meth c H locs (0) (0) QQ (F0 m 958 ls []) := by
                          intro w147 z148 E149 F150 H locs ls hF hl hW hEF hS
                          rw [ekc151] at hF
                          dsimp only at hF
                          refine lv_aload_n hx hb dL_act_958 rfl (lv_at hl 3 rfl) ?_
                          refine lv_iload_n hx hb dL_act_959 rfl (lv_at hl 2 rfl) ?_
                          refine lv_iload hx hb dL_act_960 (lv_at hl 1 rfl) ?_
                          obtain ⟨kc160, ekc160, hF⟩ := tc_jx hF
                          have Jkc160 : ∀ (w156 : Int32) (x157 : tc_X) (E158 F159 : Nat → Nat) (H : Heap) (locs : List Loc) (ls : Array Slot), kc160 w156 x157 = some (r, x', z') → lv_has ls 13 [(10, .int w147), (6, .int w156)] → tc_WL D cU cO cI cII cZ e0 A E158 F159 x157 z148 H → E158 0 = E 0 ∧ F159 0 = F 0 → va_S A s.heap H locs → W p l e ({ frames := 8, cells := 6, slots := 161, locals := 181 } : Room) s m (([.ref (E 0), .ref (F 0), .int a3] : List Value).toArray) below meth c H locs (2) (12) QQ (F0 m 976 ls []) := by
                            intro w156 x157 E158 F159 H locs ls hF hl hW hEF hS
                            rw [ekc160] at hF
                            dsimp only at hF
                            refine lv_iload hx hb dL_act_976 (lv_at hl 1 rfl) ?_
                            refine lv_iload hx hb dL_act_978 (lv_at hl 0 rfl) ?_
                            obtain ⟨kc164, ekc164, hF⟩ := tc_jx hF
                            have Jkc164 : ∀ (w161 : Int32) (E162 F163 : Nat → Nat) (H : Heap) (locs : List Loc) (ls : Array Slot), kc164 w161 = some (r, x', z') → lv_has ls 13 [] → tc_WL D cU cO cI cII cZ e0 A E162 F163 x157 z148 H → E162 0 = E 0 ∧ F163 0 = F 0 → va_S A s.heap H locs → W p l e ({ frames := 8, cells := 6, slots := 161, locals := 181 } : Room) s m (([.ref (E 0), .ref (F 0), .int a3] : List Value).toArray) below meth c H locs (2) (12) QQ (F0 m 988 ls [.int w161]) := by
                              intro w161 E162 F163 H locs ls hF hl hW hEF hS
                              rw [ekc164] at hF
                              dsimp only at hF
                              obtain ⟨g165, hF⟩ := tc_ob hF
                              obtain ⟨h91, h92, h93⟩ := tc_pr3 (Option.some.inj hF)
                              rw [eQQ]
                              refine W.widen (k := 6) (n := 161) (by omega) (by omega) ?_
                              exact W.zret hx hb hr (tc_nz g165) (fun t ht hW9 => ⟨⟨by rw [← h91], by rw [← h92, ← h93, ht]; exact ⟨E162, F163, hEF.1, hEF.2, hW⟩⟩, tc_F hS ht⟩) hS.2.2 dL_act_988
                            refine lv_icmp_ne (tgt := 987) hx hb dL_act_980 (by decide) (fun c166 => ?_) (fun c166 => ?_)
                            · have hF := tc_if hF c166
                              refine lv_iconst (v := 0) hx hb dL_act_987 (by decide) ?_
                              exact Jkc164 0 E158 F159 _ _ _ hF (lv_sub hl [] rfl) hW hEF hS
                            · have hF := tc_it hF c166
                              refine lv_iconst (v := 1) hx hb dL_act_983 (by decide) ?_
                              refine lv_goto (tgt := 988) hx hb dL_act_984 (by decide) ?_
                              exact Jkc164 1 E158 F159 _ _ _ hF (lv_sub hl [] rfl) hW hEF hS
                          obtain ⟨k152, r153, x154, h155, hF⟩ := tc_bi3 hF
                          refine tc_cx (vx_runV (As := [.int w1, .int w125]) (rest := []) ⟨hx, hb, hml, hown, hts⟩ (mt_X2_hoist l hst D cU cO cI e0 (tc_A1 A F150 z148) E149 x w1 w125 k152 r153 x154 h155) (cwV 2 hts gL_act_X2_hoist rfl rfl rfl (by decide +kernel) ⟨Nat.le_of_ble_eq_true rfl, Nat.le_of_ble_eq_true rfl⟩) ⟨fun a U g mk q => ⟨q.1, q.2.1, q.2.2.call⟩, tc_rcv hW.1.o hK rfl, fun U hU hW9 => ⟨rfl, by rw [hU]; exact hW.1, ((hKX.go hS hU hW9).narrow (fun z9 h9 => h9.1) (by rw [hU]; exact hW.newA (fun z9 h9 => by exact hAn z9 (Nat.le_trans hS.1 h9))))⟩⟩ rfl rfl hl.1 rfl (lv_room (Nat.le_of_ble_eq_true rfl)) dL_act_962 ⟨(by show _ ≤ (6 : Nat); omega), (by show _ ≤ (161 : Nat); omega)⟩) hS (fun z9 _ h9 => h9.1) (fun z9 h9 => h9.1) (fun z9 _ h9 => h9.1) (fun ce q9 H locs c167 hB z1 o1 hS hce hcv hcl => ?_) (fun H locs c167 hB z1 o1 hS => ?_)
                          · have hF := tc_if hF c167
                            obtain ⟨g9, hF⟩ := tc_ob hF
                            subst g9
                            have hW := hW.afterC hB o1
                            refine vx_catch (own := RL) (name := "java/lang/IllegalStateException") (E := "java/lang/IllegalStateException") hown [⟨242, 252, 255, 37⟩, ⟨394, 414, 417, 37⟩, ⟨613, 622, 625, 37⟩] ⟨958, 967, 970, 37⟩ [⟨1031, 1038, 1041, 37⟩, ⟨1176, 1183, 1186, 37⟩] htab (fun z9 h9 => Or.inl ((by decide : ∀ z ∈ ([⟨242, 252, 255, 37⟩, ⟨394, 414, 417, 37⟩, ⟨613, 622, 625, 37⟩] : List ExceptionTableEntry), covers z 962 = false) z9 h9)) (by decide) (by decide) (hts (.classLink RL 37 "java/lang/IllegalStateException") (List.mem_of_getElem? (i := 1) rfl)) (va_Nw.use rfl hKX.2.2.2.2.2.2.2.2.2.1) hce hcv hcl ?_
                            refine lv_astore (lv' := [(12, .ref q9), (10, .int w147), (8, .int w125), (3, .int w1), (0, .ref (E149 0))]) hx hb dL_act_970 hl (by decide) rfl (fun ls hl => ?_)
                            refine lv_bipush (v := (-2)) hx hb dL_act_972 (by decide) ?_
                            refine lv_istore (lv' := [(6, .int (-2)), (12, .ref q9), (10, .int w147), (8, .int w125), (3, .int w1), (0, .ref (E149 0))]) hx hb dL_act_974 hl (by decide) rfl (fun ls hl => ?_)
                            exact Jkc160 (-2) x E149 F150 _ _ _ hF (lv_sub hl [2, 0] rfl) hW hEF hS
                          · have hF := tc_it hF c167
                            have hW := hW.afterC hB o1
                            refine lv_istore (lv' := [(6, .int r153), (10, .int w147), (8, .int w125), (3, .int w1), (0, .ref (E149 0))]) hx hb dL_act_965 hl (by decide) rfl (fun ls hl => ?_)
                            refine lv_goto (tgt := 976) hx hb dL_act_967 (by decide) ?_
                            exact Jkc160 r153 x154 E149 F150 _ _ _ hF (lv_sub hl [1, 0] rfl) hW hEF hS
                        refine lv_icmp_le (tgt := 926) hx hb dL_act_884 (by decide) (fun c168 => ?_) (fun c168 => ?_)
                        · have hF := tc_it hF c168
                          refine lv_iload hx hb dL_act_926 (lv_at hl 2 rfl) ?_
                          refine lv_if_eq (tgt := 958) hx hb dL_act_928 (by decide) (fun c169 => ?_) (fun c169 => ?_)
                          · have hF := tc_it hF c169
                            exact Jkc151 w138 z E143 F144 _ _ _ hF (lv_sub hl [1, 3, 5, 7] rfl) hW hEF hS
                          · have hF := tc_if hF c169
                            refine lv_aload hx hb dL_act_931 (lv_at hl 4 rfl) ?_
                            refine lv_iconst (v := 4) hx hb dL_act_933 (by decide) ?_
                            refine lv_dup2_11 hx hb dL_act_934 rfl rfl ?_
                            refine tc_iald2 (j := 4) (by decide) hx hb hK (hW.2.1.r (tc_isc.r (z := z) g119)) 2 rfl ⟨by decide, g146⟩ dL_act_935 ?_
                            refine lv_iload hx hb dL_act_936 (lv_at hl 0 rfl) ?_
                            refine lv_iadd hx hb dL_act_938 ?_
                            refine tc_iast2 (j := 4) (by decide) hx hb hK (hW.2.1.r (tc_isc.r (z := z) g119)) hS (hW.2.1.own (tc_isr.sl (z := z) (tc_isc.r (z := z) g119))) 2 rfl ⟨by decide, g146⟩ dL_act_939 (fun H locs e1 z1 o1 hS => ?_)
                            have hW1 := hW.at1 (z' := tc_zs z j118 4 ((tc_zf z j118 4) + w142)) (tc_isr.sl (z := z) (tc_isc.r (z := z) g119)) rfl (hW.2.1.ss (tc_isc.r (z := z) g119) e1 o1) o1
                            obtain ⟨z170, ez170⟩ : ∃ z9 : tc_Z, z9 = tc_zs z j118 4 ((tc_zf z j118 4) + w142) := ⟨_, rfl⟩
                            have hF := tc_lt hF ez170
                            have hW : tc_WL D cU cO cI cII cZ e0 A E143 F144 x z170 H := by rw [ez170]; exact hW1
                            have g171 : tc_isc z170 j118 := by rw [ez170]; exact g119
                            refine lv_aload hx hb dL_act_940 (lv_at hl 4 rfl) ?_
                            refine lv_bipush (v := 6) hx hb dL_act_942 (by decide) ?_
                            refine lv_iload hx hb dL_act_944 (lv_at hl 3 rfl) ?_
                            obtain ⟨g172, hF⟩ := tc_ob hF
                            refine tc_iast2 (j := 6) (by decide) hx hb hK (hW.2.1.r (tc_isc.r (z := z170) g171)) hS (hW.2.1.own (tc_isr.sl (z := z170) (tc_isc.r (z := z170) g171))) 2 rfl ⟨by decide, g172⟩ dL_act_946 (fun H locs e1 z1 o1 hS => ?_)
                            have hW1 := hW.at1 (z' := tc_zs z170 j118 6 w125) (tc_isr.sl (z := z170) (tc_isc.r (z := z170) g171)) rfl (hW.2.1.ss (tc_isc.r (z := z170) g171) e1 o1) o1
                            obtain ⟨z173, ez173⟩ : ∃ z9 : tc_Z, z9 = tc_zs z170 j118 6 w125 := ⟨_, rfl⟩
                            have hF := tc_lt hF ez173
                            have hW : tc_WL D cU cO cI cII cZ e0 A E143 F144 x z173 H := by rw [ez173]; exact hW1
                            have g174 : tc_isc z173 j118 := by rw [ez173]; exact g171
                            refine lv_aload_n hx hb dL_act_947 rfl (lv_at hl 6 rfl) ?_
                            refine lv_dup hx hb dL_act_948 rfl ?_
                            refine tc_get (v := .int (z173.1 0)) hx hb hts hinX3 hown hK (hW.2.1.o) (C := RX3) (T := TX3) (N := 6) rfl 0 (by decide) (hts (.fieldLink RL 67 "TreadCranesLaw$Sim" "ticks" "I") (List.mem_of_getElem? (i := 11) rfl)) (fun _ h9 => h9) rfl dL_act_949 ?_
                            refine lv_iload hx hb dL_act_952 (lv_at hl 1 rfl) ?_
                            refine lv_iadd hx hb dL_act_954 ?_
                            refine tc_put (v := .int ((z173.1 0) + w138)) (ty := .int) hx hb hts hinX3 tyX3 tyX3_ok nmX3 hown hK (hW.2.1.o) hS (hW.2.1.own (tc_slf (by decide))) (C := RX3) (T := TX3) (N := 6) rfl 0 (by decide) (hts (.fieldLink RL 67 "TreadCranesLaw$Sim" "ticks" "I") (List.mem_of_getElem? (i := 11) rfl)) (fun _ h9 => h9) rfl (by decide +kernel) rfl rfl (Nat.le_of_ble_eq_true rfl) dL_act_955 (fun H locs e1 z1 o1 hS => ?_)
                            have hW1 := hW.at1 (z' := tc_zg z173 0 ((z173.1 0) + w138)) (tc_slf (by decide)) rfl (hW.2.1.sg0 e1 o1) o1
                            obtain ⟨z175, ez175⟩ : ∃ z9 : tc_Z, z9 = tc_zg z173 0 ((z173.1 0) + w138) := ⟨_, rfl⟩
                            have hF := tc_lt hF ez175
                            have hW : tc_WL D cU cO cI cII cZ e0 A E143 F144 x z175 H := by rw [ez175]; exact hW1
                            have g176 : tc_isc z175 j118 := by rw [ez175]; exact g174
                            exact Jkc151 w138 z175 E143 F144 _ _ _ hF (lv_sub hl [1, 3, 5, 7] rfl) hW hEF hS
                        · have hF := tc_if hF c168
                          refine lv_iconst (v := (-1)) hx hb dL_act_887 (by decide) ?_
                          refine lv_istore (lv' := [(10, .int (-1)), (11, .int w142), (9, .int w134), (8, .int w125), (4, .ref (F144 j118)), (3, .int w1), (1, .ref (F144 0)), (0, .ref (E143 0))]) hx hb dL_act_888 hl (by decide) rfl (fun ls hl => ?_)
                          refine lv_aload_n hx hb dL_act_890 rfl (lv_at hl 6 rfl) ?_
                          refine tc_get (v := .ref (F144 4)) hx hb hts hinX3 hown hK (hW.2.1.o) (C := RX3) (T := TX3) (N := 6) rfl 5 (by decide) (hts (.fieldLink RL 79 "TreadCranesLaw$Sim" "isBroken" "[Z") (List.mem_of_getElem? (i := 12) rfl)) (fun _ h9 => h9) rfl dL_act_891 ?_
                          refine lv_aload hx hb dL_act_894 (lv_at hl 4 rfl) ?_
                          refine lv_bipush (v := 7) hx hb dL_act_896 (by decide) ?_
                          refine tc_iald2 (j := 7) (by decide) hx hb hK (hW.2.1.r (tc_isc.r (z := z) g119)) 2 rfl ⟨by decide, g129⟩ dL_act_898 ?_
                          refine lv_iconst (v := 1) hx hb dL_act_899 (by decide) ?_
                          obtain ⟨g177, hF⟩ := tc_ob hF
                          refine tc_zast2 (j := (tc_zf z j118 7).toNatClampNeg) (rfl) hx hb hKS hW.2.1.b hS (hW.2.1.own (tc_slf (by decide))) 1 rfl (by decide) g177 dL_act_900 (fun H locs e1 z1 o1 hS => ?_)
                          have hW1 := hW.at1 (z' := tc_zs z 4 ((tc_zf z j118 7).toNatClampNeg) 1) (tc_slf (by decide)) rfl (hW.2.1.sb e1 o1) o1
                          obtain ⟨z178, ez178⟩ : ∃ z9 : tc_Z, z9 = tc_zs z 4 ((tc_zf z j118 7).toNatClampNeg) 1 := ⟨_, rfl⟩
                          have hF := tc_lt hF ez178
                          have hW : tc_WL D cU cO cI cII cZ e0 A E143 F144 x z178 H := by rw [ez178]; exact hW1
                          have g179 : tc_isc z178 j118 := by rw [ez178]; exact g119
                          refine lv_aload_n hx hb dL_act_901 rfl (lv_at hl 6 rfl) ?_
                          refine lv_dup hx hb dL_act_902 rfl ?_
                          refine tc_get (v := .int (z178.1 1)) hx hb hts hinX3 hown hK (hW.2.1.o) (C := RX3) (T := TX3) (N := 6) rfl 1 (by decide) (hts (.fieldLink RL 83 "TreadCranesLaw$Sim" "broken" "I") (List.mem_of_getElem? (i := 13) rfl)) (fun _ h9 => h9) rfl dL_act_903 ?_
                          refine lv_iconst (v := 1) hx hb dL_act_906 (by decide) ?_
                          refine lv_iadd hx hb dL_act_907 ?_
                          refine tc_put (v := .int ((z178.1 1) + (1 : Int32))) (ty := .int) hx hb hts hinX3 tyX3 tyX3_ok nmX3 hown hK (hW.2.1.o) hS (hW.2.1.own (tc_slf (by decide))) (C := RX3) (T := TX3) (N := 6) rfl 1 (by decide) (hts (.fieldLink RL 83 "TreadCranesLaw$Sim" "broken" "I") (List.mem_of_getElem? (i := 13) rfl)) (fun _ h9 => h9) rfl (by decide +kernel) rfl rfl (Nat.le_of_ble_eq_true rfl) dL_act_908 (fun H locs e1 z1 o1 hS => ?_)
                          have hW1 := hW.at1 (z' := tc_zg z178 1 ((z178.1 1) + (1 : Int32))) (tc_slf (by decide)) rfl (hW.2.1.sg1 e1 o1) o1
                          obtain ⟨z180, ez180⟩ : ∃ z9 : tc_Z, z9 = tc_zg z178 1 ((z178.1 1) + (1 : Int32)) := ⟨_, rfl⟩
                          have hF := tc_lt hF ez180
                          have hW : tc_WL D cU cO cI cII cZ e0 A E143 F144 x z180 H := by rw [ez180]; exact hW1
                          have g181 : tc_isc z180 j118 := by rw [ez180]; exact g179
                          refine lv_aload hx hb dL_act_911 (lv_at hl 4 rfl) ?_
                          refine lv_bipush (v := 7) hx hb dL_act_913 (by decide) ?_
                          refine lv_iconst (v := (-1)) hx hb dL_act_915 (by decide) ?_
                          obtain ⟨g182, hF⟩ := tc_ob hF
                          refine tc_iast2 (j := 7) (by decide) hx hb hK (hW.2.1.r (tc_isc.r (z := z180) g181)) hS (hW.2.1.own (tc_isr.sl (z := z180) (tc_isc.r (z := z180) g181))) 2 rfl ⟨by decide, g182⟩ dL_act_916 (fun H locs e1 z1 o1 hS => ?_)
                          have hW1 := hW.at1 (z' := tc_zs z180 j118 7 (-1)) (tc_isr.sl (z := z180) (tc_isc.r (z := z180) g181)) rfl (hW.2.1.ss (tc_isc.r (z := z180) g181) e1 o1) o1
                          obtain ⟨z183, ez183⟩ : ∃ z9 : tc_Z, z9 = tc_zs z180 j118 7 (-1) := ⟨_, rfl⟩
                          have hF := tc_lt hF ez183
                          have hW : tc_WL D cU cO cI cII cZ e0 A E143 F144 x z183 H := by rw [ez183]; exact hW1
                          have g184 : tc_isc z183 j118 := by rw [ez183]; exact g181
                          refine lv_aload hx hb dL_act_917 (lv_at hl 4 rfl) ?_
                          refine lv_iconst (v := 4) hx hb dL_act_919 (by decide) ?_
                          refine lv_bipush (v := 99) hx hb dL_act_920 (by decide) ?_
                          obtain ⟨g185, hF⟩ := tc_ob hF
                          refine tc_iast2 (j := 4) (by decide) hx hb hK (hW.2.1.r (tc_isc.r (z := z183) g184)) hS (hW.2.1.own (tc_isr.sl (z := z183) (tc_isc.r (z := z183) g184))) 2 rfl ⟨by decide, g185⟩ dL_act_922 (fun H locs e1 z1 o1 hS => ?_)
                          have hW1 := hW.at1 (z' := tc_zs z183 j118 4 99) (tc_isr.sl (z := z183) (tc_isc.r (z := z183) g184)) rfl (hW.2.1.ss (tc_isc.r (z := z183) g184) e1 o1) o1
                          obtain ⟨z186, ez186⟩ : ∃ z9 : tc_Z, z9 = tc_zs z183 j118 4 99 := ⟨_, rfl⟩
                          have hF := tc_lt hF ez186
                          have hW : tc_WL D cU cO cI cII cZ e0 A E143 F144 x z186 H := by rw [ez186]; exact hW1
                          have g187 : tc_isc z186 j118 := by rw [ez186]; exact g184
                          refine lv_goto (tgt := 958) hx hb dL_act_923 (by decide) ?_
                          exact Jkc151 (-1) z186 E143 F144 _ _ _ hF (lv_sub hl [0, 3, 5, 7] rfl) hW hEF hS
                      refine lv_if_eq (tgt := 872) hx hb dL_act_830 (by decide) (fun c188 => ?_) (fun c188 => ?_)
                      · have hF := tc_it hF c188
                        refine lv_iconst (v := 0) hx hb dL_act_872 (by decide) ?_
                        exact Jkc145 0 E139 F140 _ _ _ hF (lv_sub hl [0, 1, 2, 3, 4, 5, 6] rfl) hW hEF hS
                      · have hF := tc_if hF c188
                        refine lv_aload hx hb dL_act_833 (lv_at hl 3 rfl) ?_
                        refine lv_bipush (v := 7) hx hb dL_act_835 (by decide) ?_
                        refine tc_iald2 (j := 7) (by decide) hx hb hK (hW.2.1.r (tc_isc.r (z := z) g119)) 2 rfl ⟨by decide, g129⟩ dL_act_837 ?_
                        refine lv_if_lt (tgt := 872) hx hb dL_act_838 (by decide) (fun c189 => ?_) (fun c189 => ?_)
                        · have hF := tc_it hF c189
                          refine lv_iconst (v := 0) hx hb dL_act_872 (by decide) ?_
                          exact Jkc145 0 E139 F140 _ _ _ hF (lv_sub hl [0, 1, 2, 3, 4, 5, 6] rfl) hW hEF hS
                        · have hF := tc_if hF c189
                          refine lv_iload hx hb dL_act_841 (lv_at hl 2 rfl) ?_
                          refine lv_aload hx hb dL_act_843 (lv_at hl 3 rfl) ?_
                          refine lv_bipush (v := 6) hx hb dL_act_845 (by decide) ?_
                          obtain ⟨g190, hF⟩ := tc_ob hF
                          refine tc_iald2 (j := 6) (by decide) hx hb hK (hW.2.1.r (tc_isc.r (z := z) g119)) 2 rfl ⟨by decide, g190⟩ dL_act_847 ?_
                          refine lv_icmp_ge (tgt := 872) hx hb dL_act_848 (by decide) (fun c191 => ?_) (fun c191 => ?_)
                          · have hF := tc_it hF c191
                            refine lv_iconst (v := 0) hx hb dL_act_872 (by decide) ?_
                            exact Jkc145 0 E139 F140 _ _ _ hF (lv_sub hl [0, 1, 2, 3, 4, 5, 6] rfl) hW hEF hS
                          · have hF := tc_if hF c191
                            refine lv_iload hx hb dL_act_851 (lv_at hl 0 rfl) ?_
                            refine lv_aload_n hx hb dL_act_853 rfl (lv_at hl 5 rfl) ?_
                            refine tc_get (v := .ref (F140 2)) hx hb hts hinX3 hown hK (hW.2.1.o) (C := RX3) (T := TX3) (N := 6) rfl 3 (by decide) (hts (.fieldLink RL 21 "TreadCranesLaw$Sim" "weights" "[I") (List.mem_of_getElem? (i := 3) rfl)) (fun _ h9 => h9) rfl dL_act_854 ?_
                            refine lv_aload hx hb dL_act_857 (lv_at hl 3 rfl) ?_
                            refine lv_bipush (v := 7) hx hb dL_act_859 (by decide) ?_
                            refine tc_iald2 (j := 7) (by decide) hx hb hK (hW.2.1.r (tc_isc.r (z := z) g119)) 2 rfl ⟨by decide, g129⟩ dL_act_861 ?_
                            obtain ⟨g192, hF⟩ := tc_ob hF
                            refine tc_iald2 (j := (tc_zf z j118 7).toNatClampNeg) (rfl) hx hb hK (hW.2.1.r tc_isrW) 2 rfl g192 dL_act_862 ?_
                            refine lv_bipush (v := 20) hx hb dL_act_863 (by decide) ?_
                            refine lv_idiv hx hb dL_act_865 (by decide) ?_
                            refine lv_iconst (v := 1) hx hb dL_act_866 (by decide) ?_
                            refine lv_iadd hx hb dL_act_867 ?_
                            refine lv_imul hx hb dL_act_868 ?_
                            refine lv_goto (tgt := 873) hx hb dL_act_869 (by decide) ?_
                            exact Jkc145 (w138 * (((tc_zf z 2 (tc_zf z j118 7).toNatClampNeg) / (20 : Int32)) + (1 : Int32))) E139 F140 _ _ _ hF (lv_sub hl [0, 1, 2, 3, 4, 5, 6] rfl) hW hEF hS
                    refine lv_if_eq (tgt := 824) hx hb dL_act_802 (by decide) (fun c193 => ?_) (fun c193 => ?_)
                    · have hF := tc_it hF c193
                      refine lv_bipush (v := (-2)) hx hb dL_act_824 (by decide) ?_
                      exact Jkc141 (-2) E135 F136 _ _ _ hF (lv_sub hl [0, 1, 2, 3, 4, 5] rfl) hW hEF hS
                    · have hF := tc_if hF c193
                      refine lv_aload hx hb dL_act_805 (lv_at hl 2 rfl) ?_
                      refine lv_iload hx hb dL_act_807 (lv_at hl 1 rfl) ?_
                      refine lv_aload hx hb dL_act_809 (lv_at hl 2 rfl) ?_
                      refine lv_bipush (v := 6) hx hb dL_act_811 (by decide) ?_
                      obtain ⟨g194, hF⟩ := tc_ob hF
                      refine tc_iald2 (j := 6) (by decide) hx hb hK (hW.2.1.r (tc_isc.r (z := z) g119)) 2 rfl ⟨by decide, g194⟩ dL_act_813 ?_
                      refine lv_isub hx hb dL_act_814 ?_
                      refine va_mabs hx hb (by rw [hml]; exact hl.1.symm) hown (hts (.methodLink RL 59 Lib.Math.abs.name) (List.mem_of_getElem? (i := 7) rfl)) (hts (.static Lib.Math.abs.name) (List.mem_of_getElem? (i := 8) rfl)) (hts (.initialized "java/lang/Math") (List.mem_of_getElem? (i := 9) rfl)) (hts (.code Lib.Math.abs.name Lib.Math.abs.code 1 (some .int)) (List.mem_of_getElem? (i := 10) rfl)) (Nat.le_of_ble_eq_true rfl) (Nat.le_of_ble_eq_true rfl) ((by show _ ≤ (6 : Nat); omega)) ((by show _ ≤ (161 : Nat); omega)) dL_act_815 ?_
                      refine lv_topi (fun v195 ev195 => ?_)
                      have hF := tc_lt hF ev195
                      obtain ⟨r196, h197, hF⟩ := tc_bi hF
                      refine tc_cr (W.runS (As := [.ref (F136 j118), .int v195]) (rest := []) ⟨hx, hb, hml, hown, hts⟩ (mt_X3_wound l D cU cO cI (F136 j118) (tc_zl z j118) (tc_zf z j118) v195 r196 h197) (va_cwS 2 hts gL_act_X3_wound rfl rfl rfl (by decide +kernel) ⟨Nat.le_of_ble_eq_true rfl, Nat.le_of_ble_eq_true rfl⟩) ⟨fun a U g mk q => ⟨q.1, q.2.1, va_K.moved (Vm.Alike.refl U.vm) q.2.2⟩, fun U hU hW9 => ⟨rfl, by rw [hU]; exact (hW.2.1.r (tc_isc.r (z := z) g119)), va_K.moved hW9.alike hK⟩⟩ rfl rfl hl.1 rfl (lv_room (Nat.le_of_ble_eq_true rfl)) dL_act_818 ⟨(by show _ ≤ (6 : Nat); omega), (by show _ ≤ (161 : Nat); omega)⟩) ?_
                      refine lv_goto (tgt := 826) hx hb dL_act_821 (by decide) ?_
                      exact Jkc141 r196 E135 F136 _ _ _ hF (lv_sub hl [0, 1, 2, 3, 4, 5] rfl) hW hEF hS
                  refine lv_icmp_lt (tgt := 797) hx hb dL_act_753 (by decide) (fun c198 => ?_) (fun c198 => ?_)
                  · have hF := tc_it hF c198
                    refine lv_iconst (v := 0) hx hb dL_act_797 (by decide) ?_
                    exact Jkc137 0 E131 F132 _ _ _ hF (lv_sub hl [0, 1, 2, 3, 4] rfl) hW hEF hS
                  · have hF := tc_if hF c198
                    refine lv_iload hx hb dL_act_756 (lv_at hl 0 rfl) ?_
                    refine lv_aload hx hb dL_act_758 (lv_at hl 1 rfl) ?_
                    refine lv_bipush (v := 6) hx hb dL_act_760 (by decide) ?_
                    obtain ⟨g199, hF⟩ := tc_ob hF
                    refine tc_iald2 (j := 6) (by decide) hx hb hK (hW.2.1.r (tc_isc.r (z := z) g119)) 2 rfl ⟨by decide, g199⟩ dL_act_762 ?_
                    refine lv_icmp_le (tgt := 793) hx hb dL_act_763 (by decide) (fun c200 => ?_) (fun c200 => ?_)
                    · have hF := tc_it hF c200
                      refine lv_iconst (v := 1) hx hb dL_act_793 (by decide) ?_
                      refine lv_goto (tgt := 798) hx hb dL_act_794 (by decide) ?_
                      exact Jkc137 1 E131 F132 _ _ _ hF (lv_sub hl [0, 1, 2, 3, 4] rfl) hW hEF hS
                    · have hF := tc_if hF c200
                      refine lv_aload hx hb dL_act_766 (lv_at hl 1 rfl) ?_
                      refine lv_bipush (v := 7) hx hb dL_act_768 (by decide) ?_
                      refine tc_iald2 (j := 7) (by decide) hx hb hK (hW.2.1.r (tc_isc.r (z := z) g119)) 2 rfl ⟨by decide, g129⟩ dL_act_770 ?_
                      refine lv_if_lt (tgt := 793) hx hb dL_act_771 (by decide) (fun c201 => ?_) (fun c201 => ?_)
                      · have hF := tc_it hF c201
                        refine lv_iconst (v := 1) hx hb dL_act_793 (by decide) ?_
                        refine lv_goto (tgt := 798) hx hb dL_act_794 (by decide) ?_
                        exact Jkc137 1 E131 F132 _ _ _ hF (lv_sub hl [0, 1, 2, 3, 4] rfl) hW hEF hS
                      · have hF := tc_if hF c201
                        refine lv_aload_n hx hb dL_act_774 rfl (lv_at hl 3 rfl) ?_
                        refine tc_get (v := .ref (F132 2)) hx hb hts hinX3 hown hK (hW.2.1.o) (C := RX3) (T := TX3) (N := 6) rfl 3 (by decide) (hts (.fieldLink RL 21 "TreadCranesLaw$Sim" "weights" "[I") (List.mem_of_getElem? (i := 3) rfl)) (fun _ h9 => h9) rfl dL_act_775 ?_
                        refine lv_aload hx hb dL_act_778 (lv_at hl 1 rfl) ?_
                        refine lv_bipush (v := 7) hx hb dL_act_780 (by decide) ?_
                        refine tc_iald2 (j := 7) (by decide) hx hb hK (hW.2.1.r (tc_isc.r (z := z) g119)) 2 rfl ⟨by decide, g129⟩ dL_act_782 ?_
                        obtain ⟨g202, hF⟩ := tc_ob hF
                        refine tc_iald2 (j := (tc_zf z j118 7).toNatClampNeg) (rfl) hx hb hK (hW.2.1.r tc_isrW) 2 rfl g202 dL_act_783 ?_
                        refine lv_aload_n hx hb dL_act_784 rfl (lv_at hl 3 rfl) ?_
                        refine lv_aload hx hb dL_act_785 (lv_at hl 1 rfl) ?_
                        obtain ⟨r203, h204, hF⟩ := tc_bi hF
                        refine tc_cr (W.runV (As := [.ref (F132 j118)]) (rest := [.int (tc_zf z 2 (tc_zf z j118 7).toNatClampNeg)]) ⟨hx, hb, hml, hown, hts⟩ (mt_X3_strong l D cU cO cI (F132 0) (F132 j118) (tc_zl z j118) (tc_zf z j118)  r203 h204) (cwV 1 hts gL_act_X3_strong rfl rfl rfl (by decide +kernel) ⟨Nat.le_of_ble_eq_true rfl, Nat.le_of_ble_eq_true rfl⟩) ⟨fun a U g mk q => ⟨q.1, q.2.1, va_K.moved (Vm.Alike.refl U.vm) q.2.2⟩, tc_rcv hW.2.1.o hK rfl, fun U hU hW9 => ⟨rfl, by rw [hU]; exact (hW.2.1.r (tc_isc.r (z := z) g119)), va_K.moved hW9.alike hK⟩⟩ rfl rfl hl.1 rfl (lv_room (Nat.le_of_ble_eq_true rfl)) dL_act_787 ⟨(by show _ ≤ (6 : Nat); omega), (by show _ ≤ (161 : Nat); omega)⟩) ?_
                        refine lv_icmp_gt (tgt := 797) hx hb dL_act_790 (by decide) (fun c205 => ?_) (fun c205 => ?_)
                        · have hF := tc_it hF c205
                          refine lv_iconst (v := 0) hx hb dL_act_797 (by decide) ?_
                          exact Jkc137 0 E131 F132 _ _ _ hF (lv_sub hl [0, 1, 2, 3, 4] rfl) hW hEF hS
                        · have hF := tc_if hF c205
                          refine lv_iconst (v := 1) hx hb dL_act_793 (by decide) ?_
                          refine lv_goto (tgt := 798) hx hb dL_act_794 (by decide) ?_
                          exact Jkc137 1 E131 F132 _ _ _ hF (lv_sub hl [0, 1, 2, 3, 4] rfl) hW hEF hS
                refine lv_if_ge (tgt := 749) hx hb dL_act_741 (by decide) (fun c206 => ?_) (fun c206 => ?_)
                · have hF := tc_it hF c206
                  refine lv_iload hx hb dL_act_749 (lv_at hl 1 rfl) ?_
                  refine lv_iconst (v := 1) hx hb dL_act_751 (by decide) ?_
                  refine lv_iadd hx hb dL_act_752 ?_
                  exact Jkc133 (v122 + (1 : Int32)) E126 F127 _ _ _ hF (lv_sub hl [0, 2, 3, 4, 5] rfl) hW hEF hS
                · have hF := tc_if hF c206
                  refine lv_iload hx hb dL_act_744 (lv_at hl 1 rfl) ?_
                  refine lv_goto (tgt := 753) hx hb dL_act_746 (by decide) ?_
                  exact Jkc133 v122 E126 F127 _ _ _ hF (lv_sub hl [0, 2, 3, 4, 5] rfl) hW hEF hS
              refine lv_if_ne (tgt := 699) hx hb dL_act_685 (by decide) (fun c207 => ?_) (fun c207 => ?_)
              · have hF := tc_if hF c207
                refine lv_iload_n hx hb dL_act_699 rfl (lv_at hl 3 rfl) ?_
                refine lv_bipush (v := 9) hx hb dL_act_700 (by decide) ?_
                refine lv_ishr hx hb dL_act_702 ?_
                refine lv_iconst (v := 3) hx hb dL_act_703 (by decide) ?_
                obtain ⟨r208, h209, hF⟩ := tc_bi hF
                refine tc_cr (W.runS (As := [.int (a3 >>> ((9 : Int32) &&& 31)), .int 3]) (rest := []) ⟨hx, hb, hml, hown, hts⟩ (mt_L_below l (a3 >>> ((9 : Int32) &&& 31)) 3 r208 h209) (va_cwS 2 hts gL_act_L_below rfl rfl rfl (by decide +kernel) ⟨Nat.le_of_ble_eq_true rfl, Nat.le_of_ble_eq_true rfl⟩) ⟨fun a U g mk q => q, fun U hU hW9 => ⟨rfl, trivial⟩⟩ rfl rfl hl.1 rfl (lv_room (Nat.le_of_ble_eq_true rfl)) dL_act_704 ⟨(by show _ ≤ (6 : Nat); omega), (by show _ ≤ (161 : Nat); omega)⟩) ?_
                refine lv_if_ne (tgt := 715) hx hb dL_act_707 (by decide) (fun c210 => ?_) (fun c210 => ?_)
                · have hF := tc_if hF c210
                  refine lv_aload hx hb dL_act_715 (lv_at hl 1 rfl) ?_
                  refine lv_bipush (v := 7) hx hb dL_act_717 (by decide) ?_
                  obtain ⟨g211, hF⟩ := tc_ob hF
                  refine tc_iald2 (j := 7) (by decide) hx hb hK (hW.2.1.r (tc_isc.r (z := z) g119)) 2 rfl ⟨by decide, g211⟩ dL_act_719 ?_
                  refine lv_if_ge (tgt := 728) hx hb dL_act_720 (by decide) (fun c212 => ?_) (fun c212 => ?_)
                  · have hF := tc_it hF c212
                    refine lv_iload hx hb dL_act_728 (lv_at hl 0 rfl) ?_
                    refine lv_iconst (v := 1) hx hb dL_act_730 (by decide) ?_
                    refine lv_iadd hx hb dL_act_731 ?_
                    exact Jkc128 (v122 + (1 : Int32)) E116 F117 _ _ _ hF (lv_sub hl [0, 1, 2, 4, 5] rfl) hW hEF hS
                  · have hF := tc_if hF c212
                    refine lv_iload hx hb dL_act_723 (lv_at hl 0 rfl) ?_
                    refine lv_goto (tgt := 732) hx hb dL_act_725 (by decide) ?_
                    exact Jkc128 v122 E116 F117 _ _ _ hF (lv_sub hl [0, 1, 2, 4, 5] rfl) hW hEF hS
                · have hF := tc_it hF c210
                  refine lv_bipush (v := 10) hx hb dL_act_710 (by decide) ?_
                  refine lv_goto (tgt := 732) hx hb dL_act_712 (by decide) ?_
                  exact Jkc128 10 E116 F117 _ _ _ hF (lv_sub hl [0, 1, 2, 4, 5] rfl) hW hEF hS
              · have hF := tc_it hF c207
                refine lv_iload_n hx hb dL_act_688 rfl (lv_at hl 3 rfl) ?_
                refine lv_iconst (v := 4) hx hb dL_act_689 (by decide) ?_
                refine lv_ishr hx hb dL_act_690 ?_
                refine lv_bipush (v := 21) hx hb dL_act_691 (by decide) ?_
                obtain ⟨r213, h214, hF⟩ := tc_bi hF
                refine tc_cr (W.runS (As := [.int (a3 >>> ((4 : Int32) &&& 31)), .int 21]) (rest := []) ⟨hx, hb, hml, hown, hts⟩ (mt_L_below l (a3 >>> ((4 : Int32) &&& 31)) 21 r213 h214) (va_cwS 2 hts gL_act_L_below rfl rfl rfl (by decide +kernel) ⟨Nat.le_of_ble_eq_true rfl, Nat.le_of_ble_eq_true rfl⟩) ⟨fun a U g mk q => q, fun U hU hW9 => ⟨rfl, trivial⟩⟩ rfl rfl hl.1 rfl (lv_room (Nat.le_of_ble_eq_true rfl)) dL_act_693 ⟨(by show _ ≤ (6 : Nat); omega), (by show _ ≤ (161 : Nat); omega)⟩) ?_
                refine lv_goto (tgt := 732) hx hb dL_act_696 (by decide) ?_
                exact Jkc128 r213 E116 F117 _ _ _ hF (lv_sub hl [0, 1, 2, 4, 5] rfl) hW hEF hS
          obtain ⟨kc215, ekc215, hF⟩ := tc_jx hF
          have Jkc215 : ∀  (E216 F217 : Nat → Nat) (H : Heap) (locs : List Loc) (ls : Array Slot), kc215 = some (r, x', z') → lv_has ls 13 [(4, va_rf (tc_af F217 o16)), (3, .int w1), (1, .ref (F217 0)), (0, .ref (E216 0))] → tc_WL D cU cO cI cII cZ e0 A E216 F217 x z H → E216 0 = E 0 ∧ F217 0 = F 0 → va_S A s.heap H locs → W p l e ({ frames := 8, cells := 6, slots := 161, locals := 181 } : Room) s m (([.ref (E 0), .ref (F 0), .int a3] : List Value).toArray) below meth c H locs (0) (0) QQ (F0 m 989 ls []) := by
            intro  E216 F217 H locs ls hF hl hW hEF hS
            rw [ekc215] at hF
            refine lv_aload_n hx hb dL_act_989 rfl (lv_at hl 2 rfl) ?_
            refine tc_get (v := .ref (F217 1)) hx hb hts hinX3 hown hK (hW.2.1.o) (C := RX3) (T := TX3) (N := 6) rfl 2 (by decide) (hts (.fieldLink RL 25 "TreadCranesLaw$Sim" "quay" "[[I") (List.mem_of_getElem? (i := 4) rfl)) (fun _ h9 => h9) rfl dL_act_990 ?_
            cases o16 with
            | none =>
              have hF := tc_on hF rfl
              cases hF
            | some j218 =>
              have hF := tc_os hF rfl
              have hl : lv_has ls 13 [(4, .ref (F217 j218)), (3, .int w1), (1, .ref (F217 0)), (0, .ref (E216 0))] := hl
              refine lv_aload hx hb dL_act_993 (lv_at hl 0 rfl) ?_
              refine lv_iconst (v := 5) hx hb dL_act_995 (by decide) ?_
              obtain ⟨g219, hF⟩ := tc_ob hF
              obtain ⟨g220, hF⟩ := tc_ob hF
              refine tc_iald2 (j := 5) (by decide) hx hb hK (hW.2.1.r (tc_isc.r (z := z) g219)) 2 rfl ⟨by decide, g220⟩ dL_act_996 ?_
              obtain ⟨g221, hF⟩ := tc_ob hF
              refine tc_aaldA2 (q := F217 (5 + (tc_zf z j218 5).toNatClampNeg)) (j := (tc_zf z j218 5).toNatClampNeg) (rfl) hx hb hKS hW.2.1.q 0 rfl g221 dL_act_997 rfl ?_
              refine tc_alen (v := nI (tc_zl z (5 + (tc_zf z j218 5).toNatClampNeg))) hx hb hK (hW.2.1.r (tc_isrQ (show ¬ (tc_zf z j218 5) < 0 ∧ (tc_zf z j218 5).toNatClampNeg < 16 from g221).2)) 2 rfl rfl dL_act_998 ?_
              refine lv_topi (fun v222 ev222 => ?_)
              have hF := tc_lt hF ev222
              refine lv_istore (lv' := [(7, .int v222), (4, .ref (F217 j218)), (3, .int w1), (1, .ref (F217 0)), (0, .ref (E216 0))]) hx hb dL_act_999 hl (by decide) rfl (fun ls hl => ?_)
              refine lv_aload hx hb dL_act_1001 (lv_at hl 1 rfl) ?_
              refine lv_bipush (v := 7) hx hb dL_act_1003 (by decide) ?_
              obtain ⟨g223, hF⟩ := tc_ob hF
              refine tc_iald2 (j := 7) (by decide) hx hb hK (hW.2.1.r (tc_isc.r (z := z) g219)) 2 rfl ⟨by decide, g223⟩ dL_act_1005 ?_
              obtain ⟨kc227, ekc227, hF⟩ := tc_jx hF
              have Jkc227 : ∀ (w224 : Int32) (E225 F226 : Nat → Nat) (H : Heap) (locs : List Loc) (ls : Array Slot), kc227 w224 = some (r, x', z') → lv_has ls 13 [(7, .int v222), (4, .ref (F226 j218)), (3, .int w1), (1, .ref (F226 0)), (0, .ref (E225 0))] → tc_WL D cU cO cI cII cZ e0 A E225 F226 x z H → E225 0 = E 0 ∧ F226 0 = F 0 → va_S A s.heap H locs → W p l e ({ frames := 8, cells := 6, slots := 161, locals := 181 } : Room) s m (([.ref (E 0), .ref (F 0), .int a3] : List Value).toArray) below meth c H locs (0) (0) QQ (F0 m 1029 ls [.int w224]) := by
                intro w224 E225 F226 H locs ls hF hl hW hEF hS
                rw [ekc227] at hF
                dsimp only at hF
                refine lv_istore (lv' := [(8, .int w224), (7, .int v222), (4, .ref (F226 j218)), (3, .int w1), (1, .ref (F226 0)), (0, .ref (E225 0))]) hx hb dL_act_1029 hl (by decide) rfl (fun ls hl => ?_)
                refine lv_aload_n hx hb dL_act_1031 rfl (lv_at hl 5 rfl) ?_
                refine lv_iload_n hx hb dL_act_1032 rfl (lv_at hl 3 rfl) ?_
                obtain ⟨kc236, ekc236, hF⟩ := tc_jx hF
                have Jkc236 : ∀ (w232 : Int32) (x233 : tc_X) (E234 F235 : Nat → Nat) (H : Heap) (locs : List Loc) (ls : Array Slot), kc236 w232 x233 = some (r, x', z') → lv_has ls 13 [(8, .int w224), (7, .int v222), (6, .int w232), (4, .ref (F235 j218)), (1, .ref (F235 0))] → tc_WL D cU cO cI cII cZ e0 A E234 F235 x233 z H → E234 0 = E 0 ∧ F235 0 = F 0 → va_S A s.heap H locs → W p l e ({ frames := 8, cells := 6, slots := 161, locals := 181 } : Room) s m (([.ref (E 0), .ref (F 0), .int a3] : List Value).toArray) below meth c H locs (2) (12) QQ (F0 m 1046 ls []) := by
                  intro w232 x233 E234 F235 H locs ls hF hl hW hEF hS
                  rw [ekc236] at hF
                  dsimp only at hF
                  refine lv_iload hx hb dL_act_1046 (lv_at hl 2 rfl) ?_
                  refine lv_iload hx hb dL_act_1048 (lv_at hl 0 rfl) ?_
                  obtain ⟨kc240, ekc240, hF⟩ := tc_jx hF
                  have Jkc240 : ∀ (w237 : Int32) (E238 F239 : Nat → Nat) (H : Heap) (locs : List Loc) (ls : Array Slot), kc240 w237 = some (r, x', z') → lv_has ls 13 [(8, .int w224), (6, .int w232), (4, .ref (F239 j218)), (1, .ref (F239 0))] → tc_WL D cU cO cI cII cZ e0 A E238 F239 x233 z H → E238 0 = E 0 ∧ F239 0 = F 0 → va_S A s.heap H locs → W p l e ({ frames := 8, cells := 6, slots := 161, locals := 181 } : Room) s m (([.ref (E 0), .ref (F 0), .int a3] : List Value).toArray) below meth c H locs (2) (12) QQ (F0 m 1071 ls [.int w237, .int w232]) := by
                    intro w237 E238 F239 H locs ls hF hl hW hEF hS
                    rw [ekc240] at hF
                    dsimp only at hF
                    refine lv_icmp_eq (tgt := 1076) hx hb dL_act_1071 (by decide) (fun c241 => ?_) (fun c241 => ?_)
                    · have hF := tc_it hF c241
                      refine lv_iload hx hb dL_act_1076 (lv_at hl 0 rfl) ?_
                      refine lv_if_ne (tgt := 1083) hx hb dL_act_1078 (by decide) (fun c242 => ?_) (fun c242 => ?_)
                      · have hF := tc_if hF c242
                        refine lv_aload hx hb dL_act_1083 (lv_at hl 2 rfl) ?_
                        refine lv_bipush (v := 7) hx hb dL_act_1085 (by decide) ?_
                        refine lv_iload hx hb dL_act_1087 (lv_at hl 1 rfl) ?_
                        refine tc_iast2 (j := 7) (by decide) hx hb hK (hW.2.1.r (tc_isc.r (z := z) g219)) hS (hW.2.1.own (tc_isr.sl (z := z) (tc_isc.r (z := z) g219))) 2 rfl ⟨by decide, g223⟩ dL_act_1089 (fun H locs e1 z1 o1 hS => ?_)
                        have hW1 := hW.at1 (z' := tc_zs z j218 7 w232) (tc_isr.sl (z := z) (tc_isc.r (z := z) g219)) rfl (hW.2.1.ss (tc_isc.r (z := z) g219) e1 o1) o1
                        obtain ⟨z243, ez243⟩ : ∃ z9 : tc_Z, z9 = tc_zs z j218 7 w232 := ⟨_, rfl⟩
                        have hF := tc_lt hF ez243
                        have hW : tc_WL D cU cO cI cII cZ e0 A E238 F239 x233 z243 H := by rw [ez243]; exact hW1
                        have g244 : tc_isc z243 j218 := by rw [ez243]; exact g219
                        refine lv_aload_n hx hb dL_act_1090 rfl (lv_at hl 3 rfl) ?_
                        refine tc_get (v := .ref (F239 1)) hx hb hts hinX3 hown hK (hW.2.1.o) (C := RX3) (T := TX3) (N := 6) rfl 2 (by decide) (hts (.fieldLink RL 25 "TreadCranesLaw$Sim" "quay" "[[I") (List.mem_of_getElem? (i := 4) rfl)) (fun _ h9 => h9) rfl dL_act_1091 ?_
                        refine lv_aload hx hb dL_act_1094 (lv_at hl 2 rfl) ?_
                        refine lv_iconst (v := 5) hx hb dL_act_1096 (by decide) ?_
                        obtain ⟨g245, hF⟩ := tc_ob hF
                        refine tc_iald2 (j := 5) (by decide) hx hb hK (hW.2.1.r (tc_isc.r (z := z243) g244)) 2 rfl ⟨by decide, g245⟩ dL_act_1097 ?_
                        refine lv_aload_n hx hb dL_act_1098 rfl (lv_at hl 3 rfl) ?_
                        refine tc_get (v := .ref (F239 1)) hx hb hts hinX3 hown hK (hW.2.1.o) (C := RX3) (T := TX3) (N := 6) rfl 2 (by decide) (hts (.fieldLink RL 25 "TreadCranesLaw$Sim" "quay" "[[I") (List.mem_of_getElem? (i := 4) rfl)) (fun _ h9 => h9) rfl dL_act_1099 ?_
                        refine lv_aload hx hb dL_act_1102 (lv_at hl 2 rfl) ?_
                        refine lv_iconst (v := 5) hx hb dL_act_1104 (by decide) ?_
                        refine tc_iald2 (j := 5) (by decide) hx hb hK (hW.2.1.r (tc_isc.r (z := z243) g244)) 2 rfl ⟨by decide, g245⟩ dL_act_1105 ?_
                        obtain ⟨g246, hF⟩ := tc_ob hF
                        refine tc_aaldA2 (q := F239 (5 + (tc_zf z243 j218 5).toNatClampNeg)) (j := (tc_zf z243 j218 5).toNatClampNeg) (rfl) hx hb hKS hW.2.1.q 0 rfl g246 dL_act_1106 rfl ?_
                        obtain ⟨g247, hF⟩ := tc_ob hF
                        refine tc_cn (va_runS (As := [.ref (F239 (5 + (tc_zf z243 j218 5).toNatClampNeg))]) (rest := [.int (tc_zf z243 j218 5), .ref (F239 1)]) ⟨hx, hb, hml, hown, hts⟩ (mt_X3_without l D cU cO cI A (F239 (5 + (tc_zf z243 j218 5).toNatClampNeg)) (tc_zl z243 (5 + (tc_zf z243 j218 5).toNatClampNeg)) (tc_zf z243 (5 + (tc_zf z243 j218 5).toNatClampNeg)) g247) (va_cwS 1 hts gL_act_X3_without rfl rfl rfl (by decide +kernel) ⟨Nat.le_of_ble_eq_true rfl, Nat.le_of_ble_eq_true rfl⟩) ⟨fun a U g mk q => ⟨q.1, q.2.1, va_K.moved (Vm.Alike.refl U.vm) q.2.2.1, q.2.2.2⟩, fun U hU hW9 => ⟨rfl, by rw [hU]; exact (hW.2.1.r (tc_isrQ (show ¬ (tc_zf z243 j218 5) < 0 ∧ (tc_zf z243 j218 5).toNatClampNeg < 16 from g246).2)), va_K.moved hW9.alike hK, by rw [hU]; exact (fun z9 h9 => by exact hAn z9 (Nat.le_trans hS.1 h9))⟩⟩ rfl rfl hl.1 rfl (lv_room (Nat.le_of_ble_eq_true rfl)) dL_act_1107 ⟨(by show _ ≤ (6 : Nat); omega), (by show _ ≤ (161 : Nat); omega)⟩) hS (fun z9 h9 => h9.elim (fun h9 => h9) (fun h8 => by rw [h8]; exact (hW.2.1.own (tc_isr.sl (z := z243) (tc_isrQ (show ¬ (tc_zf z243 j218 5) < 0 ∧ (tc_zf z243 j218 5).toNatClampNeg < 16 from g246).2))))) (fun q248 H locs hq_q248 et_q248 o1 hS => ?_)
                        have hr_q248 := hq_q248.2
                        have hq_q248 := hq_q248.1
                        obtain ⟨u249, eu249⟩ : ∃ z9 : Nat → Int32, z9 = tc_wo2 (tc_zl z243 (5 + (tc_zf z243 j218 5).toNatClampNeg)) (tc_zf z243 (5 + (tc_zf z243 j218 5).toNatClampNeg)) := ⟨_, rfl⟩
                        have hF := tc_lt hF eu249
                        rw [← eu249] at et_q248
                        have hnc_q248 := hW.neE hq_q248
                        have hnf_q248 := hW.neF hq_q248
                        have hW := hW.grown o1
                        refine tc_aastA2 (j := (tc_zf z243 j218 5).toNatClampNeg) (rfl) hx hb hK 2 rfl hKF hW.2.1.q hS (hW.2.1.own (tc_slf (by decide))) et_q248 g246 dL_act_1110 (fun H locs e1 z1 o1 hS => ?_)
                        have et_q248 := et_q248.kept (o1 _ (fun h9 => hnf_q248 1 (tc_slf (by decide)) h9.symm))
                        have hW1 := hW.sQ (show ¬ (tc_zf z243 j218 5) < 0 ∧ (tc_zf z243 j218 5).toNatClampNeg < 16 from g246).2 hr_q248 hnc_q248 hnf_q248 e1 o1 et_q248
                        obtain ⟨z250, ez250⟩ : ∃ z9 : tc_Z, z9 = tc_zR z243 (5 + (tc_zf z243 j218 5).toNatClampNeg) ((tc_zl z243 (5 + (tc_zf z243 j218 5).toNatClampNeg)) - 1) u249 := ⟨_, rfl⟩
                        have hF := tc_lt hF ez250
                        obtain ⟨F251, eF251⟩ : ∃ z9 : Nat → Nat, z9 = va_up F239 (5 + (tc_zf z243 j218 5).toNatClampNeg) q248 := ⟨_, rfl⟩
                        have hW : tc_WL D cU cO cI cII cZ e0 A E238 F251 x233 z250 H := by rw [ez250, eF251]; exact hW1
                        have g252 : tc_isc z250 j218 := by rw [ez250]; exact g244
                        have h253 : F251 0 = F239 0 := by rw [eF251]; exact va_up_ne _ _ (by omega)
                        have h254 : F251 j218 = F239 j218 := by rw [eF251]; exact va_up_ne _ _ (by have h9 := g252; omega)
                        have hEF := And.intro hEF.1 (h253.trans hEF.2)
                        have hl : lv_has ls 13 [(8, .int w224), (6, .int w232), (4, .ref (F251 j218)), (1, .ref (F251 0))] := by simp only [h253, h254]; exact hl
                        refine lv_iconst (v := 1) hx hb dL_act_1111 (by decide) ?_
                        obtain ⟨h91, h92, h93⟩ := tc_pr3 (Option.some.inj hF)
                        rw [eQQ]
                        refine W.widen (k := 6) (n := 161) (by omega) (by omega) ?_
                        exact W.zret hx hb hr rfl (fun t ht hW9 => ⟨⟨by rw [← h91], by rw [← h92, ← h93, ht]; exact ⟨E238, F251, hEF.1, hEF.2, hW⟩⟩, tc_F hS ht⟩) hS.2.2 dL_act_1112
                      · have hF := tc_it hF c242
                        refine lv_iconst (v := 1) hx hb dL_act_1081 (by decide) ?_
                        obtain ⟨h91, h92, h93⟩ := tc_pr3 (Option.some.inj hF)
                        rw [eQQ]
                        refine W.widen (k := 6) (n := 161) (by omega) (by omega) ?_
                        exact W.zret hx hb hr rfl (fun t ht hW9 => ⟨⟨by rw [← h91], by rw [← h92, ← h93, ht]; exact ⟨E238, F239, hEF.1, hEF.2, hW⟩⟩, tc_F hS ht⟩) hS.2.2 dL_act_1082
                    · have hF := tc_if hF c241
                      refine lv_iconst (v := 0) hx hb dL_act_1074 (by decide) ?_
                      obtain ⟨h91, h92, h93⟩ := tc_pr3 (Option.some.inj hF)
                      rw [eQQ]
                      refine W.widen (k := 6) (n := 161) (by omega) (by omega) ?_
                      exact W.zret hx hb hr rfl (fun t ht hW9 => ⟨⟨by rw [← h91], by rw [← h92, ← h93, ht]; exact ⟨E238, F239, hEF.1, hEF.2, hW⟩⟩, tc_F hS ht⟩) hS.2.2 dL_act_1075
                  refine lv_if_eq (tgt := 1070) hx hb dL_act_1050 (by decide) (fun c255 => ?_) (fun c255 => ?_)
                  · have hF := tc_it hF c255
                    refine lv_iconst (v := (-1)) hx hb dL_act_1070 (by decide) ?_
                    exact Jkc240 (-1) E234 F235 _ _ _ hF (lv_sub hl [0, 2, 3, 4] rfl) hW hEF hS
                  · have hF := tc_if hF c255
                    refine lv_aload_n hx hb dL_act_1053 rfl (lv_at hl 4 rfl) ?_
                    refine tc_get (v := .ref (F235 1)) hx hb hts hinX3 hown hK (hW.2.1.o) (C := RX3) (T := TX3) (N := 6) rfl 2 (by decide) (hts (.fieldLink RL 25 "TreadCranesLaw$Sim" "quay" "[[I") (List.mem_of_getElem? (i := 4) rfl)) (fun _ h9 => h9) rfl dL_act_1054 ?_
                    refine lv_aload hx hb dL_act_1057 (lv_at hl 3 rfl) ?_
                    refine lv_iconst (v := 5) hx hb dL_act_1059 (by decide) ?_
                    refine tc_iald2 (j := 5) (by decide) hx hb hK (hW.2.1.r (tc_isc.r (z := z) g219)) 2 rfl ⟨by decide, g220⟩ dL_act_1060 ?_
                    refine tc_aaldA2 (q := F235 (5 + (tc_zf z j218 5).toNatClampNeg)) (j := (tc_zf z j218 5).toNatClampNeg) (rfl) hx hb hKS hW.2.1.q 0 rfl g221 dL_act_1061 rfl ?_
                    refine lv_iload hx hb dL_act_1062 (lv_at hl 1 rfl) ?_
                    refine lv_iconst (v := 1) hx hb dL_act_1064 (by decide) ?_
                    refine lv_isub hx hb dL_act_1065 ?_
                    obtain ⟨g256, hF⟩ := tc_ob hF
                    refine tc_iald2 (j := (v222 - (1 : Int32)).toNatClampNeg) (rfl) hx hb hK (hW.2.1.r (tc_isrQ (show ¬ (tc_zf z j218 5) < 0 ∧ (tc_zf z j218 5).toNatClampNeg < 16 from g221).2)) 2 rfl g256 dL_act_1066 ?_
                    refine lv_goto (tgt := 1071) hx hb dL_act_1067 (by decide) ?_
                    exact Jkc240 (tc_zf z (5 + (tc_zf z j218 5).toNatClampNeg) (v222 - (1 : Int32)).toNatClampNeg) E234 F235 _ _ _ hF (lv_sub hl [0, 2, 3, 4] rfl) hW hEF hS
                obtain ⟨k228, r229, x230, h231, hF⟩ := tc_bi3 hF
                refine tc_cx (vx_runV (As := [.int w1]) (rest := []) ⟨hx, hb, hml, hown, hts⟩ (mt_X2_take l hst D cU cO cI e0 (tc_A1 A F226 z) E225 x w1 k228 r229 x230 h231) (cwV 1 hts gL_act_X2_take rfl rfl rfl (by decide +kernel) ⟨Nat.le_of_ble_eq_true rfl, Nat.le_of_ble_eq_true rfl⟩) ⟨fun a U g mk q => ⟨q.1, q.2.1, q.2.2.call⟩, tc_rcv hW.1.o hK rfl, fun U hU hW9 => ⟨rfl, by rw [hU]; exact hW.1, ((hKX.go hS hU hW9).narrow (fun z9 h9 => h9.1) (by rw [hU]; exact hW.newA (fun z9 h9 => by exact hAn z9 (Nat.le_trans hS.1 h9))))⟩⟩ rfl rfl hl.1 rfl (lv_room (Nat.le_of_ble_eq_true rfl)) dL_act_1033 ⟨(by show _ ≤ (6 : Nat); omega), (by show _ ≤ (161 : Nat); omega)⟩) hS (fun z9 _ h9 => h9.1) (fun z9 h9 => h9.1) (fun z9 _ h9 => h9.1) (fun ce q9 H locs c257 hB z1 o1 hS hce hcv hcl => ?_) (fun H locs c257 hB z1 o1 hS => ?_)
                · have hF := tc_if hF c257
                  obtain ⟨g9, hF⟩ := tc_ob hF
                  subst g9
                  have hW := hW.afterC hB o1
                  refine vx_catch (own := RL) (name := "java/lang/IllegalStateException") (E := "java/lang/IllegalStateException") hown [⟨242, 252, 255, 37⟩, ⟨394, 414, 417, 37⟩, ⟨613, 622, 625, 37⟩, ⟨958, 967, 970, 37⟩] ⟨1031, 1038, 1041, 37⟩ [⟨1176, 1183, 1186, 37⟩] htab (fun z9 h9 => Or.inl ((by decide : ∀ z ∈ ([⟨242, 252, 255, 37⟩, ⟨394, 414, 417, 37⟩, ⟨613, 622, 625, 37⟩, ⟨958, 967, 970, 37⟩] : List ExceptionTableEntry), covers z 1033 = false) z9 h9)) (by decide) (by decide) (hts (.classLink RL 37 "java/lang/IllegalStateException") (List.mem_of_getElem? (i := 1) rfl)) (va_Nw.use rfl hKX.2.2.2.2.2.2.2.2.2.1) hce hcv hcl ?_
                  refine lv_astore (lv' := [(9, .ref q9), (8, .int w224), (7, .int v222), (4, .ref (F226 j218)), (3, .int w1), (1, .ref (F226 0)), (0, .ref (E225 0))]) hx hb dL_act_1041 hl (by decide) rfl (fun ls hl => ?_)
                  refine lv_iconst (v := (-1)) hx hb dL_act_1043 (by decide) ?_
                  refine lv_istore (lv' := [(6, .int (-1)), (9, .ref q9), (8, .int w224), (7, .int v222), (4, .ref (F226 j218)), (3, .int w1), (1, .ref (F226 0)), (0, .ref (E225 0))]) hx hb dL_act_1044 hl (by decide) rfl (fun ls hl => ?_)
                  exact Jkc236 (-1) x E225 F226 _ _ _ hF (lv_sub hl [2, 3, 0, 4, 6] rfl) hW hEF hS
                · have hF := tc_it hF c257
                  have hW := hW.afterC hB o1
                  refine lv_istore (lv' := [(6, .int r229), (8, .int w224), (7, .int v222), (4, .ref (F226 j218)), (3, .int w1), (1, .ref (F226 0)), (0, .ref (E225 0))]) hx hb dL_act_1036 hl (by decide) rfl (fun ls hl => ?_)
                  refine lv_goto (tgt := 1046) hx hb dL_act_1038 (by decide) ?_
                  exact Jkc236 r229 x230 E225 F226 _ _ _ hF (lv_sub hl [1, 2, 0, 3, 5] rfl) hW hEF hS
              refine lv_if_ge (tgt := 1028) hx hb dL_act_1006 (by decide) (fun c258 => ?_) (fun c258 => ?_)
              · have hF := tc_it hF c258
                refine lv_iconst (v := 0) hx hb dL_act_1028 (by decide) ?_
                exact Jkc227 0 E216 F217 _ _ _ hF (lv_sub hl [0, 1, 2, 3, 4] rfl) hW hEF hS
              · have hF := tc_if hF c258
                refine lv_iload hx hb dL_act_1009 (lv_at hl 0 rfl) ?_
                refine lv_if_le (tgt := 1028) hx hb dL_act_1011 (by decide) (fun c259 => ?_) (fun c259 => ?_)
                · have hF := tc_it hF c259
                  refine lv_iconst (v := 0) hx hb dL_act_1028 (by decide) ?_
                  exact Jkc227 0 E216 F217 _ _ _ hF (lv_sub hl [0, 1, 2, 3, 4] rfl) hW hEF hS
                · have hF := tc_if hF c259
                  refine lv_aload hx hb dL_act_1014 (lv_at hl 1 rfl) ?_
                  refine lv_bipush (v := 6) hx hb dL_act_1016 (by decide) ?_
                  obtain ⟨g260, hF⟩ := tc_ob hF
                  refine tc_iald2 (j := 6) (by decide) hx hb hK (hW.2.1.r (tc_isc.r (z := z) g219)) 2 rfl ⟨by decide, g260⟩ dL_act_1018 ?_
                  refine lv_iload hx hb dL_act_1019 (lv_at hl 0 rfl) ?_
                  refine lv_icmp_ne (tgt := 1028) hx hb dL_act_1021 (by decide) (fun c261 => ?_) (fun c261 => ?_)
                  · have hF := tc_if hF c261
                    refine lv_iconst (v := 0) hx hb dL_act_1028 (by decide) ?_
                    exact Jkc227 0 E216 F217 _ _ _ hF (lv_sub hl [0, 1, 2, 3, 4] rfl) hW hEF hS
                  · have hF := tc_it hF c261
                    refine lv_iconst (v := 1) hx hb dL_act_1024 (by decide) ?_
                    refine lv_goto (tgt := 1029) hx hb dL_act_1025 (by decide) ?_
                    exact Jkc227 1 E216 F217 _ _ _ hF (lv_sub hl [0, 1, 2, 3, 4] rfl) hW hEF hS
          by_cases c262 : w15 = 0
          · have hF := tc_it hF c262
            refine lv_tableIn (off := 65) (tgt := 164) hx hb dL_act_99 (by rw [c262]; decide) (by rw [c262]; decide) (by rw [c262]; decide +kernel) (by decide) ?_
            exact Jkc20  E17 F18 _ _ _ hF (lv_sub hl [0, 3, 4, 5] rfl) hW hEF hS
          have hF := tc_if hF c262
          by_cases c263 : w15 = 1
          · have hF := tc_it hF c263
            refine lv_tableIn (off := 65) (tgt := 164) hx hb dL_act_99 (by rw [c263]; decide) (by rw [c263]; decide) (by rw [c263]; decide +kernel) (by decide) ?_
            exact Jkc20  E17 F18 _ _ _ hF (lv_sub hl [0, 3, 4, 5] rfl) hW hEF hS
          have hF := tc_if hF c263
          by_cases c264 : w15 = 2
          · have hF := tc_it hF c264
            refine lv_tableIn (off := 65) (tgt := 164) hx hb dL_act_99 (by rw [c264]; decide) (by rw [c264]; decide) (by rw [c264]; decide +kernel) (by decide) ?_
            exact Jkc20  E17 F18 _ _ _ hF (lv_sub hl [0, 3, 4, 5] rfl) hW hEF hS
          have hF := tc_if hF c264
          by_cases c265 : w15 = 3
          · have hF := tc_it hF c265
            refine lv_tableIn (off := 226) (tgt := 325) hx hb dL_act_99 (by rw [c265]; decide) (by rw [c265]; decide) (by rw [c265]; decide +kernel) (by decide) ?_
            refine lv_bipush (v := 8) hx hb dL_act_325 (by decide) ?_
            refine tc_newI (n := 8) (N := 8) hx hb (hts (.arrayClass .int) (List.mem_of_getElem? (i := 5) rfl)) hS hK hA0 (by decide) (by decide) (Nat.le_of_ble_eq_true rfl) (by show _ ≤ (6 : Nat); omega) (by show _ ≤ (161 : Nat); omega) dL_act_327 2 rfl (fun q266 H hq_q266 ho_q266 et_q266 z1 o1 hS => ?_)
            obtain ⟨u267, eu267⟩ : ∃ z9 : Nat → Int32, z9 = fun _ : Nat => (0 : Int32) := ⟨_, rfl⟩
            have hF := tc_lt hF eu267
            rw [← eu267] at et_q266
            have hnc_q266 := hW.neE hq_q266
            have hnf_q266 := hW.neF hq_q266
            have hW := hW.grown o1
            obtain ⟨A268, eA268⟩ : ∃ A9 : Nat → Prop, A9 = fun z9 => A z9 ∧ z9 ≠ q266 := ⟨_, rfl⟩
            have hA268A : ∀ z9, A268 z9 → A z9 := fun z9 h9 => by rw [eA268] at h9; exact h9.1
            have hW := hW.reA (A' := A268) (fun j hj => by rw [eA268]; exact ⟨(hW.1.own hj).1, hnc_q266 j hj⟩) (fun i hi => by rw [eA268]; exact ⟨hW.2.1.own hi, hnf_q266 i hi⟩) (fun h9 => hW.2.2 (by rw [eA268] at h9; exact h9.1))
            have heA268 := hW.2.2
            have hx_q266 : ¬ A268 q266 := fun h9 => by rw [eA268] at h9; exact h9.2 rfl
            refine lv_dup hx hb dL_act_329 rfl ?_
            refine lv_iconst (v := 0) hx hb dL_act_330 (by decide) ?_
            refine lv_iload hx hb dL_act_331 (lv_at hl 0 rfl) ?_
            refine tc_iast2 (j := 0) (by decide) hx hb hK et_q266 hS ho_q266 2 rfl ⟨by decide, by decide⟩ dL_act_333 (fun H locs e1 z1 o1 hS => ?_)
            have hW := hW.tmp hx_q266 o1
            have et_q266 := e1
            obtain ⟨u269, eu269⟩ : ∃ z9 : Nat → Int32, z9 = upd u267 0 w11 := ⟨_, rfl⟩
            have hF := tc_lt hF eu269
            rw [← eu269] at et_q266
            refine lv_dup hx hb dL_act_334 rfl ?_
            refine lv_iconst (v := 1) hx hb dL_act_335 (by decide) ?_
            refine lv_iconst (v := 1) hx hb dL_act_336 (by decide) ?_
            refine lv_iload_n hx hb dL_act_337 rfl (lv_at hl 3 rfl) ?_
            refine lv_iconst (v := 4) hx hb dL_act_338 (by decide) ?_
            refine lv_ishr hx hb dL_act_339 ?_
            refine lv_bipush (v := 15) hx hb dL_act_340 (by decide) ?_
            obtain ⟨r270, h271, hF⟩ := tc_bi hF
            refine tc_cr (W.runS (As := [.int (a3 >>> ((4 : Int32) &&& 31)), .int 15]) (rest := [.int 1, .int 1, .ref q266, .ref q266]) ⟨hx, hb, hml, hown, hts⟩ (mt_L_below l (a3 >>> ((4 : Int32) &&& 31)) 15 r270 h271) (va_cwS 2 hts gL_act_L_below rfl rfl rfl (by decide +kernel) ⟨Nat.le_of_ble_eq_true rfl, Nat.le_of_ble_eq_true rfl⟩) ⟨fun a U g mk q => q, fun U hU hW9 => ⟨rfl, trivial⟩⟩ rfl rfl hl.1 rfl (lv_room (Nat.le_of_ble_eq_true rfl)) dL_act_342 ⟨(by show _ ≤ (6 : Nat); omega), (by show _ ≤ (161 : Nat); omega)⟩) ?_
            refine lv_iadd hx hb dL_act_345 ?_
            refine tc_iast2 (j := 1) (by decide) hx hb hK et_q266 hS ho_q266 2 rfl ⟨by decide, by decide⟩ dL_act_346 (fun H locs e1 z1 o1 hS => ?_)
            have hW := hW.tmp hx_q266 o1
            have et_q266 := e1
            obtain ⟨u272, eu272⟩ : ∃ z9 : Nat → Int32, z9 = upd u269 1 ((1 : Int32) + r270) := ⟨_, rfl⟩
            have hF := tc_lt hF eu272
            rw [← eu272] at et_q266
            refine lv_dup hx hb dL_act_347 rfl ?_
            refine lv_iconst (v := 2) hx hb dL_act_348 (by decide) ?_
            refine lv_iconst (v := 1) hx hb dL_act_349 (by decide) ?_
            refine lv_iload_n hx hb dL_act_350 rfl (lv_at hl 3 rfl) ?_
            refine lv_bipush (v := 8) hx hb dL_act_351 (by decide) ?_
            refine lv_ishr hx hb dL_act_353 ?_
            refine lv_bipush (v := 6) hx hb dL_act_354 (by decide) ?_
            obtain ⟨r273, h274, hF⟩ := tc_bi hF
            refine tc_cr (W.runS (As := [.int (a3 >>> ((8 : Int32) &&& 31)), .int 6]) (rest := [.int 1, .int 2, .ref q266, .ref q266]) ⟨hx, hb, hml, hown, hts⟩ (mt_L_below l (a3 >>> ((8 : Int32) &&& 31)) 6 r273 h274) (va_cwS 2 hts gL_act_L_below rfl rfl rfl (by decide +kernel) ⟨Nat.le_of_ble_eq_true rfl, Nat.le_of_ble_eq_true rfl⟩) ⟨fun a U g mk q => q, fun U hU hW9 => ⟨rfl, trivial⟩⟩ rfl rfl hl.1 rfl (lv_room (Nat.le_of_ble_eq_true rfl)) dL_act_356 ⟨(by show _ ≤ (6 : Nat); omega), (by show _ ≤ (161 : Nat); omega)⟩) ?_
            refine lv_iadd hx hb dL_act_359 ?_
            refine tc_iast2 (j := 2) (by decide) hx hb hK et_q266 hS ho_q266 2 rfl ⟨by decide, by decide⟩ dL_act_360 (fun H locs e1 z1 o1 hS => ?_)
            have hW := hW.tmp hx_q266 o1
            have et_q266 := e1
            obtain ⟨u275, eu275⟩ : ∃ z9 : Nat → Int32, z9 = upd u272 2 ((1 : Int32) + r273) := ⟨_, rfl⟩
            have hF := tc_lt hF eu275
            rw [← eu275] at et_q266
            refine lv_dup hx hb dL_act_361 rfl ?_
            refine lv_iconst (v := 3) hx hb dL_act_362 (by decide) ?_
            refine lv_iload_n hx hb dL_act_363 rfl (lv_at hl 3 rfl) ?_
            refine lv_iconst (v := 3) hx hb dL_act_364 (by decide) ?_
            refine lv_ishr hx hb dL_act_365 ?_
            refine lv_bipush (v := 9) hx hb dL_act_366 (by decide) ?_
            obtain ⟨r276, h277, hF⟩ := tc_bi hF
            refine tc_cr (W.runS (As := [.int (a3 >>> ((3 : Int32) &&& 31)), .int 9]) (rest := [.int 3, .ref q266, .ref q266]) ⟨hx, hb, hml, hown, hts⟩ (mt_L_below l (a3 >>> ((3 : Int32) &&& 31)) 9 r276 h277) (va_cwS 2 hts gL_act_L_below rfl rfl rfl (by decide +kernel) ⟨Nat.le_of_ble_eq_true rfl, Nat.le_of_ble_eq_true rfl⟩) ⟨fun a U g mk q => q, fun U hU hW9 => ⟨rfl, trivial⟩⟩ rfl rfl hl.1 rfl (lv_room (Nat.le_of_ble_eq_true rfl)) dL_act_368 ⟨(by show _ ≤ (6 : Nat); omega), (by show _ ≤ (161 : Nat); omega)⟩) ?_
            refine tc_iast2 (j := 3) (by decide) hx hb hK et_q266 hS ho_q266 2 rfl ⟨by decide, by decide⟩ dL_act_371 (fun H locs e1 z1 o1 hS => ?_)
            have hW := hW.tmp hx_q266 o1
            have et_q266 := e1
            obtain ⟨u278, eu278⟩ : ∃ z9 : Nat → Int32, z9 = upd u275 3 r276 := ⟨_, rfl⟩
            have hF := tc_lt hF eu278
            rw [← eu278] at et_q266
            refine lv_dup hx hb dL_act_372 rfl ?_
            refine lv_iconst (v := 4) hx hb dL_act_373 (by decide) ?_
            refine lv_iconst (v := 0) hx hb dL_act_374 (by decide) ?_
            refine tc_iast2 (j := 4) (by decide) hx hb hK et_q266 hS ho_q266 2 rfl ⟨by decide, by decide⟩ dL_act_375 (fun H locs e1 z1 o1 hS => ?_)
            have hW := hW.tmp hx_q266 o1
            have et_q266 := e1
            obtain ⟨u279, eu279⟩ : ∃ z9 : Nat → Int32, z9 = upd u278 4 0 := ⟨_, rfl⟩
            have hF := tc_lt hF eu279
            rw [← eu279] at et_q266
            refine lv_dup hx hb dL_act_376 rfl ?_
            refine lv_iconst (v := 5) hx hb dL_act_377 (by decide) ?_
            refine lv_iload hx hb dL_act_378 (lv_at hl 0 rfl) ?_
            refine tc_iast2 (j := 5) (by decide) hx hb hK et_q266 hS ho_q266 2 rfl ⟨by decide, by decide⟩ dL_act_380 (fun H locs e1 z1 o1 hS => ?_)
            have hW := hW.tmp hx_q266 o1
            have et_q266 := e1
            obtain ⟨u280, eu280⟩ : ∃ z9 : Nat → Int32, z9 = upd u279 5 w11 := ⟨_, rfl⟩
            have hF := tc_lt hF eu280
            rw [← eu280] at et_q266
            refine lv_dup hx hb dL_act_381 rfl ?_
            refine lv_bipush (v := 6) hx hb dL_act_382 (by decide) ?_
            refine lv_bipush (v := 10) hx hb dL_act_384 (by decide) ?_
            refine tc_iast2 (j := 6) (by decide) hx hb hK et_q266 hS ho_q266 2 rfl ⟨by decide, by decide⟩ dL_act_386 (fun H locs e1 z1 o1 hS => ?_)
            have hW := hW.tmp hx_q266 o1
            have et_q266 := e1
            obtain ⟨u281, eu281⟩ : ∃ z9 : Nat → Int32, z9 = upd u280 6 10 := ⟨_, rfl⟩
            have hF := tc_lt hF eu281
            rw [← eu281] at et_q266
            refine lv_dup hx hb dL_act_387 rfl ?_
            refine lv_bipush (v := 7) hx hb dL_act_388 (by decide) ?_
            refine lv_iconst (v := (-1)) hx hb dL_act_390 (by decide) ?_
            refine tc_iast2 (j := 7) (by decide) hx hb hK et_q266 hS ho_q266 2 rfl ⟨by decide, by decide⟩ dL_act_391 (fun H locs e1 z1 o1 hS => ?_)
            have hW := hW.tmp hx_q266 o1
            have et_q266 := e1
            obtain ⟨u282, eu282⟩ : ∃ z9 : Nat → Int32, z9 = upd u281 7 (-1) := ⟨_, rfl⟩
            have hF := tc_lt hF eu282
            rw [← eu282] at et_q266
            refine lv_astore (lv' := [(7, .ref q266), (5, .int w11), (4, va_rf (tc_af F18 o16)), (3, .int w1), (2, .int a3), (1, .ref (F18 0)), (0, .ref (E17 0))]) hx hb dL_act_392 hl (by decide) (by cases o16 <;> rfl) (fun ls hl => ?_)
            refine lv_aload_n hx hb dL_act_394 rfl (lv_at hl 6 rfl) ?_
            refine lv_iload hx hb dL_act_395 (lv_at hl 1 rfl) ?_
            refine lv_aload hx hb dL_act_397 (lv_at hl 0 rfl) ?_
            refine lv_iconst (v := 1) hx hb dL_act_399 (by decide) ?_
            refine tc_iald2 (j := 1) (by decide) hx hb hK et_q266 2 rfl ⟨by decide, by decide⟩ dL_act_400 ?_
            refine lv_aload hx hb dL_act_401 (lv_at hl 0 rfl) ?_
            refine lv_iconst (v := 2) hx hb dL_act_403 (by decide) ?_
            refine tc_iald2 (j := 2) (by decide) hx hb hK et_q266 2 rfl ⟨by decide, by decide⟩ dL_act_404 ?_
            refine lv_aload hx hb dL_act_405 (lv_at hl 0 rfl) ?_
            refine lv_iconst (v := 3) hx hb dL_act_407 (by decide) ?_
            refine tc_iald2 (j := 3) (by decide) hx hb hK et_q266 2 rfl ⟨by decide, by decide⟩ dL_act_408 ?_
            obtain ⟨kc291, ekc291, hF⟩ := tc_jx hF
            have Jkc291 : ∀ (w287 : Int32) (x288 : tc_X) (E289 F290 : Nat → Nat) (H : Heap) (locs : List Loc) (ls : Array Slot), kc291 w287 x288 = some (r, x', z') → lv_has ls 13 [(7, .ref q266), (6, .int w287), (1, .ref (F290 0))] → tc_WL D cU cO cI cII cZ e0 A268 E289 F290 x288 z H → E289 0 = E 0 ∧ F290 0 = F 0 → va_at D vwCl (q266, .inl (cI, 8, .inl u282)) H → va_S A s.heap H locs → W p l e ({ frames := 8, cells := 6, slots := 161, locals := 181 } : Room) s m (([.ref (E 0), .ref (F 0), .int a3] : List Value).toArray) below meth c H locs (5) (88) QQ (F0 m 422 ls []) := by
              intro w287 x288 E289 F290 H locs ls hF hl hW hEF et_q266 hS
              rw [ekc291] at hF
              dsimp only at hF
              refine lv_aload_n hx hb dL_act_422 rfl (lv_at hl 2 rfl) ?_
              refine tc_get (v := .ref (F290 3)) hx hb hts hinX3 hown hK (hW.2.1.o) (C := RX3) (T := TX3) (N := 6) rfl 4 (by decide) (hts (.fieldLink RL 9 "TreadCranesLaw$Sim" "cranes" "[[I") (List.mem_of_getElem? (i := 2) rfl)) (fun _ h9 => h9) rfl dL_act_423 ?_
              refine tc_alen (v := nI (tc_zn z)) hx hb hKS hW.2.1.c 0 rfl rfl dL_act_426 ?_
              refine lv_topi (fun v292 ev292 => ?_)
              have hF := tc_lt hF ev292
              refine lv_istore (lv' := [(8, .int v292), (7, .ref q266), (6, .int w287), (1, .ref (F290 0))]) hx hb dL_act_427 hl (by decide) rfl (fun ls hl => ?_)
              refine lv_iload hx hb dL_act_429 (lv_at hl 2 rfl) ?_
              refine lv_iload hx hb dL_act_431 (lv_at hl 0 rfl) ?_
              refine lv_iconst (v := 5) hx hb dL_act_433 (by decide) ?_
              obtain ⟨kc296, ekc296, hF⟩ := tc_jx hF
              have Jkc296 : ∀ (w293 : Int32) (E294 F295 : Nat → Nat) (H : Heap) (locs : List Loc) (ls : Array Slot), kc296 w293 = some (r, x', z') → lv_has ls 13 [(8, .int v292), (7, .ref q266), (6, .int w287), (1, .ref (F295 0))] → tc_WL D cU cO cI cII cZ e0 A268 E294 F295 x288 z H → E294 0 = E 0 ∧ F295 0 = F 0 → va_at D vwCl (q266, .inl (cI, 8, .inl u282)) H → va_S A s.heap H locs → W p l e ({ frames := 8, cells := 6, slots := 161, locals := 181 } : Room) s m (([.ref (E 0), .ref (F 0), .int a3] : List Value).toArray) below meth c H locs (5) (88) QQ (F0 m 443 ls [.int w293, .int w287]) := by
                intro w293 E294 F295 H locs ls hF hl hW hEF et_q266 hS
                rw [ekc296] at hF
                dsimp only at hF
                refine lv_icmp_eq (tgt := 448) hx hb dL_act_443 (by decide) (fun c297 => ?_) (fun c297 => ?_)
                · have hF := tc_it hF c297
                  refine lv_iload hx hb dL_act_448 (lv_at hl 2 rfl) ?_
                  refine lv_if_ge (tgt := 455) hx hb dL_act_450 (by decide) (fun c298 => ?_) (fun c298 => ?_)
                  · have hF := tc_it hF c298
                    obtain ⟨g299, hF⟩ := tc_ob hF
                    have hqc9 : ∀ j, tc_lv x288 j → E294 j ≠ q266 := fun j hj h8 => hx_q266 (by rw [← h8]; exact (hW.1.own hj).1)
                    have hqf9 : ∀ i, tc_sl z i → F295 i ≠ q266 := fun i hi h8 => hx_q266 (by rw [← h8]; exact hW.2.1.own hi)
                    have hW := hW.up hA268A heA
                    refine tc_addcrane hx hb hown hts hK hKF hW hS hA0 ho_q266 hqc9 hqf9 et_q266 g299.1 (by rw [← g299.2]; exact lv_sub hl [0, 1, 3] rfl) (by show _ ≤ (6 : Nat); omega) (by show _ ≤ (161 : Nat); omega) (fun H locs ls g9 hW1 hS hl => ?_)
                    obtain ⟨z300, ez300⟩ : ∃ z9 : tc_Z, z9 = tc_zC z u282 := ⟨_, rfl⟩
                    have hF := tc_lt hF ez300
                    obtain ⟨F301, eF301⟩ : ∃ F9 : Nat → Nat, F9 = va_up (va_up F295 3 g9) (21 + tc_zn z) q266 := ⟨_, rfl⟩
                    rw [← ez300, ← eF301] at hW1
                    have hW := hW1
                    have hEF := And.intro hEF.1 ((show F301 0 = F295 0 from by rw [eF301, va_up_ne _ _ (by omega), va_up_ne _ _ (by omega)]).trans hEF.2)
                    have hl : lv_has ls 13 [] := lv_sub hl [] rfl
                    refine lv_iconst (v := 1) hx hb dL_act_505 (by decide) ?_
                    obtain ⟨h91, h92, h93⟩ := tc_pr3 (Option.some.inj hF)
                    rw [eQQ]
                    refine W.widen (k := 6) (n := 161) (by omega) (by omega) ?_
                    exact W.zret hx hb hr rfl (fun t ht hW9 => ⟨⟨by rw [← h91], by rw [← h92, ← h93, ht]; exact ⟨E294, F301, hEF.1, hEF.2, hW⟩⟩, tc_F hS ht⟩) hS.2.2 dL_act_506
                  · have hF := tc_if hF c298
                    refine lv_iconst (v := 1) hx hb dL_act_453 (by decide) ?_
                    have hW := hW.up hA268A heA
                    obtain ⟨h91, h92, h93⟩ := tc_pr3 (Option.some.inj hF)
                    rw [eQQ]
                    refine W.widen (k := 6) (n := 161) (by omega) (by omega) ?_
                    exact W.zret hx hb hr rfl (fun t ht hW9 => ⟨⟨by rw [← h91], by rw [← h92, ← h93, ht]; exact ⟨E294, F295, hEF.1, hEF.2, hW⟩⟩, tc_F hS ht⟩) hS.2.2 dL_act_454
                · have hF := tc_if hF c297
                  refine lv_iconst (v := 0) hx hb dL_act_446 (by decide) ?_
                  have hW := hW.up hA268A heA
                  obtain ⟨h91, h92, h93⟩ := tc_pr3 (Option.some.inj hF)
                  rw [eQQ]
                  refine W.widen (k := 6) (n := 161) (by omega) (by omega) ?_
                  exact W.zret hx hb hr rfl (fun t ht hW9 => ⟨⟨by rw [← h91], by rw [← h92, ← h93, ht]; exact ⟨E294, F295, hEF.1, hEF.2, hW⟩⟩, tc_F hS ht⟩) hS.2.2 dL_act_447
              refine lv_icmp_ge (tgt := 442) hx hb dL_act_434 (by decide) (fun c302 => ?_) (fun c302 => ?_)
              · have hF := tc_it hF c302
                refine lv_iconst (v := (-1)) hx hb dL_act_442 (by decide) ?_
                exact Jkc296 (-1) E289 F290 _ _ _ hF (lv_sub hl [0, 1, 2, 3] rfl) hW hEF et_q266 hS
              · have hF := tc_if hF c302
                refine lv_iload hx hb dL_act_437 (lv_at hl 0 rfl) ?_
                refine lv_goto (tgt := 443) hx hb dL_act_439 (by decide) ?_
                exact Jkc296 v292 E289 F290 _ _ _ hF (lv_sub hl [0, 1, 2, 3] rfl) hW hEF et_q266 hS
            obtain ⟨k283, r284, x285, h286, hF⟩ := tc_bi3 hF
            refine tc_cx (vx_runV (As := [.int w11, .int (u282 1), .int (u282 2), .int (u282 3)]) (rest := []) ⟨hx, hb, hml, hown, hts⟩ (mt_X2_build l hst D cU cO cI e0 (tc_A1 A268 F18 z) E17 x w11 (u282 1) (u282 2) (u282 3) k283 r284 x285 hwf h286) (cwV 4 hts gL_act_X2_build rfl rfl rfl (by decide +kernel) ⟨Nat.le_of_ble_eq_true rfl, Nat.le_of_ble_eq_true rfl⟩) ⟨fun a U g mk q => ⟨q.1, q.2.1, q.2.2.call⟩, tc_rcv hW.1.o hK rfl, fun U hU hW9 => ⟨rfl, by rw [hU]; exact hW.1, ((hKX.go hS hU hW9).narrow (fun z9 h9 => hA268A _ (h9.1)) (by rw [hU]; exact hW.newA (fun z9 h9 => by rw [eA268]; exact ⟨hAn z9 (Nat.le_trans hS.1 h9), (fun h8 => absurd et_q266.lt (Nat.not_lt.mpr (by rw [← h8]; exact h9)))⟩)))⟩⟩ rfl rfl hl.1 rfl (lv_room (Nat.le_of_ble_eq_true rfl)) dL_act_409 ⟨(by show _ ≤ (6 : Nat); omega), (by show _ ≤ (161 : Nat); omega)⟩) hS (fun z9 _ h9 => hA268A _ (h9.1)) (fun z9 h9 => hA268A _ (h9.1)) (fun z9 _ h9 => hA268A _ (h9.1)) (fun ce q9 H locs c303 hB z1 o1 hS hce hcv hcl => ?_) (fun H locs c303 hB z1 o1 hS => ?_)
            · have hF := tc_if hF c303
              obtain ⟨g9, hF⟩ := tc_ob hF
              subst g9
              have et_q266 := et_q266.kept (o1 _ et_q266.lt (fun h9 => hx_q266 h9.1))
              have hW := hW.afterC hB o1
              refine vx_catch (own := RL) (name := "java/lang/IllegalStateException") (E := "java/lang/IllegalStateException") hown [⟨242, 252, 255, 37⟩] ⟨394, 414, 417, 37⟩ [⟨613, 622, 625, 37⟩, ⟨958, 967, 970, 37⟩, ⟨1031, 1038, 1041, 37⟩, ⟨1176, 1183, 1186, 37⟩] htab (fun z9 h9 => Or.inl ((by decide : ∀ z ∈ ([⟨242, 252, 255, 37⟩] : List ExceptionTableEntry), covers z 409 = false) z9 h9)) (by decide) (by decide) (hts (.classLink RL 37 "java/lang/IllegalStateException") (List.mem_of_getElem? (i := 1) rfl)) (va_Nw.use rfl hKX.2.2.2.2.2.2.2.2.2.1) hce hcv hcl ?_
              refine lv_astore (lv' := [(8, .ref q9), (7, .ref q266), (5, .int w11), (4, va_rf (tc_af F18 o16)), (3, .int w1), (2, .int a3), (1, .ref (F18 0)), (0, .ref (E17 0))]) hx hb dL_act_417 hl (by decide) (by cases o16 <;> rfl) (fun ls hl => ?_)
              refine lv_iconst (v := (-1)) hx hb dL_act_419 (by decide) ?_
              refine lv_istore (lv' := [(6, .int (-1)), (8, .ref q9), (7, .ref q266), (5, .int w11), (4, va_rf (tc_af F18 o16)), (3, .int w1), (2, .int a3), (1, .ref (F18 0)), (0, .ref (E17 0))]) hx hb dL_act_420 hl (by decide) (by cases o16 <;> rfl) (fun ls hl => ?_)
              exact Jkc291 (-1) x E17 F18 _ _ _ hF (lv_sub hl [2, 0, 7] rfl) hW hEF et_q266 hS
            · have hF := tc_it hF c303
              have et_q266 := et_q266.kept (o1 _ et_q266.lt (fun h9 => hx_q266 h9.1))
              obtain ⟨E304, h305, hB⟩ := hB
              have hW := hW.afterC hB o1
              have hl : lv_has ls 13 [(7, .ref q266), (5, .int w11), (4, va_rf (tc_af F18 o16)), (3, .int w1), (2, .int a3), (1, .ref (F18 0)), (0, .ref (E304 0))] := by rw [h305]; exact hl
              have hEF := And.intro (h305.trans hEF.1) hEF.2
              refine lv_istore (lv' := [(6, .int r284), (7, .ref q266), (5, .int w11), (4, va_rf (tc_af F18 o16)), (3, .int w1), (2, .int a3), (1, .ref (F18 0)), (0, .ref (E304 0))]) hx hb dL_act_412 hl (by decide) (by cases o16 <;> rfl) (fun ls hl => ?_)
              refine lv_goto (tgt := 422) hx hb dL_act_414 (by decide) ?_
              exact Jkc291 r284 x285 E304 F18 _ _ _ hF (lv_sub hl [1, 0, 6] rfl) hW hEF et_q266 hS
          have hF := tc_if hF c265
          by_cases c306 : w15 = 4
          · have hF := tc_it hF c306
            refine lv_tableIn (off := 408) (tgt := 507) hx hb dL_act_99 (by rw [c306]; decide) (by rw [c306]; decide) (by rw [c306]; decide +kernel) (by decide) ?_
            cases o16 with
            | none =>
              have hF := tc_on hF rfl
              cases hF
            | some j307 =>
              have hF := tc_os hF rfl
              have hl : lv_has ls 13 [(5, .int w11), (4, .ref (F18 j307)), (3, .int w1), (2, .int a3), (1, .ref (F18 0)), (0, .ref (E17 0))] := hl
              refine lv_aload hx hb dL_act_507 (lv_at hl 1 rfl) ?_
              refine lv_iconst (v := 3) hx hb dL_act_509 (by decide) ?_
              obtain ⟨g308, hF⟩ := tc_ob hF
              obtain ⟨g309, hF⟩ := tc_ob hF
              refine tc_iald2 (j := 3) (by decide) hx hb hK (hW.2.1.r (tc_isc.r (z := z) g308)) 2 rfl ⟨by decide, g309⟩ dL_act_510 ?_
              refine lv_topi (fun v310 ev310 => ?_)
              have hF := tc_lt hF ev310
              refine lv_istore (lv' := [(7, .int v310), (5, .int w11), (4, .ref (F18 j307)), (3, .int w1), (2, .int a3), (1, .ref (F18 0)), (0, .ref (E17 0))]) hx hb dL_act_511 hl (by decide) rfl (fun ls hl => ?_)
              refine lv_aload hx hb dL_act_513 (lv_at hl 2 rfl) ?_
              refine lv_iconst (v := 3) hx hb dL_act_515 (by decide) ?_
              refine lv_iload_n hx hb dL_act_516 rfl (lv_at hl 4 rfl) ?_
              refine lv_bipush (v := 6) hx hb dL_act_517 (by decide) ?_
              refine lv_ishr hx hb dL_act_519 ?_
              refine lv_bipush (v := 9) hx hb dL_act_520 (by decide) ?_
              obtain ⟨r311, h312, hF⟩ := tc_bi hF
              refine tc_cr (W.runS (As := [.int (a3 >>> ((6 : Int32) &&& 31)), .int 9]) (rest := [.int 3, .ref (F18 j307)]) ⟨hx, hb, hml, hown, hts⟩ (mt_L_below l (a3 >>> ((6 : Int32) &&& 31)) 9 r311 h312) (va_cwS 2 hts gL_act_L_below rfl rfl rfl (by decide +kernel) ⟨Nat.le_of_ble_eq_true rfl, Nat.le_of_ble_eq_true rfl⟩) ⟨fun a U g mk q => q, fun U hU hW9 => ⟨rfl, trivial⟩⟩ rfl rfl hl.1 rfl (lv_room (Nat.le_of_ble_eq_true rfl)) dL_act_522 ⟨(by show _ ≤ (6 : Nat); omega), (by show _ ≤ (161 : Nat); omega)⟩) ?_
              refine tc_iast2 (j := 3) (by decide) hx hb hK (hW.2.1.r (tc_isc.r (z := z) g308)) hS (hW.2.1.own (tc_isr.sl (z := z) (tc_isc.r (z := z) g308))) 2 rfl ⟨by decide, g309⟩ dL_act_525 (fun H locs e1 z1 o1 hS => ?_)
              have hW1 := hW.at1 (z' := tc_zs z j307 3 r311) (tc_isr.sl (z := z) (tc_isc.r (z := z) g308)) rfl (hW.2.1.ss (tc_isc.r (z := z) g308) e1 o1) o1
              obtain ⟨z313, ez313⟩ : ∃ z9 : tc_Z, z9 = tc_zs z j307 3 r311 := ⟨_, rfl⟩
              have hF := tc_lt hF ez313
              have hW : tc_WL D cU cO cI cII cZ e0 A E17 F18 x z313 H := by rw [ez313]; exact hW1
              have g314 : tc_isc z313 j307 := by rw [ez313]; exact g308
              refine lv_aload_n hx hb dL_act_526 rfl (lv_at hl 6 rfl) ?_
              refine lv_iload_n hx hb dL_act_527 rfl (lv_at hl 3 rfl) ?_
              refine lv_aload hx hb dL_act_528 (lv_at hl 2 rfl) ?_
              refine lv_iconst (v := 3) hx hb dL_act_530 (by decide) ?_
              obtain ⟨g315, hF⟩ := tc_ob hF
              refine tc_iald2 (j := 3) (by decide) hx hb hK (hW.2.1.r (tc_isc.r (z := z313) g314)) 2 rfl ⟨by decide, g315⟩ dL_act_531 ?_
              obtain ⟨k316, r317, x318, h319, hF⟩ := tc_bi3 hF
              obtain ⟨g320, hF⟩ := tc_ob hF
              refine tc_cx (vx_runV (As := [.int w1, .int (tc_zf z313 j307 3)]) (rest := []) ⟨hx, hb, hml, hown, hts⟩ (mt_X2_man l hst D cU cO cI e0 (tc_A1 A F18 z313) E17 x w1 (tc_zf z313 j307 3) k316 r317 x318 h319) (cwV 2 hts gL_act_X2_man rfl rfl rfl (by decide +kernel) ⟨Nat.le_of_ble_eq_true rfl, Nat.le_of_ble_eq_true rfl⟩) ⟨fun a U g mk q => ⟨q.1, q.2.1, q.2.2.call⟩, tc_rcv hW.1.o hK rfl, fun U hU hW9 => ⟨rfl, by rw [hU]; exact hW.1, ((hKX.go hS hU hW9).narrow (fun z9 h9 => h9.1) (by rw [hU]; exact hW.newA (fun z9 h9 => by exact hAn z9 (Nat.le_trans hS.1 h9))))⟩⟩ rfl rfl hl.1 rfl (lv_room (Nat.le_of_ble_eq_true rfl)) dL_act_532 ⟨(by show _ ≤ (6 : Nat); omega), (by show _ ≤ (161 : Nat); omega)⟩) hS (fun z9 _ h9 => h9.1) (fun z9 h9 => h9.1) (fun z9 _ h9 => h9.1) (fun ce q9 H locs c9 _ _ _ _ _ _ _ => absurd g320 c9) (fun H locs _ hB z1 o1 hS => ?_)
              have hW := hW.afterC hB o1
              refine lv_iload hx hb dL_act_535 (lv_at hl 0 rfl) ?_
              obtain ⟨kc324, ekc324, hF⟩ := tc_jx hF
              have Jkc324 : ∀ (w321 : Int32) (E322 F323 : Nat → Nat) (H : Heap) (locs : List Loc) (ls : Array Slot), kc324 w321 = some (r, x', z') → lv_has ls 13 [] → tc_WL D cU cO cI cII cZ e0 A E322 F323 x318 z313 H → E322 0 = E 0 ∧ F323 0 = F 0 → va_S A s.heap H locs → W p l e ({ frames := 8, cells := 6, slots := 161, locals := 181 } : Room) s m (([.ref (E 0), .ref (F 0), .int a3] : List Value).toArray) below meth c H locs (2) (12) QQ (F0 m 545 ls [.int w321]) := by
                intro w321 E322 F323 H locs ls hF hl hW hEF hS
                rw [ekc324] at hF
                dsimp only at hF
                obtain ⟨g325, hF⟩ := tc_ob hF
                obtain ⟨h91, h92, h93⟩ := tc_pr3 (Option.some.inj hF)
                rw [eQQ]
                refine W.widen (k := 6) (n := 161) (by omega) (by omega) ?_
                exact W.zret hx hb hr (tc_nz g325) (fun t ht hW9 => ⟨⟨by rw [← h91], by rw [← h92, ← h93, ht]; exact ⟨E322, F323, hEF.1, hEF.2, hW⟩⟩, tc_F hS ht⟩) hS.2.2 dL_act_545
              refine lv_icmp_ne (tgt := 544) hx hb dL_act_537 (by decide) (fun c326 => ?_) (fun c326 => ?_)
              · have hF := tc_if hF c326
                refine lv_iconst (v := 0) hx hb dL_act_544 (by decide) ?_
                exact Jkc324 0 E17 F18 _ _ _ hF (lv_sub hl [] rfl) hW hEF hS
              · have hF := tc_it hF c326
                refine lv_iconst (v := 1) hx hb dL_act_540 (by decide) ?_
                refine lv_goto (tgt := 545) hx hb dL_act_541 (by decide) ?_
                exact Jkc324 1 E17 F18 _ _ _ hF (lv_sub hl [] rfl) hW hEF hS
          have hF := tc_if hF c306
          by_cases c327 : w15 = 5
          · have hF := tc_it hF c327
            refine lv_tableIn (off := 447) (tgt := 546) hx hb dL_act_99 (by rw [c327]; decide) (by rw [c327]; decide) (by rw [c327]; decide +kernel) (by decide) ?_
            refine lv_iload_n hx hb dL_act_546 rfl (lv_at hl 3 rfl) ?_
            refine lv_bipush (v := 8) hx hb dL_act_547 (by decide) ?_
            refine lv_ishr hx hb dL_act_549 ?_
            refine lv_iconst (v := 3) hx hb dL_act_550 (by decide) ?_
            obtain ⟨r328, h329, hF⟩ := tc_bi hF
            refine tc_cr (W.runS (As := [.int (a3 >>> ((8 : Int32) &&& 31)), .int 3]) (rest := []) ⟨hx, hb, hml, hown, hts⟩ (mt_L_below l (a3 >>> ((8 : Int32) &&& 31)) 3 r328 h329) (va_cwS 2 hts gL_act_L_below rfl rfl rfl (by decide +kernel) ⟨Nat.le_of_ble_eq_true rfl, Nat.le_of_ble_eq_true rfl⟩) ⟨fun a U g mk q => q, fun U hU hW9 => ⟨rfl, trivial⟩⟩ rfl rfl hl.1 rfl (lv_room (Nat.le_of_ble_eq_true rfl)) dL_act_551 ⟨(by show _ ≤ (6 : Nat); omega), (by show _ ≤ (161 : Nat); omega)⟩) ?_
            refine lv_if_le (tgt := 559) hx hb dL_act_554 (by decide) (fun c330 => ?_) (fun c330 => ?_)
            · have hF := tc_it hF c330
              cases o16 with
              | none =>
                have hF := tc_on hF rfl
                cases hF
              | some j331 =>
                have hF := tc_os hF rfl
                have hl : lv_has ls 13 [(5, .int w11), (4, .ref (F18 j331)), (3, .int w1), (2, .int a3), (1, .ref (F18 0)), (0, .ref (E17 0))] := hl
                refine lv_aload hx hb dL_act_559 (lv_at hl 1 rfl) ?_
                refine lv_iconst (v := 4) hx hb dL_act_561 (by decide) ?_
                obtain ⟨g332, hF⟩ := tc_ob hF
                obtain ⟨g333, hF⟩ := tc_ob hF
                refine tc_iald2 (j := 4) (by decide) hx hb hK (hW.2.1.r (tc_isc.r (z := z) g332)) 2 rfl ⟨by decide, g333⟩ dL_act_562 ?_
                refine lv_topi (fun v334 ev334 => ?_)
                have hF := tc_lt hF ev334
                refine lv_istore (lv' := [(7, .int v334), (5, .int w11), (4, .ref (F18 j331)), (3, .int w1), (2, .int a3), (1, .ref (F18 0)), (0, .ref (E17 0))]) hx hb dL_act_563 hl (by decide) rfl (fun ls hl => ?_)
                refine lv_aload hx hb dL_act_565 (lv_at hl 2 rfl) ?_
                refine lv_iconst (v := 4) hx hb dL_act_567 (by decide) ?_
                refine lv_iconst (v := 0) hx hb dL_act_568 (by decide) ?_
                refine tc_iast2 (j := 4) (by decide) hx hb hK (hW.2.1.r (tc_isc.r (z := z) g332)) hS (hW.2.1.own (tc_isr.sl (z := z) (tc_isc.r (z := z) g332))) 2 rfl ⟨by decide, g333⟩ dL_act_569 (fun H locs e1 z1 o1 hS => ?_)
                have hW1 := hW.at1 (z' := tc_zs z j331 4 0) (tc_isr.sl (z := z) (tc_isc.r (z := z) g332)) rfl (hW.2.1.ss (tc_isc.r (z := z) g332) e1 o1) o1
                obtain ⟨z335, ez335⟩ : ∃ z9 : tc_Z, z9 = tc_zs z j331 4 0 := ⟨_, rfl⟩
                have hF := tc_lt hF ez335
                have hW : tc_WL D cU cO cI cII cZ e0 A E17 F18 x z335 H := by rw [ez335]; exact hW1
                have g336 : tc_isc z335 j331 := by rw [ez335]; exact g332
                refine lv_aload_n hx hb dL_act_570 rfl (lv_at hl 6 rfl) ?_
                refine lv_iload_n hx hb dL_act_571 rfl (lv_at hl 3 rfl) ?_
                obtain ⟨k337, r338, x339, h340, hF⟩ := tc_bi3 hF
                obtain ⟨g341, hF⟩ := tc_ob hF
                refine tc_cx (vx_runV (As := [.int w1]) (rest := []) ⟨hx, hb, hml, hown, hts⟩ (mt_X2_mend l hst D cU cO cI e0 (tc_A1 A F18 z335) E17 x w1 k337 r338 x339 h340) (cwV 1 hts gL_act_X2_mend rfl rfl rfl (by decide +kernel) ⟨Nat.le_of_ble_eq_true rfl, Nat.le_of_ble_eq_true rfl⟩) ⟨fun a U g mk q => ⟨q.1, q.2.1, q.2.2.call⟩, tc_rcv hW.1.o hK rfl, fun U hU hW9 => ⟨rfl, by rw [hU]; exact hW.1, ((hKX.go hS hU hW9).narrow (fun z9 h9 => h9.1) (by rw [hU]; exact hW.newA (fun z9 h9 => by exact hAn z9 (Nat.le_trans hS.1 h9))))⟩⟩ rfl rfl hl.1 rfl (lv_room (Nat.le_of_ble_eq_true rfl)) dL_act_572 ⟨(by show _ ≤ (6 : Nat); omega), (by show _ ≤ (161 : Nat); omega)⟩) hS (fun z9 _ h9 => h9.1) (fun z9 h9 => h9.1) (fun z9 _ h9 => h9.1) (fun ce q9 H locs c9 _ _ _ _ _ _ _ => absurd g341 c9) (fun H locs _ hB z1 o1 hS => ?_)
                have hW := hW.afterC hB o1
                refine lv_iload hx hb dL_act_575 (lv_at hl 0 rfl) ?_
                obtain ⟨kc345, ekc345, hF⟩ := tc_jx hF
                have Jkc345 : ∀ (w342 : Int32) (E343 F344 : Nat → Nat) (H : Heap) (locs : List Loc) (ls : Array Slot), kc345 w342 = some (r, x', z') → lv_has ls 13 [] → tc_WL D cU cO cI cII cZ e0 A E343 F344 x339 z335 H → E343 0 = E 0 ∧ F344 0 = F 0 → va_S A s.heap H locs → W p l e ({ frames := 8, cells := 6, slots := 161, locals := 181 } : Room) s m (([.ref (E 0), .ref (F 0), .int a3] : List Value).toArray) below meth c H locs (1) (6) QQ (F0 m 585 ls [.int w342]) := by
                  intro w342 E343 F344 H locs ls hF hl hW hEF hS
                  rw [ekc345] at hF
                  dsimp only at hF
                  obtain ⟨g346, hF⟩ := tc_ob hF
                  obtain ⟨h91, h92, h93⟩ := tc_pr3 (Option.some.inj hF)
                  rw [eQQ]
                  refine W.widen (k := 6) (n := 161) (by omega) (by omega) ?_
                  exact W.zret hx hb hr (tc_nz g346) (fun t ht hW9 => ⟨⟨by rw [← h91], by rw [← h92, ← h93, ht]; exact ⟨E343, F344, hEF.1, hEF.2, hW⟩⟩, tc_F hS ht⟩) hS.2.2 dL_act_585
                refine lv_icmp_ne (tgt := 584) hx hb dL_act_577 (by decide) (fun c347 => ?_) (fun c347 => ?_)
                · have hF := tc_if hF c347
                  refine lv_iconst (v := 0) hx hb dL_act_584 (by decide) ?_
                  exact Jkc345 0 E17 F18 _ _ _ hF (lv_sub hl [] rfl) hW hEF hS
                · have hF := tc_it hF c347
                  refine lv_iconst (v := 1) hx hb dL_act_580 (by decide) ?_
                  refine lv_goto (tgt := 585) hx hb dL_act_581 (by decide) ?_
                  exact Jkc345 1 E17 F18 _ _ _ hF (lv_sub hl [] rfl) hW hEF hS
            · have hF := tc_if hF c330
              refine lv_iconst (v := 1) hx hb dL_act_557 (by decide) ?_
              obtain ⟨h91, h92, h93⟩ := tc_pr3 (Option.some.inj hF)
              rw [eQQ]
              refine W.widen (k := 6) (n := 161) (by omega) (by omega) ?_
              exact W.zret hx hb hr rfl (fun t ht hW9 => ⟨⟨by rw [← h91], by rw [← h92, ← h93, ht]; exact ⟨E17, F18, hEF.1, hEF.2, hW⟩⟩, tc_F hS ht⟩) hS.2.2 dL_act_558
          have hF := tc_if hF c327
          by_cases c348 : w15 = 6
          · have hF := tc_it hF c348
            refine lv_tableIn (off := 487) (tgt := 586) hx hb dL_act_99 (by rw [c348]; decide) (by rw [c348]; decide) (by rw [c348]; decide +kernel) (by decide) ?_
            exact Jkc75  E17 F18 _ _ _ hF (lv_sub hl [0, 1, 2, 4, 5] rfl) hW hEF hS
          have hF := tc_if hF c348
          by_cases c349 : w15 = 7
          · have hF := tc_it hF c349
            refine lv_tableIn (off := 487) (tgt := 586) hx hb dL_act_99 (by rw [c349]; decide) (by rw [c349]; decide) (by rw [c349]; decide +kernel) (by decide) ?_
            exact Jkc75  E17 F18 _ _ _ hF (lv_sub hl [0, 1, 2, 4, 5] rfl) hW hEF hS
          have hF := tc_if hF c349
          by_cases c350 : w15 = 8
          · have hF := tc_it hF c350
            refine lv_tableIn (off := 566) (tgt := 665) hx hb dL_act_99 (by rw [c350]; decide) (by rw [c350]; decide) (by rw [c350]; decide +kernel) (by decide) ?_
            exact Jkc115  E17 F18 _ _ _ hF (lv_sub hl [1, 2, 3, 4, 5] rfl) hW hEF hS
          have hF := tc_if hF c350
          by_cases c351 : w15 = 9
          · have hF := tc_it hF c351
            refine lv_tableIn (off := 566) (tgt := 665) hx hb dL_act_99 (by rw [c351]; decide) (by rw [c351]; decide) (by rw [c351]; decide +kernel) (by decide) ?_
            exact Jkc115  E17 F18 _ _ _ hF (lv_sub hl [1, 2, 3, 4, 5] rfl) hW hEF hS
          have hF := tc_if hF c351
          by_cases c352 : w15 = 10
          · have hF := tc_it hF c352
            refine lv_tableIn (off := 566) (tgt := 665) hx hb dL_act_99 (by rw [c352]; decide) (by rw [c352]; decide) (by rw [c352]; decide +kernel) (by decide) ?_
            exact Jkc115  E17 F18 _ _ _ hF (lv_sub hl [1, 2, 3, 4, 5] rfl) hW hEF hS
          have hF := tc_if hF c352
          by_cases c353 : w15 = 11
          · have hF := tc_it hF c353
            refine lv_tableIn (off := 890) (tgt := 989) hx hb dL_act_99 (by rw [c353]; decide) (by rw [c353]; decide) (by rw [c353]; decide +kernel) (by decide) ?_
            exact Jkc215  E17 F18 _ _ _ hF (lv_sub hl [1, 2, 4, 5] rfl) hW hEF hS
          have hF := tc_if hF c353
          by_cases c354 : w15 = 12
          · have hF := tc_it hF c354
            refine lv_tableIn (off := 890) (tgt := 989) hx hb dL_act_99 (by rw [c354]; decide) (by rw [c354]; decide) (by rw [c354]; decide +kernel) (by decide) ?_
            exact Jkc215  E17 F18 _ _ _ hF (lv_sub hl [1, 2, 4, 5] rfl) hW hEF hS
          have hF := tc_if hF c354
          refine lv_tableOut (tgt := 1113) hx hb dL_act_99 (by have q0 := lv_neT c262 (a := 0) (by decide); have q1 := lv_neT c263 (a := 1) (by decide); have q2 := lv_neT c264 (a := 2) (by decide); have q3 := lv_neT c265 (a := 3) (by decide); have q4 := lv_neT c306 (a := 4) (by decide); have q5 := lv_neT c327 (a := 5) (by decide); have q6 := lv_neT c348 (a := 6) (by decide); have q7 := lv_neT c349 (a := 7) (by decide); have q8 := lv_neT c350 (a := 8) (by decide); have q9 := lv_neT c351 (a := 9) (by decide); have q10 := lv_neT c352 (a := 10) (by decide); have q11 := lv_neT c353 (a := 11) (by decide); have q12 := lv_neT c354 (a := 12) (by decide); omega) (by decide) ?_
          refine lv_aload_n hx hb dL_act_1113 rfl (lv_at hl 4 rfl) ?_
          refine tc_get (v := .ref (F18 1)) hx hb hts hinX3 hown hK (hW.2.1.o) (C := RX3) (T := TX3) (N := 6) rfl 2 (by decide) (hts (.fieldLink RL 25 "TreadCranesLaw$Sim" "quay" "[[I") (List.mem_of_getElem? (i := 4) rfl)) (fun _ h9 => h9) rfl dL_act_1114 ?_
          cases o16 with
          | none =>
            have hF := tc_on hF rfl
            cases hF
          | some j355 =>
            have hF := tc_os hF rfl
            have hl : lv_has ls 13 [(5, .int w11), (4, .ref (F18 j355)), (3, .int w1), (2, .int a3), (1, .ref (F18 0)), (0, .ref (E17 0))] := hl
            refine lv_aload hx hb dL_act_1117 (lv_at hl 1 rfl) ?_
            refine lv_iconst (v := 5) hx hb dL_act_1119 (by decide) ?_
            obtain ⟨g356, hF⟩ := tc_ob hF
            obtain ⟨g357, hF⟩ := tc_ob hF
            refine tc_iald2 (j := 5) (by decide) hx hb hK (hW.2.1.r (tc_isc.r (z := z) g356)) 2 rfl ⟨by decide, g357⟩ dL_act_1120 ?_
            obtain ⟨g358, hF⟩ := tc_ob hF
            refine tc_aaldA2 (q := F18 (5 + (tc_zf z j355 5).toNatClampNeg)) (j := (tc_zf z j355 5).toNatClampNeg) (rfl) hx hb hKS hW.2.1.q 0 rfl g358 dL_act_1121 rfl ?_
            refine tc_alen (v := nI (tc_zl z (5 + (tc_zf z j355 5).toNatClampNeg))) hx hb hK (hW.2.1.r (tc_isrQ (show ¬ (tc_zf z j355 5) < 0 ∧ (tc_zf z j355 5).toNatClampNeg < 16 from g358).2)) 2 rfl rfl dL_act_1122 ?_
            refine lv_topi (fun v359 ev359 => ?_)
            have hF := tc_lt hF ev359
            refine lv_istore (lv' := [(7, .int v359), (5, .int w11), (4, .ref (F18 j355)), (3, .int w1), (2, .int a3), (1, .ref (F18 0)), (0, .ref (E17 0))]) hx hb dL_act_1123 hl (by decide) rfl (fun ls hl => ?_)
            refine lv_aload hx hb dL_act_1125 (lv_at hl 2 rfl) ?_
            refine lv_bipush (v := 7) hx hb dL_act_1127 (by decide) ?_
            obtain ⟨g360, hF⟩ := tc_ob hF
            refine tc_iald2 (j := 7) (by decide) hx hb hK (hW.2.1.r (tc_isc.r (z := z) g356)) 2 rfl ⟨by decide, g360⟩ dL_act_1129 ?_
            obtain ⟨kc364, ekc364, hF⟩ := tc_jx hF
            have Jkc364 : ∀ (w361 : Int32) (E362 F363 : Nat → Nat) (H : Heap) (locs : List Loc) (ls : Array Slot), kc364 w361 = some (r, x', z') → lv_has ls 13 [(7, .int v359), (4, .ref (F363 j355)), (3, .int w1), (1, .ref (F363 0)), (0, .ref (E362 0))] → tc_WL D cU cO cI cII cZ e0 A E362 F363 x z H → E362 0 = E 0 ∧ F363 0 = F 0 → va_S A s.heap H locs → W p l e ({ frames := 8, cells := 6, slots := 161, locals := 181 } : Room) s m (([.ref (E 0), .ref (F 0), .int a3] : List Value).toArray) below meth c H locs (0) (0) QQ (F0 m 1174 ls [.int w361]) := by
              intro w361 E362 F363 H locs ls hF hl hW hEF hS
              rw [ekc364] at hF
              dsimp only at hF
              refine lv_istore (lv' := [(8, .int w361), (7, .int v359), (4, .ref (F363 j355)), (3, .int w1), (1, .ref (F363 0)), (0, .ref (E362 0))]) hx hb dL_act_1174 hl (by decide) rfl (fun ls hl => ?_)
              refine lv_aload_n hx hb dL_act_1176 rfl (lv_at hl 5 rfl) ?_
              refine lv_iload_n hx hb dL_act_1177 rfl (lv_at hl 3 rfl) ?_
              obtain ⟨kc373, ekc373, hF⟩ := tc_jx hF
              have Jkc373 : ∀ (w369 : Int32) (x370 : tc_X) (E371 F372 : Nat → Nat) (H : Heap) (locs : List Loc) (ls : Array Slot), kc373 w369 x370 = some (r, x', z') → lv_has ls 13 [(8, .int w361), (7, .int v359), (6, .int w369), (4, .ref (F372 j355)), (1, .ref (F372 0))] → tc_WL D cU cO cI cII cZ e0 A E371 F372 x370 z H → E371 0 = E 0 ∧ F372 0 = F 0 → va_S A s.heap H locs → W p l e ({ frames := 8, cells := 6, slots := 161, locals := 181 } : Room) s m (([.ref (E 0), .ref (F 0), .int a3] : List Value).toArray) below meth c H locs (2) (12) QQ (F0 m 1191 ls []) := by
                intro w369 x370 E371 F372 H locs ls hF hl hW hEF hS
                rw [ekc373] at hF
                dsimp only at hF
                refine lv_iload hx hb dL_act_1191 (lv_at hl 2 rfl) ?_
                refine lv_iload hx hb dL_act_1193 (lv_at hl 0 rfl) ?_
                obtain ⟨kc377, ekc377, hF⟩ := tc_jx hF
                have Jkc377 : ∀ (w374 : Int32) (E375 F376 : Nat → Nat) (H : Heap) (locs : List Loc) (ls : Array Slot), kc377 w374 = some (r, x', z') → lv_has ls 13 [(8, .int w361), (4, .ref (F376 j355)), (1, .ref (F376 0))] → tc_WL D cU cO cI cII cZ e0 A E375 F376 x370 z H → E375 0 = E 0 ∧ F376 0 = F 0 → va_S A s.heap H locs → W p l e ({ frames := 8, cells := 6, slots := 161, locals := 181 } : Room) s m (([.ref (E 0), .ref (F 0), .int a3] : List Value).toArray) below meth c H locs (2) (12) QQ (F0 m 1206 ls [.int w374, .int w369]) := by
                  intro w374 E375 F376 H locs ls hF hl hW hEF hS
                  rw [ekc377] at hF
                  dsimp only at hF
                  refine lv_icmp_eq (tgt := 1211) hx hb dL_act_1206 (by decide) (fun c378 => ?_) (fun c378 => ?_)
                  · have hF := tc_it hF c378
                    refine lv_iload hx hb dL_act_1211 (lv_at hl 0 rfl) ?_
                    refine lv_if_ne (tgt := 1218) hx hb dL_act_1213 (by decide) (fun c379 => ?_) (fun c379 => ?_)
                    · have hF := tc_if hF c379
                      refine lv_aload_n hx hb dL_act_1218 rfl (lv_at hl 2 rfl) ?_
                      refine tc_get (v := .ref (F376 1)) hx hb hts hinX3 hown hK (hW.2.1.o) (C := RX3) (T := TX3) (N := 6) rfl 2 (by decide) (hts (.fieldLink RL 25 "TreadCranesLaw$Sim" "quay" "[[I") (List.mem_of_getElem? (i := 4) rfl)) (fun _ h9 => h9) rfl dL_act_1219 ?_
                      refine lv_aload hx hb dL_act_1222 (lv_at hl 1 rfl) ?_
                      refine lv_iconst (v := 5) hx hb dL_act_1224 (by decide) ?_
                      refine tc_iald2 (j := 5) (by decide) hx hb hK (hW.2.1.r (tc_isc.r (z := z) g356)) 2 rfl ⟨by decide, g357⟩ dL_act_1225 ?_
                      refine lv_aload_n hx hb dL_act_1226 rfl (lv_at hl 2 rfl) ?_
                      refine tc_get (v := .ref (F376 1)) hx hb hts hinX3 hown hK (hW.2.1.o) (C := RX3) (T := TX3) (N := 6) rfl 2 (by decide) (hts (.fieldLink RL 25 "TreadCranesLaw$Sim" "quay" "[[I") (List.mem_of_getElem? (i := 4) rfl)) (fun _ h9 => h9) rfl dL_act_1227 ?_
                      refine lv_aload hx hb dL_act_1230 (lv_at hl 1 rfl) ?_
                      refine lv_iconst (v := 5) hx hb dL_act_1232 (by decide) ?_
                      refine tc_iald2 (j := 5) (by decide) hx hb hK (hW.2.1.r (tc_isc.r (z := z) g356)) 2 rfl ⟨by decide, g357⟩ dL_act_1233 ?_
                      refine tc_aaldA2 (q := F376 (5 + (tc_zf z j355 5).toNatClampNeg)) (j := (tc_zf z j355 5).toNatClampNeg) (rfl) hx hb hKS hW.2.1.q 0 rfl g358 dL_act_1234 rfl ?_
                      refine lv_aload hx hb dL_act_1235 (lv_at hl 1 rfl) ?_
                      refine lv_bipush (v := 7) hx hb dL_act_1237 (by decide) ?_
                      refine tc_iald2 (j := 7) (by decide) hx hb hK (hW.2.1.r (tc_isc.r (z := z) g356)) 2 rfl ⟨by decide, g360⟩ dL_act_1239 ?_
                      obtain ⟨g380, hF⟩ := tc_ob hF
                      refine tc_cn (va_runS (As := [.ref (F376 (5 + (tc_zf z j355 5).toNatClampNeg)), .int (tc_zf z j355 7)]) (rest := [.int (tc_zf z j355 5), .ref (F376 1)]) ⟨hx, hb, hml, hown, hts⟩ (mt_X3_with l D cU cO cI A (F376 (5 + (tc_zf z j355 5).toNatClampNeg)) (tc_zl z (5 + (tc_zf z j355 5).toNatClampNeg)) (tc_zf z (5 + (tc_zf z j355 5).toNatClampNeg)) (tc_zf z j355 7) g380) (va_cwS 2 hts gL_act_X3_with rfl rfl rfl (by decide +kernel) ⟨Nat.le_of_ble_eq_true rfl, Nat.le_of_ble_eq_true rfl⟩) ⟨fun a U g mk q => ⟨q.1, q.2.1, va_K.moved (Vm.Alike.refl U.vm) q.2.2.1, q.2.2.2⟩, fun U hU hW9 => ⟨rfl, by rw [hU]; exact (hW.2.1.r (tc_isrQ (show ¬ (tc_zf z j355 5) < 0 ∧ (tc_zf z j355 5).toNatClampNeg < 16 from g358).2)), va_K.moved hW9.alike hK, by rw [hU]; exact (fun z9 h9 => by exact hAn z9 (Nat.le_trans hS.1 h9))⟩⟩ rfl rfl hl.1 rfl (lv_room (Nat.le_of_ble_eq_true rfl)) dL_act_1240 ⟨(by show _ ≤ (6 : Nat); omega), (by show _ ≤ (161 : Nat); omega)⟩) hS (fun z9 h9 => h9.elim (fun h9 => h9) (fun h8 => by rw [h8]; exact (hW.2.1.own (tc_isr.sl (z := z) (tc_isrQ (show ¬ (tc_zf z j355 5) < 0 ∧ (tc_zf z j355 5).toNatClampNeg < 16 from g358).2))))) (fun q381 H locs hq_q381 et_q381 o1 hS => ?_)
                      have hr_q381 := hq_q381.2
                      have hq_q381 := hq_q381.1
                      obtain ⟨u382, eu382⟩ : ∃ z9 : Nat → Int32, z9 = tc_wf2 (tc_zl z (5 + (tc_zf z j355 5).toNatClampNeg)) (tc_zf z (5 + (tc_zf z j355 5).toNatClampNeg)) (tc_zf z j355 7) := ⟨_, rfl⟩
                      have hF := tc_lt hF eu382
                      rw [← eu382] at et_q381
                      have hnc_q381 := hW.neE hq_q381
                      have hnf_q381 := hW.neF hq_q381
                      have hW := hW.grown o1
                      refine tc_aastA2 (j := (tc_zf z j355 5).toNatClampNeg) (rfl) hx hb hK 2 rfl hKF hW.2.1.q hS (hW.2.1.own (tc_slf (by decide))) et_q381 g358 dL_act_1243 (fun H locs e1 z1 o1 hS => ?_)
                      have et_q381 := et_q381.kept (o1 _ (fun h9 => hnf_q381 1 (tc_slf (by decide)) h9.symm))
                      have hW1 := hW.sQ (show ¬ (tc_zf z j355 5) < 0 ∧ (tc_zf z j355 5).toNatClampNeg < 16 from g358).2 hr_q381 hnc_q381 hnf_q381 e1 o1 et_q381
                      obtain ⟨z383, ez383⟩ : ∃ z9 : tc_Z, z9 = tc_zR z (5 + (tc_zf z j355 5).toNatClampNeg) ((tc_zl z (5 + (tc_zf z j355 5).toNatClampNeg)) + 1) u382 := ⟨_, rfl⟩
                      have hF := tc_lt hF ez383
                      obtain ⟨F384, eF384⟩ : ∃ z9 : Nat → Nat, z9 = va_up F376 (5 + (tc_zf z j355 5).toNatClampNeg) q381 := ⟨_, rfl⟩
                      have hW : tc_WL D cU cO cI cII cZ e0 A E375 F384 x370 z383 H := by rw [ez383, eF384]; exact hW1
                      have g385 : tc_isc z383 j355 := by rw [ez383]; exact g356
                      have h386 : F384 0 = F376 0 := by rw [eF384]; exact va_up_ne _ _ (by omega)
                      have h387 : F384 j355 = F376 j355 := by rw [eF384]; exact va_up_ne _ _ (by have h9 := g385; omega)
                      have hEF := And.intro hEF.1 (h386.trans hEF.2)
                      have hl : lv_has ls 13 [(8, .int w361), (4, .ref (F384 j355)), (1, .ref (F384 0))] := by simp only [h386, h387]; exact hl
                      refine lv_aload hx hb dL_act_1244 (lv_at hl 1 rfl) ?_
                      refine lv_bipush (v := 7) hx hb dL_act_1246 (by decide) ?_
                      refine lv_iconst (v := (-1)) hx hb dL_act_1248 (by decide) ?_
                      obtain ⟨g388, hF⟩ := tc_ob hF
                      refine tc_iast2 (j := 7) (by decide) hx hb hK (hW.2.1.r (tc_isc.r (z := z383) g385)) hS (hW.2.1.own (tc_isr.sl (z := z383) (tc_isc.r (z := z383) g385))) 2 rfl ⟨by decide, g388⟩ dL_act_1249 (fun H locs e1 z1 o1 hS => ?_)
                      have hW1 := hW.at1 (z' := tc_zs z383 j355 7 (-1)) (tc_isr.sl (z := z383) (tc_isc.r (z := z383) g385)) rfl (hW.2.1.ss (tc_isc.r (z := z383) g385) e1 o1) o1
                      obtain ⟨z389, ez389⟩ : ∃ z9 : tc_Z, z9 = tc_zs z383 j355 7 (-1) := ⟨_, rfl⟩
                      have hF := tc_lt hF ez389
                      have hW : tc_WL D cU cO cI cII cZ e0 A E375 F384 x370 z389 H := by rw [ez389]; exact hW1
                      have g390 : tc_isc z389 j355 := by rw [ez389]; exact g385
                      refine lv_iconst (v := 1) hx hb dL_act_1250 (by decide) ?_
                      obtain ⟨h91, h92, h93⟩ := tc_pr3 (Option.some.inj hF)
                      rw [eQQ]
                      refine W.widen (k := 6) (n := 161) (by omega) (by omega) ?_
                      exact W.zret hx hb hr rfl (fun t ht hW9 => ⟨⟨by rw [← h91], by rw [← h92, ← h93, ht]; exact ⟨E375, F384, hEF.1, hEF.2, hW⟩⟩, tc_F hS ht⟩) hS.2.2 dL_act_1251
                    · have hF := tc_it hF c379
                      refine lv_iconst (v := 1) hx hb dL_act_1216 (by decide) ?_
                      obtain ⟨h91, h92, h93⟩ := tc_pr3 (Option.some.inj hF)
                      rw [eQQ]
                      refine W.widen (k := 6) (n := 161) (by omega) (by omega) ?_
                      exact W.zret hx hb hr rfl (fun t ht hW9 => ⟨⟨by rw [← h91], by rw [← h92, ← h93, ht]; exact ⟨E375, F376, hEF.1, hEF.2, hW⟩⟩, tc_F hS ht⟩) hS.2.2 dL_act_1217
                  · have hF := tc_if hF c378
                    refine lv_iconst (v := 0) hx hb dL_act_1209 (by decide) ?_
                    obtain ⟨h91, h92, h93⟩ := tc_pr3 (Option.some.inj hF)
                    rw [eQQ]
                    refine W.widen (k := 6) (n := 161) (by omega) (by omega) ?_
                    exact W.zret hx hb hr rfl (fun t ht hW9 => ⟨⟨by rw [← h91], by rw [← h92, ← h93, ht]; exact ⟨E375, F376, hEF.1, hEF.2, hW⟩⟩, tc_F hS ht⟩) hS.2.2 dL_act_1210
                refine lv_if_eq (tgt := 1205) hx hb dL_act_1195 (by decide) (fun c391 => ?_) (fun c391 => ?_)
                · have hF := tc_it hF c391
                  refine lv_iconst (v := (-1)) hx hb dL_act_1205 (by decide) ?_
                  exact Jkc377 (-1) E371 F372 _ _ _ hF (lv_sub hl [0, 3, 4] rfl) hW hEF hS
                · have hF := tc_if hF c391
                  refine lv_iload hx hb dL_act_1198 (lv_at hl 1 rfl) ?_
                  refine lv_iconst (v := 1) hx hb dL_act_1200 (by decide) ?_
                  refine lv_iadd hx hb dL_act_1201 ?_
                  refine lv_goto (tgt := 1206) hx hb dL_act_1202 (by decide) ?_
                  exact Jkc377 (v359 + (1 : Int32)) E371 F372 _ _ _ hF (lv_sub hl [0, 3, 4] rfl) hW hEF hS
              obtain ⟨k365, r366, x367, h368, hF⟩ := tc_bi3 hF
              refine tc_cx (vx_runV (As := [.int w1]) (rest := []) ⟨hx, hb, hml, hown, hts⟩ (mt_X2_lay l hst D cU cO cI e0 (tc_A1 A F363 z) E362 x w1 k365 r366 x367 h368) (cwV 1 hts gL_act_X2_lay rfl rfl rfl (by decide +kernel) ⟨Nat.le_of_ble_eq_true rfl, Nat.le_of_ble_eq_true rfl⟩) ⟨fun a U g mk q => ⟨q.1, q.2.1, q.2.2.call⟩, tc_rcv hW.1.o hK rfl, fun U hU hW9 => ⟨rfl, by rw [hU]; exact hW.1, ((hKX.go hS hU hW9).narrow (fun z9 h9 => h9.1) (by rw [hU]; exact hW.newA (fun z9 h9 => by exact hAn z9 (Nat.le_trans hS.1 h9))))⟩⟩ rfl rfl hl.1 rfl (lv_room (Nat.le_of_ble_eq_true rfl)) dL_act_1178 ⟨(by show _ ≤ (6 : Nat); omega), (by show _ ≤ (161 : Nat); omega)⟩) hS (fun z9 _ h9 => h9.1) (fun z9 h9 => h9.1) (fun z9 _ h9 => h9.1) (fun ce q9 H locs c392 hB z1 o1 hS hce hcv hcl => ?_) (fun H locs c392 hB z1 o1 hS => ?_)
              · have hF := tc_if hF c392
                obtain ⟨g9, hF⟩ := tc_ob hF
                subst g9
                have hW := hW.afterC hB o1
                refine vx_catch (own := RL) (name := "java/lang/IllegalStateException") (E := "java/lang/IllegalStateException") hown [⟨242, 252, 255, 37⟩, ⟨394, 414, 417, 37⟩, ⟨613, 622, 625, 37⟩, ⟨958, 967, 970, 37⟩, ⟨1031, 1038, 1041, 37⟩] ⟨1176, 1183, 1186, 37⟩ [] htab (fun z9 h9 => Or.inl ((by decide : ∀ z ∈ ([⟨242, 252, 255, 37⟩, ⟨394, 414, 417, 37⟩, ⟨613, 622, 625, 37⟩, ⟨958, 967, 970, 37⟩, ⟨1031, 1038, 1041, 37⟩] : List ExceptionTableEntry), covers z 1178 = false) z9 h9)) (by decide) (by decide) (hts (.classLink RL 37 "java/lang/IllegalStateException") (List.mem_of_getElem? (i := 1) rfl)) (va_Nw.use rfl hKX.2.2.2.2.2.2.2.2.2.1) hce hcv hcl ?_
                refine lv_astore (lv' := [(9, .ref q9), (8, .int w361), (7, .int v359), (4, .ref (F363 j355)), (3, .int w1), (1, .ref (F363 0)), (0, .ref (E362 0))]) hx hb dL_act_1186 hl (by decide) rfl (fun ls hl => ?_)
                refine lv_iconst (v := (-1)) hx hb dL_act_1188 (by decide) ?_
                refine lv_istore (lv' := [(6, .int (-1)), (9, .ref q9), (8, .int w361), (7, .int v359), (4, .ref (F363 j355)), (3, .int w1), (1, .ref (F363 0)), (0, .ref (E362 0))]) hx hb dL_act_1189 hl (by decide) rfl (fun ls hl => ?_)
                exact Jkc373 (-1) x E362 F363 _ _ _ hF (lv_sub hl [2, 3, 0, 4, 6] rfl) hW hEF hS
              · have hF := tc_it hF c392
                have hW := hW.afterC hB o1
                refine lv_istore (lv' := [(6, .int r366), (8, .int w361), (7, .int v359), (4, .ref (F363 j355)), (3, .int w1), (1, .ref (F363 0)), (0, .ref (E362 0))]) hx hb dL_act_1181 hl (by decide) rfl (fun ls hl => ?_)
                refine lv_goto (tgt := 1191) hx hb dL_act_1183 (by decide) ?_
                exact Jkc373 r366 x367 E362 F363 _ _ _ hF (lv_sub hl [1, 2, 0, 3, 5] rfl) hW hEF hS
            refine lv_if_lt (tgt := 1173) hx hb dL_act_1130 (by decide) (fun c393 => ?_) (fun c393 => ?_)
            · have hF := tc_it hF c393
              refine lv_iconst (v := 0) hx hb dL_act_1173 (by decide) ?_
              exact Jkc364 0 E17 F18 _ _ _ hF (lv_sub hl [0, 2, 3, 5, 6] rfl) hW hEF hS
            · have hF := tc_if hF c393
              refine lv_aload hx hb dL_act_1133 (lv_at hl 2 rfl) ?_
              refine lv_bipush (v := 6) hx hb dL_act_1135 (by decide) ?_
              obtain ⟨g394, hF⟩ := tc_ob hF
              refine tc_iald2 (j := 6) (by decide) hx hb hK (hW.2.1.r (tc_isc.r (z := z) g356)) 2 rfl ⟨by decide, g394⟩ dL_act_1137 ?_
              refine lv_iload hx hb dL_act_1138 (lv_at hl 0 rfl) ?_
              refine lv_iconst (v := 1) hx hb dL_act_1140 (by decide) ?_
              refine lv_iadd hx hb dL_act_1141 ?_
              refine lv_icmp_ne (tgt := 1173) hx hb dL_act_1142 (by decide) (fun c395 => ?_) (fun c395 => ?_)
              · have hF := tc_if hF c395
                refine lv_iconst (v := 0) hx hb dL_act_1173 (by decide) ?_
                exact Jkc364 0 E17 F18 _ _ _ hF (lv_sub hl [0, 2, 3, 5, 6] rfl) hW hEF hS
              · have hF := tc_it hF c395
                refine lv_iload hx hb dL_act_1145 (lv_at hl 0 rfl) ?_
                refine lv_bipush (v := 8) hx hb dL_act_1147 (by decide) ?_
                refine lv_icmp_ge (tgt := 1173) hx hb dL_act_1149 (by decide) (fun c396 => ?_) (fun c396 => ?_)
                · have hF := tc_it hF c396
                  refine lv_iconst (v := 0) hx hb dL_act_1173 (by decide) ?_
                  exact Jkc364 0 E17 F18 _ _ _ hF (lv_sub hl [0, 2, 3, 5, 6] rfl) hW hEF hS
                · have hF := tc_if hF c396
                  refine lv_aload_n hx hb dL_act_1152 rfl (lv_at hl 5 rfl) ?_
                  refine lv_aload hx hb dL_act_1153 (lv_at hl 2 rfl) ?_
                  refine lv_iconst (v := 5) hx hb dL_act_1155 (by decide) ?_
                  refine tc_iald2 (j := 5) (by decide) hx hb hK (hW.2.1.r (tc_isc.r (z := z) g356)) 2 rfl ⟨by decide, g357⟩ dL_act_1156 ?_
                  refine lv_iload hx hb dL_act_1157 (lv_at hl 0 rfl) ?_
                  refine lv_iconst (v := 1) hx hb dL_act_1159 (by decide) ?_
                  refine lv_iadd hx hb dL_act_1160 ?_
                  refine lv_aload hx hb dL_act_1161 (lv_at hl 2 rfl) ?_
                  obtain ⟨r397, h398, hF⟩ := tc_bi hF
                  refine tc_cr (W.runV (As := [.int (tc_zf z j355 5), .int (v359 + (1 : Int32)), .ref (F18 j355)]) (rest := []) ⟨hx, hb, hml, hown, hts⟩ (mt_X3_areFine l D cU cO cI cII cZ A F18 z (tc_zf z j355 5) (v359 + (1 : Int32)) (some j355) r397 (fun j9 h9 => by cases h9; exact g356) h398) (cwV 3 hts gL_act_X3_areFine rfl rfl rfl (by decide +kernel) ⟨Nat.le_of_ble_eq_true rfl, Nat.le_of_ble_eq_true rfl⟩) ⟨fun a U g mk q => ⟨q.1, q.2.1, va_K.moved (Vm.Alike.refl U.vm) q.2.2.1, va_K.moved (Vm.Alike.refl U.vm) q.2.2.2⟩, tc_rcv hW.2.1.o hK rfl, fun U hU hW9 => ⟨rfl, by rw [hU]; exact hW.2.1, va_K.moved hW9.alike hK, va_K.moved hW9.alike hKS⟩⟩ rfl rfl hl.1 rfl (lv_room (Nat.le_of_ble_eq_true rfl)) dL_act_1163 ⟨(by show _ ≤ (6 : Nat); omega), (by show _ ≤ (161 : Nat); omega)⟩) ?_
                  refine lv_if_eq (tgt := 1173) hx hb dL_act_1166 (by decide) (fun c399 => ?_) (fun c399 => ?_)
                  · have hF := tc_it hF c399
                    refine lv_iconst (v := 0) hx hb dL_act_1173 (by decide) ?_
                    exact Jkc364 0 E17 F18 _ _ _ hF (lv_sub hl [0, 2, 3, 5, 6] rfl) hW hEF hS
                  · have hF := tc_if hF c399
                    refine lv_iconst (v := 1) hx hb dL_act_1169 (by decide) ?_
                    refine lv_goto (tgt := 1174) hx hb dL_act_1170 (by decide) ?_
                    exact Jkc364 1 E17 F18 _ _ _ hF (lv_sub hl [0, 2, 3, 5, 6] rfl) hW hEF hS
        cases o5 with
        | none =>
          have hF := tc_on hF rfl
          have hl : lv_has ls 13 [(5, .int w11), (4, .null), (3, .int w1), (2, .int a3), (1, .ref (F13 0)), (0, .ref (E12 0))] := hl
          refine lv_aloadN hx hb dL_act_74 (lv_at hl 1 rfl) ?_
          refine lv_ifnonnullN hx hb dL_act_76 ?_
          refine lv_iload_n hx hb dL_act_79 rfl (lv_at hl 3 rfl) ?_
          refine lv_bipush (v := 14) hx hb dL_act_80 (by decide) ?_
          obtain ⟨r401, h402, hF⟩ := tc_bi hF
          refine tc_cr (W.runS (As := [.int a3, .int 14]) (rest := []) ⟨hx, hb, hml, hown, hts⟩ (mt_L_below l a3 14 r401 h402) (va_cwS 2 hts gL_act_L_below rfl rfl rfl (by decide +kernel) ⟨Nat.le_of_ble_eq_true rfl, Nat.le_of_ble_eq_true rfl⟩) ⟨fun a U g mk q => q, fun U hU hW9 => ⟨rfl, trivial⟩⟩ rfl rfl hl.1 rfl (lv_room (Nat.le_of_ble_eq_true rfl)) dL_act_82 ⟨(by show _ ≤ (6 : Nat); omega), (by show _ ≤ (161 : Nat); omega)⟩) ?_
          refine lv_iconst (v := 3) hx hb dL_act_85 (by decide) ?_
          refine lv_icmp_le (tgt := 93) hx hb dL_act_86 (by decide) (fun c403 => ?_) (fun c403 => ?_)
          · have hF := tc_it hF c403
            refine lv_iload_n hx hb dL_act_93 rfl (lv_at hl 3 rfl) ?_
            refine lv_bipush (v := 14) hx hb dL_act_94 (by decide) ?_
            obtain ⟨r404, h405, hF⟩ := tc_bi hF
            refine tc_cr (W.runS (As := [.int a3, .int 14]) (rest := []) ⟨hx, hb, hml, hown, hts⟩ (mt_L_below l a3 14 r404 h405) (va_cwS 2 hts gL_act_L_below rfl rfl rfl (by decide +kernel) ⟨Nat.le_of_ble_eq_true rfl, Nat.le_of_ble_eq_true rfl⟩) ⟨fun a U g mk q => q, fun U hU hW9 => ⟨rfl, trivial⟩⟩ rfl rfl hl.1 rfl (lv_room (Nat.le_of_ble_eq_true rfl)) dL_act_96 ⟨(by show _ ≤ (6 : Nat); omega), (by show _ ≤ (161 : Nat); omega)⟩) ?_
            exact Jkc19 r404 none E12 F13 _ _ _ hF (lv_sub hl [0, 1, 2, 3, 4, 5] rfl) hW hEF hS
          · have hF := tc_if hF c403
            refine lv_iconst (v := 3) hx hb dL_act_89 (by decide) ?_
            refine lv_goto (tgt := 99) hx hb dL_act_90 (by decide) ?_
            exact Jkc19 3 none E12 F13 _ _ _ hF (lv_sub hl [0, 1, 2, 3, 4, 5] rfl) hW hEF hS
        | some j400 =>
          have hF := tc_os hF rfl
          have hl : lv_has ls 13 [(5, .int w11), (4, .ref (F13 j400)), (3, .int w1), (2, .int a3), (1, .ref (F13 0)), (0, .ref (E12 0))] := hl
          refine lv_aload hx hb dL_act_74 (lv_at hl 1 rfl) ?_
          refine lv_ifnonnull (tgt := 93) hx hb dL_act_76 (by decide) ?_
          refine lv_iload_n hx hb dL_act_93 rfl (lv_at hl 3 rfl) ?_
          refine lv_bipush (v := 14) hx hb dL_act_94 (by decide) ?_
          obtain ⟨r406, h407, hF⟩ := tc_bi hF
          refine tc_cr (W.runS (As := [.int a3, .int 14]) (rest := []) ⟨hx, hb, hml, hown, hts⟩ (mt_L_below l a3 14 r406 h407) (va_cwS 2 hts gL_act_L_below rfl rfl rfl (by decide +kernel) ⟨Nat.le_of_ble_eq_true rfl, Nat.le_of_ble_eq_true rfl⟩) ⟨fun a U g mk q => q, fun U hU hW9 => ⟨rfl, trivial⟩⟩ rfl rfl hl.1 rfl (lv_room (Nat.le_of_ble_eq_true rfl)) dL_act_96 ⟨(by show _ ≤ (6 : Nat); omega), (by show _ ≤ (161 : Nat); omega)⟩) ?_
          exact Jkc19 r406 (some j400) E12 F13 _ _ _ hF (lv_sub hl [0, 1, 2, 3, 4, 5] rfl) hW hEF hS
      refine lv_if_ne (tgt := 62) hx hb dL_act_47 (by decide) (fun c408 => ?_) (fun c408 => ?_)
      · have hF := tc_if hF c408
        refine lv_iconst (v := 4) hx hb dL_act_62 (by decide) ?_
        refine lv_iload_n hx hb dL_act_63 rfl (lv_at hl 2 rfl) ?_
        refine lv_bipush (v := 7) hx hb dL_act_64 (by decide) ?_
        refine lv_ishr hx hb dL_act_66 ?_
        refine lv_iconst (v := 5) hx hb dL_act_67 (by decide) ?_
        obtain ⟨r409, h410, hF⟩ := tc_bi hF
        refine tc_cr (W.runS (As := [.int (a3 >>> ((7 : Int32) &&& 31)), .int 5]) (rest := [.int 4]) ⟨hx, hb, hml, hown, hts⟩ (mt_L_below l (a3 >>> ((7 : Int32) &&& 31)) 5 r409 h410) (va_cwS 2 hts gL_act_L_below rfl rfl rfl (by decide +kernel) ⟨Nat.le_of_ble_eq_true rfl, Nat.le_of_ble_eq_true rfl⟩) ⟨fun a U g mk q => q, fun U hU hW9 => ⟨rfl, trivial⟩⟩ rfl rfl hl.1 rfl (lv_room (Nat.le_of_ble_eq_true rfl)) dL_act_68 ⟨(by show _ ≤ (6 : Nat); omega), (by show _ ≤ (161 : Nat); omega)⟩) ?_
        refine lv_iadd hx hb dL_act_71 ?_
        exact Jkc14 ((4 : Int32) + r409) E6 F7 _ _ _ hF (lv_sub hl [0, 1, 2, 3, 4] rfl) hW hEF hS
      · have hF := tc_it hF c408
        refine lv_iload_n hx hb dL_act_50 rfl (lv_at hl 2 rfl) ?_
        refine lv_bipush (v := 6) hx hb dL_act_51 (by decide) ?_
        refine lv_ishr hx hb dL_act_53 ?_
        refine lv_bipush (v := 16) hx hb dL_act_54 (by decide) ?_
        obtain ⟨r411, h412, hF⟩ := tc_bi hF
        refine tc_cr (W.runS (As := [.int (a3 >>> ((6 : Int32) &&& 31)), .int 16]) (rest := []) ⟨hx, hb, hml, hown, hts⟩ (mt_L_below l (a3 >>> ((6 : Int32) &&& 31)) 16 r411 h412) (va_cwS 2 hts gL_act_L_below rfl rfl rfl (by decide +kernel) ⟨Nat.le_of_ble_eq_true rfl, Nat.le_of_ble_eq_true rfl⟩) ⟨fun a U g mk q => q, fun U hU hW9 => ⟨rfl, trivial⟩⟩ rfl rfl hl.1 rfl (lv_room (Nat.le_of_ble_eq_true rfl)) dL_act_56 ⟨(by show _ ≤ (6 : Nat); omega), (by show _ ≤ (161 : Nat); omega)⟩) ?_
        refine lv_goto (tgt := 72) hx hb dL_act_59 (by decide) ?_
        exact Jkc14 r411 E6 F7 _ _ _ hF (lv_sub hl [0, 1, 2, 3, 4] rfl) hW hEF hS
    refine lv_if_ge (tgt := 32) hx hb dL_act_25 (by decide) (fun c413 => ?_) (fun c413 => ?_)
    · have hF := tc_it hF c413
      refine lv_aload_n hx hb dL_act_32 rfl (lv_at hl 2 rfl) ?_
      refine tc_get (v := .ref (F3 3)) hx hb hts hinX3 hown hK (hW.2.1.o) (C := RX3) (T := TX3) (N := 6) rfl 4 (by decide) (hts (.fieldLink RL 9 "TreadCranesLaw$Sim" "cranes" "[[I") (List.mem_of_getElem? (i := 2) rfl)) (fun _ h9 => h9) rfl dL_act_33 ?_
      refine lv_iload_n hx hb dL_act_36 rfl (lv_at hl 0 rfl) ?_
      obtain ⟨g414, hF⟩ := tc_ob hF
      refine tc_aaldA2 (q := F3 (21 + w1.toNatClampNeg)) (j := w1.toNatClampNeg) (rfl) hx hb hKS hW.2.1.c 0 rfl g414 dL_act_37 rfl ?_
      exact Jkc8 (some (21 + w1.toNatClampNeg)) E2 F3 _ _ _ hF (lv_sub hl [0, 1, 2, 3] rfl) hW hEF hS
    · have hF := tc_if hF c413
      refine lv_null hx hb dL_act_28 ?_
      refine lv_goto (tgt := 38) hx hb dL_act_29 (by decide) ?_
      exact Jkc8 none E2 F3 _ _ _ hF (lv_sub hl [0, 1, 2, 3] rfl) hW hEF hS
  refine lv_if_ne (tgt := 12) hx hb dL_act_5 (by decide) (fun c415 => ?_) (fun c415 => ?_)
  · have hF := tc_if hF c415
    refine lv_iload_n hx hb dL_act_12 rfl (lv_at hl 2 rfl) ?_
    refine lv_iconst (v := 3) hx hb dL_act_13 (by decide) ?_
    refine lv_ishr hx hb dL_act_14 ?_
    refine lv_aload_n hx hb dL_act_15 rfl (lv_at hl 1 rfl) ?_
    refine tc_get (v := .ref (F 3)) hx hb hts hinX3 hown hK (hW.2.1.o) (C := RX3) (T := TX3) (N := 6) rfl 4 (by decide) (hts (.fieldLink RL 9 "TreadCranesLaw$Sim" "cranes" "[[I") (List.mem_of_getElem? (i := 2) rfl)) (fun _ h9 => h9) rfl dL_act_16 ?_
    refine tc_alen (v := nI (tc_zn z)) hx hb hKS hW.2.1.c 0 rfl rfl dL_act_19 ?_
    obtain ⟨r416, h417, hF⟩ := tc_bi hF
    refine tc_cr (W.runS (As := [.int (a3 >>> ((3 : Int32) &&& 31)), .int (nI (tc_zn z))]) (rest := []) ⟨hx, hb, hml, hown, hts⟩ (mt_L_below l (a3 >>> ((3 : Int32) &&& 31)) (nI (tc_zn z)) r416 h417) (va_cwS 2 hts gL_act_L_below rfl rfl rfl (by decide +kernel) ⟨Nat.le_of_ble_eq_true rfl, Nat.le_of_ble_eq_true rfl⟩) ⟨fun a U g mk q => q, fun U hU hW9 => ⟨rfl, trivial⟩⟩ rfl rfl hl.1 rfl (lv_room (Nat.le_of_ble_eq_true rfl)) dL_act_20 ⟨(by show _ ≤ (6 : Nat); omega), (by show _ ≤ (161 : Nat); omega)⟩) ?_
    exact Jkc4 r416 E F _ _ _ hF (lv_sub hl [2, 1, 0] rfl) hW hEF hS
  · have hF := tc_it hF c415
    refine lv_iconst (v := (-1)) hx hb dL_act_8 (by decide) ?_
    refine lv_goto (tgt := 23) hx hb dL_act_9 (by decide) ?_
    exact Jkc4 (-1) E F _ _ _ hF (lv_sub hl [2, 1, 0] rfl) hW hEF hS
