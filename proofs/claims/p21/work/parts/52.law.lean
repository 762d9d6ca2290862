/-! The law's own walk (written by wip/p21/run6.py). -/
noncomputable def lp_L_law_958 : Nat → tc_X → Int32 → Int32 → Int32 → Int32 → Int32 → Option (Int32) → Int32 → Option (Int32)
  | 0, _, _, _, _, _, _, _, _ => none
  | n_958 + 1, x58, r89, w97, r122, v126, r127, kc132, w144 => (if r89 ≤ w144 then kc132  else Option.bind (tc_rd (f_X2_move x58 w144 r122 v126)) (fun r148 => Option.bind (tc_rd (f_X2_crane x58 w144 5)) (fun r150 => Option.bind (tc_rd (f_X2_crane x58 w144 6)) (fun r152 => Option.bind (tc_rd (f_X2_place x58 r150 0)) (fun r154 => Option.bind (tc_rd (f_X2_crane x58 w144 7)) (fun r156 => tc_jn (fun (w158 : Int32) => (if r152 < (r154 + w158) then none else Option.bind (tc_rd (f_X2_crane x58 w144 0)) (fun r163 => tc_let (tc_abs (r150 - r163)) (fun v165 => Option.bind (tc_rd (f_X2_crane x58 w144 1)) (fun r166 => (if r166 < v165 then none else Option.bind (tc_rd (f_X2_crane x58 w144 8)) (fun r169 => Option.bind (tc_rd (f_X2_crane x58 w144 3)) (fun r171 => Option.bind (tc_rd (f_X2_crane x58 w144 2)) (fun r173 => (if ¬ r173 = 0 then (if r169 = (((12 : Int32) * r171) / r173) then Option.bind (tc_rd (f_X2_within x58 w144)) (fun r177 => (if w97 < r177 then none else Option.bind (tc_rd (f_X2_lasts x58 w144 1)) (fun r180 => Option.bind (tc_rd (f_X2_crane x58 w144 4)) (fun r182 => (if r180 = ((99 : Int32) - r182) then tc_jn (tc_let (w144 + 1) (fun v188 => lp_L_law_958 n_958 x58 r89 w97 r122 v126 r127 kc132 v188)) (fun kc187 => (if r148 < 0 then kc187  else (if r127 < 0 then none else Option.bind (tc_rd (f_X2_move x58 r127 r122 v126)) (fun r191 => (if r148 < r191 then none else Option.bind (tc_rd (f_X2_move x58 r127 r122 v126)) (fun r194 => tc_jn (Option.bind (tc_rd (f_X2_place x58 r122 0)) (fun r199 => (if r199 = 0 then none else tc_let (tc_abs (r122 - v126)) (fun v202 => (if v202 ≤ r148 then kc187  else none))))) (fun kc198 => (if r194 = r148 then (if w144 < r127 then none else kc198 ) else kc198 )))))))) else none))))) else none) else none)))))))))) (fun kc161 => (if 0 ≤ r156 then kc161 1 else kc161 0))))))))
noncomputable def lp_L_law_730 : Nat → tc_X → (Int32 → Int32 → Option (Int32)) → Int32 → Int32 → Int32 → Option (Int32)
  | 0, _, _, _, _, _ => none
  | n_730 + 1, x58, kc108, w207, w208, w209 => (if 16 ≤ w207 then kc108 w208 w209 else Option.bind (tc_rd (f_X2_place x58 w207 0)) (fun r213 => tc_let (w209 + r213) (fun v215 => Option.bind (tc_rd (f_X2_place x58 w207 3)) (fun r216 => tc_let (w208 + r216) (fun v218 => Option.bind (tc_rd (f_X2_place x58 w207 0)) (fun r219 => (if 8 < r219 then none else Option.bind (tc_rd (f_X2_place x58 w207 0)) (fun r222 => Option.bind (tc_rd (f_X2_count x58 6)) (fun r224 => (if r224 < r222 then none else Option.bind (tc_rd (f_X2_place x58 w207 0)) (fun r227 => tc_jn (fun (w229 : Int32) => Option.bind (tc_rd (f_X2_place x58 w207 1)) (fun r233 => tc_jn (fun (w235 : Int32) => (if w229 = w235 then Option.bind (tc_rd (f_X2_place x58 w207 0)) (fun r240 => tc_jn (fun (w242 : Int32) => Option.bind (tc_rd (f_X2_place x58 w207 2)) (fun r246 => tc_jn (fun (w248 : Int32) => (if w242 = w248 then tc_let (w207 + 1) (fun v253 => lp_L_law_730 n_730 x58 kc108 v253 v218 v215) else none)) (fun kc251 => (if r246 = 0 then kc251 1 else kc251 0)))) (fun kc245 => (if r240 = 0 then kc245 1 else kc245 0))) else none)) (fun kc238 => (if 0 ≤ r233 then kc238 0 else kc238 1)))) (fun kc232 => (if r227 = 0 then kc232 1 else kc232 0)))))))))))))
noncomputable def lp_L_law_526 : Nat → tc_X → Int32 → (Int32 → Int32 → Option (Int32)) → Int32 → Int32 → Int32 → Option (Int32)
  | 0, _, _, _, _, _, _ => none
  | n_526 + 1, x58, r91, kc100, w258, w259, w260 => (if r91 ≤ w258 then kc100 w259 w260 else Option.bind (tc_rd (f_X2_barrel x58 w258 1)) (fun r264 => Option.bind (tc_rd (f_X2_barrel x58 w258 3)) (fun r266 => tc_jn (fun (w268 : Int32) => tc_jn (fun (w272 : Int32) => Option.bind (tc_rd (f_X2_barrel x58 w258 4)) (fun r276 => tc_let ((w268 + w272) + r276) (fun v278 => (if v278 = 1 then tc_jn (tc_jn (tc_jn (tc_jn (tc_jn (fun (w292 : Int32) => tc_let (w260 + w292) (fun v296 => tc_jn (fun (w297 : Int32) => tc_let (w259 + w297) (fun v301 => tc_let (w258 + 1) (fun v302 => lp_L_law_526 n_526 x58 r91 kc100 v302 v301 v296))) (fun kc300 => (if r266 < 0 then kc300 0 else kc300 1)))) (fun kc295 => (if r264 < 0 then kc295 0 else kc295 1))) (fun kc291 => (if r264 < 0 then kc291  else Option.bind (tc_rd (f_X2_barrel x58 w258 2)) (fun r306 => tc_jn (fun (w308 : Int32) => Option.bind (tc_rd (f_X2_place x58 r264 1)) (fun r312 => tc_jn (fun (w314 : Int32) => (if w308 = w314 then kc291  else none)) (fun kc317 => (if r312 = w258 then kc317 1 else kc317 0)))) (fun kc311 => (if r306 = 0 then kc311 1 else kc311 0)))))) (fun kc288 => (if 0 ≤ r264 then kc288  else Option.bind (tc_rd (f_X2_barrel x58 w258 2)) (fun r322 => (if r322 = 0 then kc288  else none))))) (fun kc285 => (if r264 < 0 then kc285  else Option.bind (tc_rd (f_X2_barrel x58 w258 2)) (fun r326 => Option.bind (tc_rd (f_X2_place x58 r264 0)) (fun r328 => (if r328 ≤ r326 then none else kc285 )))))) (fun kc282 => (if r266 < 0 then kc282  else Option.bind (tc_rd (f_X2_crane x58 r266 7)) (fun r332 => (if r332 = w258 then kc282  else none)))) else none)))) (fun kc275 => (if r266 < 0 then kc275 0 else kc275 1))) (fun kc271 => (if r264 < 0 then kc271 0 else kc271 1)))))
noncomputable def lp_L_law_296 : Nat → Int32 → (Nat → Nat → Int32) → tc_X → Int32 → (Int32 → Option (Int32)) → Int32 → Int32 → Option (Int32)
  | 0, _, _, _, _, _, _, _ => none
  | n_296 + 1, r29, u52, x58, w337, kc347, w387, w388 => (if 9 ≤ w387 then kc347 w388 else Option.bind (tc_rd (f_X2_crane x58 w337 w387)) (fun r392 => (if ¬ w337 < 0 ∧ w337.toNatClampNeg < r29.toNatClampNeg then (if ¬ w387 < 0 ∧ w387.toNatClampNeg < 9 then tc_jn (fun (w396 : Int32) => tc_let (w388 ||| w396) (fun v400 => tc_let (w387 + 1) (fun v401 => lp_L_law_296 n_296 r29 u52 x58 w337 kc347 v401 v400))) (fun kc399 => (if r392 = (u52 w337.toNatClampNeg w387.toNatClampNeg) then kc399 0 else kc399 1)) else none) else none)))
noncomputable def lp_L_law_283 : Nat → Int32 → (Nat → Nat → Int32) → tc_X → (Int32 → Option (Int32)) → Int32 → Int32 → Option (Int32)
  | 0, _, _, _, _, _, _ => none
  | n_283 + 1, r29, u52, x58, kc87, w337, w338 => (if r29 ≤ w337 then kc87 w338 else tc_jn (fun (w344 : Int32) => tc_jn (fun (w348 : Int32) => tc_let (w338 + w348) (fun v352 => Option.bind (tc_rd (f_X2_crane x58 w337 0)) (fun r353 => (if ¬ w337 < 0 ∧ w337.toNatClampNeg < r29.toNatClampNeg then (if r353 = (u52 w337.toNatClampNeg 0) then Option.bind (tc_rd (f_X2_crane x58 w337 1)) (fun r357 => (if r357 = (u52 w337.toNatClampNeg 1) then Option.bind (tc_rd (f_X2_crane x58 w337 2)) (fun r360 => (if r360 = (u52 w337.toNatClampNeg 2) then Option.bind (tc_rd (f_X2_crane x58 w337 4)) (fun r363 => tc_jn (tc_let (w337 + 1) (fun v368 => lp_L_law_283 n_283 r29 u52 x58 kc87 v368 v352)) (fun kc367 => (if r363 ≤ (u52 w337.toNatClampNeg 4) then kc367  else (if (u52 w337.toNatClampNeg 7) < 0 then none else Option.bind (tc_rd (f_X2_crane x58 w337 7)) (fun r371 => tc_jn (Option.bind (tc_rd (f_X2_crane x58 w337 7)) (fun r376 => (if 0 ≤ r376 then kc367  else Option.bind (tc_rd (f_X2_crane x58 w337 4)) (fun r379 => (if r379 = 99 then kc367  else none))))) (fun kc375 => (if r371 < 0 then kc375  else Option.bind (tc_rd (f_X2_crane x58 w337 6)) (fun r383 => (if (u52 w337.toNatClampNeg 6) ≤ r383 then none else kc375 ))))))))) else none)) else none)) else none) else none)))) (fun kc351 => (if w344 = 0 then kc351 0 else kc351 1))) (fun kc347 => lp_L_law_296 10 r29 u52 x58 w337 kc347 0 0))
noncomputable def lp_L_law_243 : Nat → Int32 → (Nat → Int32) → tc_X → Option (Int32) → Int32 → Option (Int32)
  | 0, _, _, _, _, _ => none
  | n_243 + 1, r27, u41, x58, kc81, w403 => (if r27 ≤ w403 then kc81  else (if ¬ w403 < 0 ∧ w403.toNatClampNeg < r27.toNatClampNeg then tc_jn (tc_let (w403 + 1) (fun v411 => lp_L_law_243 n_243 r27 u41 x58 kc81 v411)) (fun kc410 => (if (u41 w403.toNatClampNeg) = 0 then kc410  else Option.bind (tc_rd (f_X2_barrel x58 w403 4)) (fun r413 => (if r413 = 1 then kc410  else none)))) else none))
noncomputable def lp_L_law_146 : Nat → tc_X → Int32 → Int32 → ((Nat → Nat → Int32) → Option (Int32)) → Int32 → (Nat → Nat → Int32) → Option (Int32)
  | 0, _, _, _, _, _, _ => none
  | n_146 + 1, x19, r29, w416, kc426, w428, u429 => (if 9 ≤ w428 then kc426 u429 else (if ¬ w416 < 0 ∧ w416.toNatClampNeg < r29.toNatClampNeg then Option.bind (tc_rd (f_X2_crane x19 w416 w428)) (fun r434 => (if ¬ w428 < 0 ∧ w428.toNatClampNeg < 9 then tc_let (va_up u429 w416.toNatClampNeg (upd (u429 w416.toNatClampNeg) w428.toNatClampNeg r434)) (fun u437 => tc_let (w428 + 1) (fun v438 => lp_L_law_146 n_146 x19 r29 w416 kc426 v438 u437)) else none)) else none))
noncomputable def lp_L_law_136 : Nat → tc_X → Int32 → ((Nat → Nat → Int32) → Option (Int32)) → Int32 → (Nat → Nat → Int32) → Option (Int32)
  | 0, _, _, _, _, _ => none
  | n_136 + 1, x19, r29, kc55, w416, u417 => (if r29 ≤ w416 then kc55 u417 else tc_jn (fun (u423 : Nat → Nat → Int32) => tc_let (w416 + 1) (fun v427 => lp_L_law_136 n_136 x19 r29 kc55 v427 u423)) (fun kc426 => lp_L_law_146 10 x19 r29 w416 kc426 0 u417))
noncomputable def lp_L_law_89 : Nat → tc_X → Int32 → ((Nat → Int32) → Option (Int32)) → Int32 → (Nat → Int32) → Option (Int32)
  | 0, _, _, _, _, _ => none
  | n_89 + 1, x19, r27, kc44, w439, u440 => (if r27 ≤ w439 then kc44 u440 else Option.bind (tc_rd (f_X2_barrel x19 w439 4)) (fun r444 => tc_jn (fun (w446 : Int32) => (if ¬ w439 < 0 ∧ w439.toNatClampNeg < r27.toNatClampNeg then (if w446 = 0 ∨ w446 = 1 then tc_let (upd u440 w439.toNatClampNeg w446) (fun u452 => tc_let (w439 + 1) (fun v453 => lp_L_law_89 n_89 x19 r27 kc44 v453 u452)) else none) else none)) (fun kc449 => (if r444 = 1 then kc449 1 else kc449 0))))
noncomputable def lp_L_law_24 : Nat → (Nat → Int32) → Nat → (tc_X → tc_Z → Option (Int32)) → Int32 → tc_X → tc_Z → Option (Int32)
  | 0, _, _, _, _, _, _ => none
  | n_24 + 1, xs, L, kc17, w18, x19, z20 => (if 60 ≤ w18 then kc17 x19 z20 else Option.bind (f_L_cell xs L (w18 - w18 / (16 : Int32) * (16 : Int32))) (fun r24 => tc_let ((r24 >>> (((w18 / (16 : Int32)) * (4 : Int32)) &&& 31)) + ((59 : Int32) * w18)) (fun v26 => Option.bind (tc_rd (f_X2_count x19 1)) (fun r27 => Option.bind (tc_rd (f_X2_count x19 5)) (fun r29 => Option.bind (tc_rd (f_X2_count x19 0)) (fun r31 => Option.bind (tc_rd (f_X2_count x19 4)) (fun r33 => (if ¬ r27 < 0 ∧ r27.toNatClampNeg ≤ 40 then tc_let (fun _ : Nat => (0 : Int32)) (fun u37 => tc_jn (fun (u41 : Nat → Int32) => (if ¬ r29 < 0 ∧ r29.toNatClampNeg ≤ 5 then tc_let (fun _ _ : Nat => (0 : Int32)) (fun u48 => tc_jn (fun (u52 : Nat → Nat → Int32) => tc_wif x19 (tc_b3 (f_L_act x19 z20 v26) (fun r57 x58 z59 => (if r57 = 0 then none else Option.bind (tc_rd (f_X2_count x58 0)) (fun r66 => (if r66 < r31 then none else Option.bind (tc_rd (f_X2_count x58 0)) (fun r69 => (if (r31 + (35 : Int32)) < r69 then none else Option.bind (tc_rd (f_X2_count x58 4)) (fun r72 => (if r72 < r33 then none else Option.bind (tc_rd (f_X2_count x58 4)) (fun r75 => (if r75 ≤ (r33 + (1 : Int32)) then tc_jn (tc_jn (fun (w84 : Int32) => (if w84 ≤ 1 then Option.bind (tc_rd (f_X2_count x58 5)) (fun r89 => Option.bind (tc_rd (f_X2_count x58 1)) (fun r91 => tc_jn (fun (w96 : Int32) (w97 : Int32) => tc_jn (fun (w104 : Int32) (w105 : Int32) => (if w105 = w97 then (if w104 = r89 then Option.bind (tc_rd (f_X2_count x58 2)) (fun r111 => (if r111 = w97 then Option.bind (tc_rd (f_X2_count x58 3)) (fun r114 => (if r114 = w96 then Option.bind (tc_rd (f_X2_count x58 4)) (fun r117 => (if ((w97 + w96) + r117) = r91 then Option.bind (f_X2_digest x58) (fun r120 => Option.bind (f_L_below (v26 >>> ((3 : Int32) &&& 31)) 16) (fun r122 => Option.bind (f_L_below (v26 >>> ((5 : Int32) &&& 31)) 8) (fun r124 => tc_let ((3 : Int32) + r124) (fun v126 => Option.bind (tc_rd (f_X2_best x58 r122 v126)) (fun r127 => tc_jn (tc_jn (Option.bind (f_X2_digest x58) (fun r136 => (if (lg_cmp r136 r120) = 0 then tc_let (w18 + 1) (fun v139 => lp_L_law_24 n_24 xs L kc17 v139 x58 z59) else none))) (fun kc135 => (if r127 < 0 then kc135  else Option.bind (tc_rd (f_X2_move x58 r127 r122 v126)) (fun r141 => (if r141 < 0 then none else kc135 ))))) (fun kc132 => lp_L_law_958 6 x58 r89 w97 r122 v126 r127 kc132 0)))))) else none)) else none)) else none)) else none) else none)) (fun kc108 => lp_L_law_730 17 x58 kc108 0 0 0)) (fun kc100 => lp_L_law_526 41 x58 r91 kc100 0 0 0))) else none)) (fun kc87 => lp_L_law_283 6 r29 u52 x58 kc87 0 0)) (fun kc81 => lp_L_law_243 41 r27 u41 x58 kc81 0) else none)))))))))))) (fun kc55 => lp_L_law_136 6 x19 r29 kc55 0 u48)) else none)) (fun kc44 => lp_L_law_89 41 x19 r27 kc44 0 u37)) else none))))))))
noncomputable def f_L_law (xs : Nat → Int32) (L : Nat) : Option Int32 := tc_let tc_x0 (fun x => tc_b3 (f_L_build xs L x) (fun r1 x1 z1 => (if r1 = 1 then tc_jn (fun (x13 : tc_X) (z14 : tc_Z) => (if f_S_isSame x13 z14 = some 1 then some 1 else none)) (fun kc17 => lp_L_law_24 61 xs L kc17 0 x1 z1) else none)))
set_option maxHeartbeats 16000000 in
set_option maxRecDepth 100000 in
theorem law_walk {p : Program} {e : Env} {s : State} {m : MethodId} {below : List Frame} {meth : Method} {c : Code} (l : Launch) (hst : l.stackTraces = false) {b L : Nat} {xs : Nat → Int32} (hF : f_L_law xs L = some 1) (C0 : lw_At p s m meth c b L xs) : W p l e room_1 s m #[Value.ref b] below meth c s.heap [] 0 0 (lw_Z below #[Value.ref b] s) (entryFrame m ([Value.ref b] : List Value).toArray 24) := by
  obtain ⟨hx, hb, hr, hml, hown, hts0, hX, hbl, hlocks, hgv⟩ := id C0
  obtain ⟨D, cU, cO, cI, cII, cZ, e0, hKX, hKF, he0, hNest⟩ := tc_facts C0
  obtain ⟨A, eA⟩ : ∃ A : Nat → Prop, A = fun q => s.heap.size ≤ q := ⟨_, rfl⟩
  rw [← eA] at hKX
  have hts : ∀ w ∈ wsL_law, w.before #[Value.ref b] s = true := fun w h => hts0 w (wsL_law_in w h)
  have hinX3 : ∀ w ∈ wsX30, w ∈ wsL_law := inlX3
  have hK := hKX.1.1
  have hKS := hKF.1
  have hA0 := hKX.2.1
  have hAn := hKX.2.1
  have hAe : ¬ A e0 := by rw [eA]; exact Nat.not_le.mpr he0
  have heA := hAe
  have hbA : ¬ A b := by rw [eA]; exact Nat.not_le.mpr hbl
  have hS : va_S A s.heap s.heap [] := va_S.rf
  have hl := lv_entry ([.ref b]) (n := 24) (Nat.le_of_ble_eq_true rfl)
  rw [lg_entry_eq]
  generalize (lg_sl ([.ref b]) ++ List.replicate (24 - (lg_sl ([.ref b])).length) Slot.unset).toArray = ls at hl ⊢
  have hl : lv_has ls 24 [(0, .ref b)] := hl
  refine tc_hideQ (R9 := room_1) rfl (fun QQ eQQ => ?_)
  obtain ⟨x, ex⟩ : ∃ x9 : tc_X, x9 = tc_x0 := ⟨_, rfl⟩
  have hF := tc_lt hF ex
  refine tc_newC (ci := 3) (fs := [.null, .null, .null, .int 0]) hx hb hts inlX2 tyX2 tyX2_ok hown (hts0 (.classLink RL 33 RX2) (by decide +kernel)) (hts0 (.instantiable RX2 4) (by decide +kernel)) (hts0 (.initialized RX2) (by decide +kernel)) hK hS hA0 rfl (fun j hj => by rcases (show j = 0 ∨ j = 1 ∨ j = 2 ∨ j = 3 by omega) with rfl | rfl | rfl | rfl <;> rfl) (Nat.le_of_ble_eq_true rfl) (Nat.le_of_ble_eq_true rfl) dL_law_0 (fun q0 H hq0 hA9 e1 z1 o1 hS => ?_)
  refine lv_dup hx hb dL_law_3 rfl ?_
  refine tc_cwv (va_runI (As := []) (rest := [.ref q0]) ⟨hx, hb, hml, hown, hts⟩ (mt_X2_init l D cU cO cI e0 A q0 hA9 hAe) (cwI 0 hts gL_law_X2_init rfl rfl rfl (hts0 (.initialized RX2) (by decide +kernel)) (hts0 (.methodLink RL 107 yX2_init) (by decide +kernel)) (hts0 (.instanceMethod yX2_init) (by decide +kernel)) rfl (by decide +kernel) ⟨Nat.le_of_ble_eq_true rfl, Nat.le_of_ble_eq_true rfl⟩) ⟨fun a U g mk q => ⟨q.1, q.2.1, q.2.2.call⟩, fun U hU hW9 => ⟨rfl, by rw [hU]; exact e1, hKX.go hS hU hW9⟩⟩ rfl rfl hl.1 rfl (lv_room (Nat.le_of_ble_eq_true rfl)) dL_law_4 ⟨Nat.le_of_ble_eq_true rfl, Nat.le_of_ble_eq_true rfl⟩) hS (fun _ _ h => h) (fun _ h => h) (fun H locs hE z2 o2 hS => ?_)
  obtain ⟨E, hE0, hWC⟩ := hE
  subst hE0
  rw [← ex] at hWC
  refine lv_astore_n (lv' := [(1, .ref (E 0)), (0, .ref b)]) hx hb dL_law_7 rfl hl (by decide) rfl (fun ls hl => ?_)
  refine lv_aload_n hx hb dL_law_8 rfl (lv_at hl 0 rfl) ?_
  refine lv_aload_n hx hb dL_law_9 rfl (lv_at hl 1 rfl) ?_
  refine lv_bipush (v := 30) hx hb dL_law_10 (by decide) ?_
  obtain ⟨r1, x1, z1, hq1, hF⟩ := tc_bi3 hF
  obtain ⟨gr1, hF1⟩ := tc_ob hF
  subst gr1
  have hF := hF1
  refine tc_ce (va_runS (As := [.ref (E 0), .ref b, .int 30]) (rest := []) ⟨hx, hb, hml, hown, hts⟩ (mt_L_build l hst D cU cO cI cII cZ e0 A E b xs L x hbA x1 z1 hq1) (va_cwS 3 hts gL_law_L_build rfl rfl rfl (by decide +kernel) ⟨Nat.le_of_ble_eq_true rfl, Nat.le_of_ble_eq_true rfl⟩) ⟨fun a U g mk q => ⟨q.1, q.2.1, q.2.2.1.call, q.2.2.2.1.moved (Vm.Alike.refl U.vm), q.2.2.2.2.1, va_Nw.same rfl rfl q.2.2.2.2.2⟩, fun U hU hW9 => ⟨rfl, by rw [hU]; exact hWC, hKX.go hS hU hW9, hKF.moved hW9.alike, by show va_X b L xs U U.heap; rw [hU]; exact (hX.kept (hS.2.1 b hbl hbA)).moved hW9.alike, va_Nw.warmM hW9 hNest⟩⟩ rfl rfl hl.1 rfl (lv_room (Nat.le_of_ble_eq_true rfl)) dL_law_12 ⟨(by show _ ≤ (600104 : Nat); omega), (by show _ ≤ (7301314 : Nat); omega)⟩) hS (fun _ _ h => h) (fun _ h => h) (fun v9 H locs hB z2 o2 hS => ?_)
  obtain ⟨E, F, hE9, hv9, hW⟩ := hB
  subst hv9
  have hl : lv_has ls 24 [(1, .ref (E 0)), (0, .ref b)] := by rw [hE9]; exact hl
  refine lv_astore_n (lv' := [(2, .ref (F 0)), (1, .ref (E 0)), (0, .ref b)]) hx hb dL_law_15 rfl hl (by decide) rfl (fun ls hl => ?_)
  refine lv_aload_n hx hb dL_law_16 rfl (lv_at hl 0 rfl) ?_
  refine lv_ifnonnull (tgt := 22) hx hb dL_law_17 (by decide) ?_
  have hEF : E 0 = E 0 ∧ F 0 = F 0 := ⟨rfl, rfl⟩
  refine W.widen (k := 211) (n := 5079) (by omega) (by omega) ?_
  refine lv_iconst (v := 0) hx hb dL_law_22 (by decide) ?_
  refine lv_istore_n (lv' := [(3, .int 0), (2, .ref (F 0)), (1, .ref (E 0)), (0, .ref b)]) hx hb dL_law_23 rfl hl (by decide) rfl (fun ls hl => ?_)
  obtain ⟨kc17, ekc17, hF⟩ := tc_jx hF
  have Jkc17 : ∀ (x13 : tc_X) (z14 : tc_Z) (E15 F16 : Nat → Nat) (H : Heap) (locs : List Loc) (ls : Array Slot), kc17 x13 z14 = some 1 → lv_has ls 24 [(2, .ref (F16 0)), (1, .ref (E15 0))] → tc_WL D cU cO cI cII cZ e0 A E15 F16 x13 z14 H → E15 0 = E 0 ∧ F16 0 = F 0 → va_S A s.heap H locs → W p l e room_1 s m #[Value.ref b] below meth c H locs (87685) (540476) QQ (F0 m 1220 ls []) := by
    intro x13 z14 E15 F16 H locs ls hF hl hW hEF hS
    rw [ekc17] at hF
    dsimp only at hF
    obtain ⟨hq9, hF⟩ := tc_ob hF
    refine lv_aload_n hx hb dL_law_1220 rfl (lv_at hl 0 rfl) ?_
    refine lv_aload_n hx hb dL_law_1221 rfl (lv_at hl 1 rfl) ?_
    refine tc_cwD (Drawn.sameBut.refl s.drawn lw_cs) (va_runV_D (As := [.ref (E15 0)]) (rest := []) ⟨hx, hb, hml, hown, hts⟩ (mt_X3_isSame l hst D cU cO cI cII cZ e0 A E15 F16 x13 z14 hq9) (cwV 1 hts gL_law_X3_isSame rfl rfl rfl (by decide +kernel) ⟨Nat.le_of_ble_eq_true rfl, Nat.le_of_ble_eq_true rfl⟩) ⟨fun a U g mk q => ⟨q.1, q.2.1, q.2.2.1.call, q.2.2.2.moved (Vm.Alike.refl U.vm)⟩, tc_rcv hW.2.1.o hK rfl, fun U hU hW9 => ⟨rfl, by rw [hU]; exact hW, (hKX.go hS hU hW9), hKF.moved hW9.alike⟩⟩ rfl rfl hl.1 rfl (lv_room (Nat.le_of_ble_eq_true rfl)) dL_law_1222 ⟨(by show _ ≤ (600104 : Nat); omega), (by show _ ≤ (7301314 : Nat); omega)⟩) hS (fun _ _ h => h) (fun _ h => h) (fun H locs _ z1 o1 hS d1 hd1 => ?_)
    rw [eQQ]
    refine va_forget (fun q hq => by have h9 := hS.2.2 q hq; rw [eA] at h9; exact h9) ?_
    refine W.widen (k := 600104) (n := 7301314) (by omega) (by omega) ?_
    exact lw_ret hd1 hx hb hr hlocks dL_law_1225
  have hL_24 : ∀ (n_24 : Nat) (hn_24 : n_24 ≤ 61) (w18 : Int32) (x19 : tc_X) (z20 : tc_Z) (E21 F22 : Nat → Nat) (H : Heap) (locs : List Loc) (ls : Array Slot), lp_L_law_24 n_24 xs L kc17 w18 x19 z20 = some 1 → lv_has ls 24 [(3, .int w18), (2, .ref (F22 0)), (1, .ref (E21 0)), (0, .ref b)] → tc_WL D cU cO cI cII cZ e0 A E21 F22 x19 z20 H → E21 0 = E 0 ∧ F22 0 = F 0 → va_S A s.heap H locs → W p l e room_1 s m #[Value.ref b] below meth c H locs ((211) + (61 - n_24) * 1434 + 0) ((5079) + (61 - n_24) * 8777 + 0) QQ (F0 m 24 ls []) := by
    intro n_24
    induction n_24 with
    | zero => intro _; intro w18 x19 z20 E21 F22 H locs ls hF hl hW hEF hS; rw [lp_L_law_24] at hF; cases hF
    | succ n_24 ih_24 =>
      intro hn_24
      intro w18 x19 z20 E21 F22 H locs ls hF hl hW hEF hS
      rw [lp_L_law_24] at hF
      refine lv_iload_n hx hb dL_law_24 rfl (lv_at hl 0 rfl) ?_
      refine lv_bipush (v := 60) hx hb dL_law_25 (by decide) ?_
      refine lv_icmp_ge (tgt := 1220) hx hb dL_law_27 (by decide) (fun c23 => ?_) (fun c23 => ?_)
      · have hF := tc_it hF c23
        refine W.widen (k := 87685) (n := 540476) (by omega) (by omega) ?_
        exact Jkc17 x19 z20 E21 F22 _ _ _ hF (lv_sub hl [1, 2] rfl) hW hEF hS
      · have hF := tc_if hF c23
        refine lv_aload_n hx hb dL_law_30 rfl (lv_at hl 3 rfl) ?_
        refine lv_iload_n hx hb dL_law_31 rfl (lv_at hl 0 rfl) ?_
        refine lv_bipush (v := 16) hx hb dL_law_32 (by decide) ?_
        refine lv_irem hx hb dL_law_34 (by decide) ?_
        obtain ⟨r24, h25, hF⟩ := tc_bi hF
        refine tc_cr (W.runS (As := [.ref b, .int (w18 - w18 / (16 : Int32) * (16 : Int32))]) (rest := []) ⟨hx, hb, hml, hown, hts⟩ (mt_L_cell l b xs L (w18 - w18 / (16 : Int32) * (16 : Int32)) r24 h25) (va_cwS 2 hts gL_law_L_cell rfl rfl rfl (by decide +kernel) ⟨Nat.le_of_ble_eq_true rfl, Nat.le_of_ble_eq_true rfl⟩) ⟨fun a U g mk q => ⟨q.1, q.2⟩, fun U hU hW9 => ⟨rfl, by show va_X b L xs U U.heap; rw [hU]; exact (hX.kept (hS.2.1 b hbl hbA)).moved hW9.alike⟩⟩ rfl rfl hl.1 rfl (lv_room (Nat.le_of_ble_eq_true rfl)) dL_law_35 ⟨(by show _ ≤ (600104 : Nat); omega), (by show _ ≤ (7301314 : Nat); omega)⟩) ?_
        refine lv_iload_n hx hb dL_law_38 rfl (lv_at hl 0 rfl) ?_
        refine lv_bipush (v := 16) hx hb dL_law_39 (by decide) ?_
        refine lv_idiv hx hb dL_law_41 (by decide) ?_
        refine lv_iconst (v := 4) hx hb dL_law_42 (by decide) ?_
        refine lv_imul hx hb dL_law_43 ?_
        refine lv_ishr hx hb dL_law_44 ?_
        refine lv_bipush (v := 59) hx hb dL_law_45 (by decide) ?_
        refine lv_iload_n hx hb dL_law_47 rfl (lv_at hl 0 rfl) ?_
        refine lv_imul hx hb dL_law_48 ?_
        refine lv_iadd hx hb dL_law_49 ?_
        refine lv_topi (fun v26 ev26 => ?_)
        have hF := tc_lt hF ev26
        refine lv_istore (lv' := [(4, .int v26), (3, .int w18), (2, .ref (F22 0)), (1, .ref (E21 0)), (0, .ref b)]) hx hb dL_law_50 hl (by decide) rfl (fun ls hl => ?_)
        refine lv_aload_n hx hb dL_law_52 rfl (lv_at hl 3 rfl) ?_
        refine lv_iconst (v := 1) hx hb dL_law_53 (by decide) ?_
        obtain ⟨r27, h28, hF⟩ := tc_bi hF
        have h28 := tc_rdx h28
        refine tc_cx (vx_runV (As := [.int 1]) (rest := []) ⟨hx, hb, hml, hown, hts⟩ (mt_X2_count l hst D cU cO cI e0 (tc_A1 A F22 z20) E21 x19 1 0 r27 h28) (cwV 1 hts gL_law_X2_count rfl rfl rfl (by decide +kernel) ⟨Nat.le_of_ble_eq_true rfl, Nat.le_of_ble_eq_true rfl⟩) ⟨fun a U g mk q => ⟨q.1, q.2.1, q.2.2.call⟩, tc_rcv hW.1.o hK rfl, fun U hU hW9 => ⟨rfl, by rw [hU]; exact hW.1, ((hKX.go hS hU hW9).narrow (fun z9 h9 => h9.1) (by rw [hU]; exact hW.newA (fun z9 h9 => by exact hAn z9 (Nat.le_trans hS.1 h9))))⟩⟩ rfl rfl hl.1 rfl (lv_room (Nat.le_of_ble_eq_true rfl)) dL_law_54 ⟨(by show _ ≤ (600104 : Nat); omega), (by show _ ≤ (7301314 : Nat); omega)⟩) hS (fun z9 _ h9 => h9.1) (fun z9 h9 => h9.1) (fun z9 _ h9 => h9.1) (fun ce q9 H locs c9 _ _ _ _ _ _ _ => absurd rfl c9) (fun H locs _ hB z1 o1 hS => ?_)
        have hW := hW.afterC hB o1
        refine lv_istore (lv' := [(5, .int r27), (4, .int v26), (3, .int w18), (2, .ref (F22 0)), (1, .ref (E21 0)), (0, .ref b)]) hx hb dL_law_57 hl (by decide) rfl (fun ls hl => ?_)
        refine lv_aload_n hx hb dL_law_59 rfl (lv_at hl 4 rfl) ?_
        refine lv_iconst (v := 5) hx hb dL_law_60 (by decide) ?_
        obtain ⟨r29, h30, hF⟩ := tc_bi hF
        have h30 := tc_rdx h30
        refine tc_cx (vx_runV (As := [.int 5]) (rest := []) ⟨hx, hb, hml, hown, hts⟩ (mt_X2_count l hst D cU cO cI e0 (tc_A1 A F22 z20) E21 x19 5 0 r29 h30) (cwV 1 hts gL_law_X2_count rfl rfl rfl (by decide +kernel) ⟨Nat.le_of_ble_eq_true rfl, Nat.le_of_ble_eq_true rfl⟩) ⟨fun a U g mk q => ⟨q.1, q.2.1, q.2.2.call⟩, tc_rcv hW.1.o hK rfl, fun U hU hW9 => ⟨rfl, by rw [hU]; exact hW.1, ((hKX.go hS hU hW9).narrow (fun z9 h9 => h9.1) (by rw [hU]; exact hW.newA (fun z9 h9 => by exact hAn z9 (Nat.le_trans hS.1 h9))))⟩⟩ rfl rfl hl.1 rfl (lv_room (Nat.le_of_ble_eq_true rfl)) dL_law_61 ⟨(by show _ ≤ (600104 : Nat); omega), (by show _ ≤ (7301314 : Nat); omega)⟩) hS (fun z9 _ h9 => h9.1) (fun z9 h9 => h9.1) (fun z9 _ h9 => h9.1) (fun ce q9 H locs c9 _ _ _ _ _ _ _ => absurd rfl c9) (fun H locs _ hB z1 o1 hS => ?_)
        have hW := hW.afterC hB o1
        refine lv_istore (lv' := [(6, .int r29), (5, .int r27), (4, .int v26), (3, .int w18), (2, .ref (F22 0)), (1, .ref (E21 0)), (0, .ref b)]) hx hb dL_law_64 hl (by decide) rfl (fun ls hl => ?_)
        refine lv_aload_n hx hb dL_law_66 rfl (lv_at hl 5 rfl) ?_
        refine lv_iconst (v := 0) hx hb dL_law_67 (by decide) ?_
        obtain ⟨r31, h32, hF⟩ := tc_bi hF
        have h32 := tc_rdx h32
        refine tc_cx (vx_runV (As := [.int 0]) (rest := []) ⟨hx, hb, hml, hown, hts⟩ (mt_X2_count l hst D cU cO cI e0 (tc_A1 A F22 z20) E21 x19 0 0 r31 h32) (cwV 1 hts gL_law_X2_count rfl rfl rfl (by decide +kernel) ⟨Nat.le_of_ble_eq_true rfl, Nat.le_of_ble_eq_true rfl⟩) ⟨fun a U g mk q => ⟨q.1, q.2.1, q.2.2.call⟩, tc_rcv hW.1.o hK rfl, fun U hU hW9 => ⟨rfl, by rw [hU]; exact hW.1, ((hKX.go hS hU hW9).narrow (fun z9 h9 => h9.1) (by rw [hU]; exact hW.newA (fun z9 h9 => by exact hAn z9 (Nat.le_trans hS.1 h9))))⟩⟩ rfl rfl hl.1 rfl (lv_room (Nat.le_of_ble_eq_true rfl)) dL_law_68 ⟨(by show _ ≤ (600104 : Nat); omega), (by show _ ≤ (7301314 : Nat); omega)⟩) hS (fun z9 _ h9 => h9.1) (fun z9 h9 => h9.1) (fun z9 _ h9 => h9.1) (fun ce q9 H locs c9 _ _ _ _ _ _ _ => absurd rfl c9) (fun H locs _ hB z1 o1 hS => ?_)
        have hW := hW.afterC hB o1
        refine lv_istore (lv' := [(7, .int r31), (6, .int r29), (5, .int r27), (4, .int v26), (3, .int w18), (2, .ref (F22 0)), (1, .ref (E21 0)), (0, .ref b)]) hx hb dL_law_71 hl (by decide) rfl (fun ls hl => ?_)
        refine lv_aload_n hx hb dL_law_73 rfl (lv_at hl 6 rfl) ?_
        refine lv_iconst (v := 4) hx hb dL_law_74 (by decide) ?_
        obtain ⟨r33, h34, hF⟩ := tc_bi hF
        have h34 := tc_rdx h34
        refine tc_cx (vx_runV (As := [.int 4]) (rest := []) ⟨hx, hb, hml, hown, hts⟩ (mt_X2_count l hst D cU cO cI e0 (tc_A1 A F22 z20) E21 x19 4 0 r33 h34) (cwV 1 hts gL_law_X2_count rfl rfl rfl (by decide +kernel) ⟨Nat.le_of_ble_eq_true rfl, Nat.le_of_ble_eq_true rfl⟩) ⟨fun a U g mk q => ⟨q.1, q.2.1, q.2.2.call⟩, tc_rcv hW.1.o hK rfl, fun U hU hW9 => ⟨rfl, by rw [hU]; exact hW.1, ((hKX.go hS hU hW9).narrow (fun z9 h9 => h9.1) (by rw [hU]; exact hW.newA (fun z9 h9 => by exact hAn z9 (Nat.le_trans hS.1 h9))))⟩⟩ rfl rfl hl.1 rfl (lv_room (Nat.le_of_ble_eq_true rfl)) dL_law_75 ⟨(by show _ ≤ (600104 : Nat); omega), (by show _ ≤ (7301314 : Nat); omega)⟩) hS (fun z9 _ h9 => h9.1) (fun z9 h9 => h9.1) (fun z9 _ h9 => h9.1) (fun ce q9 H locs c9 _ _ _ _ _ _ _ => absurd rfl c9) (fun H locs _ hB z1 o1 hS => ?_)
        have hW := hW.afterC hB o1
        refine lv_istore (lv' := [(8, .int r33), (7, .int r31), (6, .int r29), (5, .int r27), (4, .int v26), (3, .int w18), (2, .ref (F22 0)), (1, .ref (E21 0)), (0, .ref b)]) hx hb dL_law_78 hl (by decide) rfl (fun ls hl => ?_)
        refine lv_iload hx hb dL_law_80 (lv_at hl 3 rfl) ?_
        obtain ⟨g36, hF⟩ := tc_ob hF
        refine tc_newZ (n := r27) (N := r27.toNatClampNeg) hx hb (hts (.arrayClass .boolean) (List.mem_of_getElem? (i := 3) rfl)) hS hKS hA0 g36.1 rfl (by have h8 := g36.2; omega) (by show _ ≤ (600104 : Nat); omega) (by have h8 := g36.2; show _ ≤ (7301314 : Nat); omega) dL_law_82 1 rfl (fun q35 H hq_q35 ho_q35 et_q35 z1 o1 hS => ?_)
        refine W.widen (k := (211) + (61 - (n_24 + 1)) * 1434 + 5) (n := (5079) + (61 - (n_24 + 1)) * 8777 + 64) (by omega) (by have h8 := g36.2; omega) ?_
        obtain ⟨u37, eu37⟩ : ∃ z9 : Nat → Int32, z9 = fun _ : Nat => (0 : Int32) := ⟨_, rfl⟩
        have hF := tc_lt hF eu37
        rw [← eu37] at et_q35
        have hnc_q35 := hW.neE hq_q35
        have hnf_q35 := hW.neF hq_q35
        have hW := hW.grown o1
        obtain ⟨A38, eA38⟩ : ∃ A9 : Nat → Prop, A9 = fun z9 => A z9 ∧ z9 ≠ q35 := ⟨_, rfl⟩
        have hA38A : ∀ z9, A38 z9 → A z9 := fun z9 h9 => by rw [eA38] at h9; exact h9.1
        have hW := hW.reA (A' := A38) (fun j hj => by rw [eA38]; exact ⟨(hW.1.own hj).1, hnc_q35 j hj⟩) (fun i hi => by rw [eA38]; exact ⟨hW.2.1.own hi, hnf_q35 i hi⟩) (fun h9 => hW.2.2 (by rw [eA38] at h9; exact h9.1))
        have heA38 := hW.2.2
        have hx_q35 : ¬ A38 q35 := fun h9 => by rw [eA38] at h9; exact h9.2 rfl
        refine lv_astore (lv' := [(9, .ref q35), (8, .int r33), (7, .int r31), (6, .int r29), (5, .int r27), (4, .int v26), (3, .int w18), (2, .ref (F22 0)), (1, .ref (E21 0)), (0, .ref b)]) hx hb dL_law_84 hl (by decide) rfl (fun ls hl => ?_)
        refine lv_iconst (v := 0) hx hb dL_law_86 (by decide) ?_
        refine lv_istore (lv' := [(10, .int 0), (9, .ref q35), (8, .int r33), (7, .int r31), (6, .int r29), (5, .int r27), (4, .int v26), (3, .int w18), (2, .ref (F22 0)), (1, .ref (E21 0)), (0, .ref b)]) hx hb dL_law_87 hl (by decide) rfl (fun ls hl => ?_)
        obtain ⟨kc44, ekc44, hF⟩ := tc_jx hF
        have Jkc44 : ∀ (u41 : Nat → Int32) (E42 F43 : Nat → Nat) (H : Heap) (locs : List Loc) (ls : Array Slot), kc44 u41 = some 1 → lv_has ls 24 [(9, .ref q35), (8, .int r33), (7, .int r31), (6, .int r29), (5, .int r27), (4, .int v26), (3, .int w18), (2, .ref (F43 0)), (1, .ref (E42 0)), (0, .ref b)] → tc_WL D cU cO cI cII cZ e0 A38 E42 F43 x19 z20 H → E42 0 = E 0 ∧ F43 0 = F 0 → va_at D vwCl (q35, .inl (cZ, r27.toNatClampNeg, .inl u41)) H → va_S A s.heap H locs → W p l e room_1 s m #[Value.ref b] below meth c H locs ((211) + (61 - (n_24 + 1)) * 1434 + 46) ((5079) + (61 - (n_24 + 1)) * 8777 + 310) QQ (F0 m 123 ls []) := by
          intro u41 E42 F43 H locs ls hF hl hW hEF et_q35 hS
          rw [ekc44] at hF
          dsimp only at hF
          refine lv_iload hx hb dL_law_123 (lv_at hl 3 rfl) ?_
          refine lv_bipush (v := 9) hx hb dL_law_125 (by decide) ?_
          obtain ⟨g47, hF⟩ := tc_ob hF
          refine tc_mna (n := r29) (k := 9) (N := r29.toNatClampNeg) (M := 9) hx hb hown (hts (.classLink RL 117 "[[I") (List.mem_of_getElem? (i := 4) rfl)) (hts (.arrayClass .int) (List.mem_of_getElem? (i := 5) rfl)) hK 2 rfl hKF hS hA0 g47.1 (by decide) rfl (by decide) (by have h8 := g47.2; omega) (Nat.le_of_ble_eq_true rfl) (Nat.le_of_ble_eq_true rfl) (by have h8 := g47.2; show _ ≤ (600104 : Nat); omega) (by have h8 := g47.2; show _ ≤ (7301314 : Nat); omega) dL_law_127 (fun q45 r46 H hq_q45 ho_q45 hrr_q45 hri_q45 et_q45 er_q45 o1 hS => ?_)
          refine W.widen (k := (211) + (61 - (n_24 + 1)) * 1434 + 52) (n := (5079) + (61 - (n_24 + 1)) * 8777 + 360) (by have h8 := g47.2; omega) (by have h8 := g47.2; omega) ?_
          have hor_q45 := fun j => (hrr_q45 j).2.1
          have hrq_q45 := fun j => (hrr_q45 j).2.2
          obtain ⟨u48, eu48⟩ : ∃ z9 : Nat → Nat → Int32, z9 = fun _ _ : Nat => (0 : Int32) := ⟨_, rfl⟩
          have hF := tc_lt hF eu48
          have er_q45 : ∀ j, j < r29.toNatClampNeg → va_at D vwCl (r46 j, .inl (cI, 9, .inl (u48 j))) H := fun j hj => by rw [eu48]; exact er_q45 j hj
          have hne_q35_q45 : q35 ≠ q45 := fun h8 => absurd et_q35.lt (Nat.not_lt.mpr (by rw [h8]; exact hq_q45))
          have hnr_q45_q35 : ∀ j, j < r29.toNatClampNeg → r46 j ≠ q35 := fun j hj h8 => absurd et_q35.lt (Nat.not_lt.mpr (by rw [← h8]; exact (hrr_q45 j).1))
          have hnc_q45 := hW.neE hq_q45
          have hnf_q45 := hW.neF hq_q45
          have hncr_q45 := fun j => hW.neE (hrr_q45 j).1
          have hnfr_q45 := fun j => hW.neF (hrr_q45 j).1
          have hW := hW.grown o1
          have et_q35 := et_q35.kept (o1 _ et_q35.lt)
          obtain ⟨A49, eA49⟩ : ∃ A9 : Nat → Prop, A9 = fun z9 => A38 z9 ∧ z9 ≠ q45 ∧ ∀ j, j < r29.toNatClampNeg → z9 ≠ r46 j := ⟨_, rfl⟩
          have hA49A : ∀ z9, A49 z9 → A38 z9 := fun z9 h9 => by rw [eA49] at h9; exact h9.1
          have hW := hW.reA (A' := A49) (fun j hj => by rw [eA49]; exact ⟨(hW.1.own hj).1, hnc_q45 j hj, fun k _ => hncr_q45 k j hj⟩) (fun i hi => by rw [eA49]; exact ⟨hW.2.1.own hi, hnf_q45 i hi, fun k _ => hnfr_q45 k i hi⟩) (fun h9 => hW.2.2 (by rw [eA49] at h9; exact h9.1))
          have heA49 := hW.2.2
          have hx_q45 : ¬ A49 q45 := fun h9 => by rw [eA49] at h9; exact h9.2.1 rfl
          have hxr_q45 : ∀ j, j < r29.toNatClampNeg → ¬ A49 (r46 j) := fun j hj h9 => by rw [eA49] at h9; exact h9.2.2 j hj rfl
          have hx_q35 : ¬ A49 q35 := fun h9 => hx_q35 (hA49A _ h9)
          refine lv_astore (lv' := [(10, .ref q45), (9, .ref q35), (8, .int r33), (7, .int r31), (6, .int r29), (5, .int r27), (4, .int v26), (3, .int w18), (2, .ref (F43 0)), (1, .ref (E42 0)), (0, .ref b)]) hx hb dL_law_131 hl (by decide) rfl (fun ls hl => ?_)
          refine lv_iconst (v := 0) hx hb dL_law_133 (by decide) ?_
          refine lv_istore (lv' := [(11, .int 0), (10, .ref q45), (9, .ref q35), (8, .int r33), (7, .int r31), (6, .int r29), (5, .int r27), (4, .int v26), (3, .int w18), (2, .ref (F43 0)), (1, .ref (E42 0)), (0, .ref b)]) hx hb dL_law_134 hl (by decide) rfl (fun ls hl => ?_)
          obtain ⟨kc55, ekc55, hF⟩ := tc_jx hF
          have Jkc55 : ∀ (u52 : Nat → Nat → Int32) (E53 F54 : Nat → Nat) (H : Heap) (locs : List Loc) (ls : Array Slot), kc55 u52 = some 1 → lv_has ls 24 [(10, .ref q45), (9, .ref q35), (8, .int r33), (7, .int r31), (6, .int r29), (5, .int r27), (4, .int v26), (3, .int w18), (2, .ref (F54 0)), (1, .ref (E53 0)), (0, .ref b)] → tc_WL D cU cO cI cII cZ e0 A49 E53 F54 x19 z20 H → E53 0 = E 0 ∧ F54 0 = F 0 → va_at D vwCl (q35, .inl (cZ, r27.toNatClampNeg, .inl u41)) H → va_at D vwCl (q45, .inl (cII, r29.toNatClampNeg, .inr (.inr (.inr (.inr (fun j => some (r46 j))))))) H → (∀ j, j < r29.toNatClampNeg → va_at D vwCl (r46 j, .inl (cI, 9, .inl (u52 j))) H) → va_S A s.heap H locs → W p l e room_1 s m #[Value.ref b] below meth c H locs ((211) + (61 - (n_24 + 1)) * 1434 + 172) ((5079) + (61 - (n_24 + 1)) * 8777 + 1080) QQ (F0 m 181 ls []) := by
            intro u52 E53 F54 H locs ls hF hl hW hEF et_q35 et_q45 er_q45 hS
            rw [ekc55] at hF
            dsimp only at hF
            refine lv_aload_n hx hb dL_law_181 rfl (lv_at hl 9 rfl) ?_
            refine lv_aload_n hx hb dL_law_182 rfl (lv_at hl 8 rfl) ?_
            refine lv_iload hx hb dL_law_183 (lv_at hl 6 rfl) ?_
            obtain ⟨h56, hF⟩ := tc_wix hF
            obtain ⟨r57, x58, z59, h60, hF⟩ := tc_bi3 hF
            refine tc_cw (vx_runSW (As := [.ref (E53 0), .ref (F54 0), .int v26]) (rest := []) ⟨hx, hb, hml, hown, hts⟩ (mt_L_act l hst D cU cO cI cII cZ e0 A49 E53 F54 x19 z20 v26 h56 r57 x58 z59 h60) (vx_cwSW 3 hts gL_law_L_act rfl rfl rfl (by decide +kernel) ⟨Nat.le_of_ble_eq_true rfl, Nat.le_of_ble_eq_true rfl⟩) ⟨fun a U g mk q => ⟨q.1, q.2.1, q.2.2.1.call, q.2.2.2.moved (Vm.Alike.refl U.vm)⟩, fun U hU hW9 => ⟨rfl, by rw [hU]; exact hW, (hKX.go hS hU hW9).narrow (fun z9 h9 => hA38A _ (hA49A _ (h9))) (by rw [hU]; exact (fun z9 h9 => by rw [eA49, eA38]; exact ⟨⟨hAn z9 (Nat.le_trans hS.1 h9), (fun h8 => absurd et_q35.lt (Nat.not_lt.mpr (by rw [← h8]; exact h9)))⟩, (fun h8 => absurd et_q45.lt (Nat.not_lt.mpr (by rw [← h8]; exact h9))), fun j hj h8 => absurd (er_q45 j hj).lt (Nat.not_lt.mpr (by rw [← h8]; exact h9))⟩)), hKF.moved hW9.alike⟩⟩ rfl rfl hl.1 rfl (lv_room (Nat.le_of_ble_eq_true rfl)) dL_law_185 ⟨(by show _ ≤ (600104 : Nat); omega), (by show _ ≤ (7301314 : Nat); omega)⟩) hS (fun z9 _ h9 => hA38A _ (hA49A _ (h9))) (fun z9 h9 => hA38A _ (hA49A _ (h9))) (fun H locs hB z1 o1 hS => ?_)
            obtain ⟨E61, F62, h63, h64, hW⟩ := hB
            have et_q35 := et_q35.kept (o1 _ et_q35.lt hx_q35)
            have et_q45 := et_q45.kept (o1 _ et_q45.lt hx_q45)
            have er_q45 := fun j hj => (er_q45 j hj).kept (o1 _ (er_q45 j hj).lt (hxr_q45 j hj))
            have hl : lv_has ls 24 [(10, .ref q45), (9, .ref q35), (8, .int r33), (7, .int r31), (6, .int r29), (5, .int r27), (4, .int v26), (3, .int w18), (2, .ref (F62 0)), (1, .ref (E61 0)), (0, .ref b)] := by rw [h63, h64]; exact hl
            have hEF := And.intro (h63.trans hEF.1) (h64.trans hEF.2)
            refine lv_if_ne (tgt := 193) hx hb dL_law_188 (by decide) (fun c65 => ?_) (fun c65 => ?_)
            · have hF := tc_if hF c65
              refine lv_aload_n hx hb dL_law_193 rfl (lv_at hl 9 rfl) ?_
              refine lv_iconst (v := 0) hx hb dL_law_194 (by decide) ?_
              obtain ⟨r66, h67, hF⟩ := tc_bi hF
              have h67 := tc_rdx h67
              refine tc_cx (vx_runV (As := [.int 0]) (rest := []) ⟨hx, hb, hml, hown, hts⟩ (mt_X2_count l hst D cU cO cI e0 (tc_A1 A49 F62 z59) E61 x58 0 0 r66 h67) (cwV 1 hts gL_law_X2_count rfl rfl rfl (by decide +kernel) ⟨Nat.le_of_ble_eq_true rfl, Nat.le_of_ble_eq_true rfl⟩) ⟨fun a U g mk q => ⟨q.1, q.2.1, q.2.2.call⟩, tc_rcv hW.1.o hK rfl, fun U hU hW9 => ⟨rfl, by rw [hU]; exact hW.1, ((hKX.go hS hU hW9).narrow (fun z9 h9 => hA38A _ (hA49A _ (h9.1))) (by rw [hU]; exact hW.newA (fun z9 h9 => by rw [eA49, eA38]; exact ⟨⟨hAn z9 (Nat.le_trans hS.1 h9), (fun h8 => absurd et_q35.lt (Nat.not_lt.mpr (by rw [← h8]; exact h9)))⟩, (fun h8 => absurd et_q45.lt (Nat.not_lt.mpr (by rw [← h8]; exact h9))), fun j hj h8 => absurd (er_q45 j hj).lt (Nat.not_lt.mpr (by rw [← h8]; exact h9))⟩)))⟩⟩ rfl rfl hl.1 rfl (lv_room (Nat.le_of_ble_eq_true rfl)) dL_law_195 ⟨(by show _ ≤ (600104 : Nat); omega), (by show _ ≤ (7301314 : Nat); omega)⟩) hS (fun z9 _ h9 => hA38A _ (hA49A _ (h9.1))) (fun z9 h9 => hA38A _ (hA49A _ (h9.1))) (fun z9 _ h9 => hA38A _ (hA49A _ (h9.1))) (fun ce q9 H locs c9 _ _ _ _ _ _ _ => absurd rfl c9) (fun H locs _ hB z1 o1 hS => ?_)
              have et_q35 := et_q35.kept (o1 _ et_q35.lt (fun h9 => hx_q35 h9.1))
              have et_q45 := et_q45.kept (o1 _ et_q45.lt (fun h9 => hx_q45 h9.1))
              have er_q45 := fun j hj => (er_q45 j hj).kept (o1 _ (er_q45 j hj).lt (fun h9 => hxr_q45 j hj h9.1))
              have hW := hW.afterC hB o1
              refine lv_iload hx hb dL_law_198 (lv_at hl 3 rfl) ?_
              refine lv_icmp_lt (tgt := 238) hx hb dL_law_200 (by decide) (fun c68 => ?_) (fun c68 => ?_)
              · have hF := tc_it hF c68
                cases hF
              · have hF := tc_if hF c68
                refine lv_aload_n hx hb dL_law_203 rfl (lv_at hl 9 rfl) ?_
                refine lv_iconst (v := 0) hx hb dL_law_204 (by decide) ?_
                obtain ⟨r69, h70, hF⟩ := tc_bi hF
                have h70 := tc_rdx h70
                refine tc_cx (vx_runV (As := [.int 0]) (rest := []) ⟨hx, hb, hml, hown, hts⟩ (mt_X2_count l hst D cU cO cI e0 (tc_A1 A49 F62 z59) E61 x58 0 0 r69 h70) (cwV 1 hts gL_law_X2_count rfl rfl rfl (by decide +kernel) ⟨Nat.le_of_ble_eq_true rfl, Nat.le_of_ble_eq_true rfl⟩) ⟨fun a U g mk q => ⟨q.1, q.2.1, q.2.2.call⟩, tc_rcv hW.1.o hK rfl, fun U hU hW9 => ⟨rfl, by rw [hU]; exact hW.1, ((hKX.go hS hU hW9).narrow (fun z9 h9 => hA38A _ (hA49A _ (h9.1))) (by rw [hU]; exact hW.newA (fun z9 h9 => by rw [eA49, eA38]; exact ⟨⟨hAn z9 (Nat.le_trans hS.1 h9), (fun h8 => absurd et_q35.lt (Nat.not_lt.mpr (by rw [← h8]; exact h9)))⟩, (fun h8 => absurd et_q45.lt (Nat.not_lt.mpr (by rw [← h8]; exact h9))), fun j hj h8 => absurd (er_q45 j hj).lt (Nat.not_lt.mpr (by rw [← h8]; exact h9))⟩)))⟩⟩ rfl rfl hl.1 rfl (lv_room (Nat.le_of_ble_eq_true rfl)) dL_law_205 ⟨(by show _ ≤ (600104 : Nat); omega), (by show _ ≤ (7301314 : Nat); omega)⟩) hS (fun z9 _ h9 => hA38A _ (hA49A _ (h9.1))) (fun z9 h9 => hA38A _ (hA49A _ (h9.1))) (fun z9 _ h9 => hA38A _ (hA49A _ (h9.1))) (fun ce q9 H locs c9 _ _ _ _ _ _ _ => absurd rfl c9) (fun H locs _ hB z1 o1 hS => ?_)
                have et_q35 := et_q35.kept (o1 _ et_q35.lt (fun h9 => hx_q35 h9.1))
                have et_q45 := et_q45.kept (o1 _ et_q45.lt (fun h9 => hx_q45 h9.1))
                have er_q45 := fun j hj => (er_q45 j hj).kept (o1 _ (er_q45 j hj).lt (fun h9 => hxr_q45 j hj h9.1))
                have hW := hW.afterC hB o1
                refine lv_iload hx hb dL_law_208 (lv_at hl 3 rfl) ?_
                refine lv_bipush (v := 35) hx hb dL_law_210 (by decide) ?_
                refine lv_iadd hx hb dL_law_212 ?_
                refine lv_icmp_gt (tgt := 238) hx hb dL_law_213 (by decide) (fun c71 => ?_) (fun c71 => ?_)
                · have hF := tc_it hF c71
                  cases hF
                · have hF := tc_if hF c71
                  refine lv_aload_n hx hb dL_law_216 rfl (lv_at hl 9 rfl) ?_
                  refine lv_iconst (v := 4) hx hb dL_law_217 (by decide) ?_
                  obtain ⟨r72, h73, hF⟩ := tc_bi hF
                  have h73 := tc_rdx h73
                  refine tc_cx (vx_runV (As := [.int 4]) (rest := []) ⟨hx, hb, hml, hown, hts⟩ (mt_X2_count l hst D cU cO cI e0 (tc_A1 A49 F62 z59) E61 x58 4 0 r72 h73) (cwV 1 hts gL_law_X2_count rfl rfl rfl (by decide +kernel) ⟨Nat.le_of_ble_eq_true rfl, Nat.le_of_ble_eq_true rfl⟩) ⟨fun a U g mk q => ⟨q.1, q.2.1, q.2.2.call⟩, tc_rcv hW.1.o hK rfl, fun U hU hW9 => ⟨rfl, by rw [hU]; exact hW.1, ((hKX.go hS hU hW9).narrow (fun z9 h9 => hA38A _ (hA49A _ (h9.1))) (by rw [hU]; exact hW.newA (fun z9 h9 => by rw [eA49, eA38]; exact ⟨⟨hAn z9 (Nat.le_trans hS.1 h9), (fun h8 => absurd et_q35.lt (Nat.not_lt.mpr (by rw [← h8]; exact h9)))⟩, (fun h8 => absurd et_q45.lt (Nat.not_lt.mpr (by rw [← h8]; exact h9))), fun j hj h8 => absurd (er_q45 j hj).lt (Nat.not_lt.mpr (by rw [← h8]; exact h9))⟩)))⟩⟩ rfl rfl hl.1 rfl (lv_room (Nat.le_of_ble_eq_true rfl)) dL_law_218 ⟨(by show _ ≤ (600104 : Nat); omega), (by show _ ≤ (7301314 : Nat); omega)⟩) hS (fun z9 _ h9 => hA38A _ (hA49A _ (h9.1))) (fun z9 h9 => hA38A _ (hA49A _ (h9.1))) (fun z9 _ h9 => hA38A _ (hA49A _ (h9.1))) (fun ce q9 H locs c9 _ _ _ _ _ _ _ => absurd rfl c9) (fun H locs _ hB z1 o1 hS => ?_)
                  have et_q35 := et_q35.kept (o1 _ et_q35.lt (fun h9 => hx_q35 h9.1))
                  have et_q45 := et_q45.kept (o1 _ et_q45.lt (fun h9 => hx_q45 h9.1))
                  have er_q45 := fun j hj => (er_q45 j hj).kept (o1 _ (er_q45 j hj).lt (fun h9 => hxr_q45 j hj h9.1))
                  have hW := hW.afterC hB o1
                  refine lv_iload hx hb dL_law_221 (lv_at hl 2 rfl) ?_
                  refine lv_icmp_lt (tgt := 238) hx hb dL_law_223 (by decide) (fun c74 => ?_) (fun c74 => ?_)
                  · have hF := tc_it hF c74
                    cases hF
                  · have hF := tc_if hF c74
                    refine lv_aload_n hx hb dL_law_226 rfl (lv_at hl 9 rfl) ?_
                    refine lv_iconst (v := 4) hx hb dL_law_227 (by decide) ?_
                    obtain ⟨r75, h76, hF⟩ := tc_bi hF
                    have h76 := tc_rdx h76
                    refine tc_cx (vx_runV (As := [.int 4]) (rest := []) ⟨hx, hb, hml, hown, hts⟩ (mt_X2_count l hst D cU cO cI e0 (tc_A1 A49 F62 z59) E61 x58 4 0 r75 h76) (cwV 1 hts gL_law_X2_count rfl rfl rfl (by decide +kernel) ⟨Nat.le_of_ble_eq_true rfl, Nat.le_of_ble_eq_true rfl⟩) ⟨fun a U g mk q => ⟨q.1, q.2.1, q.2.2.call⟩, tc_rcv hW.1.o hK rfl, fun U hU hW9 => ⟨rfl, by rw [hU]; exact hW.1, ((hKX.go hS hU hW9).narrow (fun z9 h9 => hA38A _ (hA49A _ (h9.1))) (by rw [hU]; exact hW.newA (fun z9 h9 => by rw [eA49, eA38]; exact ⟨⟨hAn z9 (Nat.le_trans hS.1 h9), (fun h8 => absurd et_q35.lt (Nat.not_lt.mpr (by rw [← h8]; exact h9)))⟩, (fun h8 => absurd et_q45.lt (Nat.not_lt.mpr (by rw [← h8]; exact h9))), fun j hj h8 => absurd (er_q45 j hj).lt (Nat.not_lt.mpr (by rw [← h8]; exact h9))⟩)))⟩⟩ rfl rfl hl.1 rfl (lv_room (Nat.le_of_ble_eq_true rfl)) dL_law_228 ⟨(by show _ ≤ (600104 : Nat); omega), (by show _ ≤ (7301314 : Nat); omega)⟩) hS (fun z9 _ h9 => hA38A _ (hA49A _ (h9.1))) (fun z9 h9 => hA38A _ (hA49A _ (h9.1))) (fun z9 _ h9 => hA38A _ (hA49A _ (h9.1))) (fun ce q9 H locs c9 _ _ _ _ _ _ _ => absurd rfl c9) (fun H locs _ hB z1 o1 hS => ?_)
                    have et_q35 := et_q35.kept (o1 _ et_q35.lt (fun h9 => hx_q35 h9.1))
                    have et_q45 := et_q45.kept (o1 _ et_q45.lt (fun h9 => hx_q45 h9.1))
                    have er_q45 := fun j hj => (er_q45 j hj).kept (o1 _ (er_q45 j hj).lt (fun h9 => hxr_q45 j hj h9.1))
                    have hW := hW.afterC hB o1
                    refine lv_iload hx hb dL_law_231 (lv_at hl 2 rfl) ?_
                    refine lv_iconst (v := 1) hx hb dL_law_233 (by decide) ?_
                    refine lv_iadd hx hb dL_law_234 ?_
                    refine lv_icmp_le (tgt := 240) hx hb dL_law_235 (by decide) (fun c77 => ?_) (fun c77 => ?_)
                    · have hF := tc_it hF c77
                      refine lv_iconst (v := 0) hx hb dL_law_240 (by decide) ?_
                      refine lv_istore (lv' := [(11, .int 0), (10, .ref q45), (9, .ref q35), (8, .int r33), (7, .int r31), (6, .int r29), (5, .int r27), (4, .int v26), (3, .int w18), (2, .ref (F62 0)), (1, .ref (E61 0)), (0, .ref b)]) hx hb dL_law_241 hl (by decide) rfl (fun ls hl => ?_)
                      obtain ⟨kc81, ekc81, hF⟩ := tc_jx hF
                      have Jkc81 : ∀  (E79 F80 : Nat → Nat) (H : Heap) (locs : List Loc) (ls : Array Slot), kc81  = some 1 → lv_has ls 24 [(10, .ref q45), (6, .int r29), (4, .int v26), (3, .int w18), (2, .ref (F80 0)), (1, .ref (E79 0)), (0, .ref b)] → tc_WL D cU cO cI cII cZ e0 A49 E79 F80 x58 z59 H → E79 0 = E 0 ∧ F80 0 = F 0 → va_at D vwCl (q35, .inl (cZ, r27.toNatClampNeg, .inl u41)) H → va_at D vwCl (q45, .inl (cII, r29.toNatClampNeg, .inr (.inr (.inr (.inr (fun j => some (r46 j))))))) H → (∀ j, j < r29.toNatClampNeg → va_at D vwCl (r46 j, .inl (cI, 9, .inl (u52 j))) H) → va_S A s.heap H locs → W p l e room_1 s m #[Value.ref b] below meth c H locs ((211) + (61 - (n_24 + 1)) * 1434 + 223) ((5079) + (61 - (n_24 + 1)) * 8777 + 1511) QQ (F0 m 277 ls []) := by
                        intro  E79 F80 H locs ls hF hl hW hEF et_q35 et_q45 er_q45 hS
                        rw [ekc81] at hF
                        refine lv_iconst (v := 0) hx hb dL_law_277 (by decide) ?_
                        refine lv_istore (lv' := [(11, .int 0), (10, .ref q45), (6, .int r29), (4, .int v26), (3, .int w18), (2, .ref (F80 0)), (1, .ref (E79 0)), (0, .ref b)]) hx hb dL_law_278 hl (by decide) rfl (fun ls hl => ?_)
                        refine lv_iconst (v := 0) hx hb dL_law_280 (by decide) ?_
                        refine lv_istore (lv' := [(12, .int 0), (11, .int 0), (10, .ref q45), (6, .int r29), (4, .int v26), (3, .int w18), (2, .ref (F80 0)), (1, .ref (E79 0)), (0, .ref b)]) hx hb dL_law_281 hl (by decide) rfl (fun ls hl => ?_)
                        obtain ⟨kc87, ekc87, hF⟩ := tc_jx hF
                        have Jkc87 : ∀ (w84 : Int32) (E85 F86 : Nat → Nat) (H : Heap) (locs : List Loc) (ls : Array Slot), kc87 w84 = some 1 → lv_has ls 24 [(11, .int w84), (4, .int v26), (3, .int w18), (2, .ref (F86 0)), (1, .ref (E85 0)), (0, .ref b)] → tc_WL D cU cO cI cII cZ e0 A49 E85 F86 x58 z59 H → E85 0 = E 0 ∧ F86 0 = F 0 → va_at D vwCl (q35, .inl (cZ, r27.toNatClampNeg, .inl u41)) H → va_at D vwCl (q45, .inl (cII, r29.toNatClampNeg, .inr (.inr (.inr (.inr (fun j => some (r46 j))))))) H → (∀ j, j < r29.toNatClampNeg → va_at D vwCl (r46 j, .inl (cI, 9, .inl (u52 j))) H) → va_S A s.heap H locs → W p l e room_1 s m #[Value.ref b] below meth c H locs ((211) + (61 - (n_24 + 1)) * 1434 + 439) ((5079) + (61 - (n_24 + 1)) * 8777 + 2807) QQ (F0 m 495 ls []) := by
                          intro w84 E85 F86 H locs ls hF hl hW hEF et_q35 et_q45 er_q45 hS
                          rw [ekc87] at hF
                          dsimp only at hF
                          refine lv_iload hx hb dL_law_495 (lv_at hl 0 rfl) ?_
                          refine lv_iconst (v := 1) hx hb dL_law_497 (by decide) ?_
                          refine lv_icmp_le (tgt := 503) hx hb dL_law_498 (by decide) (fun c88 => ?_) (fun c88 => ?_)
                          · have hF := tc_it hF c88
                            refine lv_aload_n hx hb dL_law_503 rfl (lv_at hl 4 rfl) ?_
                            refine lv_iconst (v := 5) hx hb dL_law_504 (by decide) ?_
                            obtain ⟨r89, h90, hF⟩ := tc_bi hF
                            have h90 := tc_rdx h90
                            refine tc_cx (vx_runV (As := [.int 5]) (rest := []) ⟨hx, hb, hml, hown, hts⟩ (mt_X2_count l hst D cU cO cI e0 (tc_A1 A49 F86 z59) E85 x58 5 0 r89 h90) (cwV 1 hts gL_law_X2_count rfl rfl rfl (by decide +kernel) ⟨Nat.le_of_ble_eq_true rfl, Nat.le_of_ble_eq_true rfl⟩) ⟨fun a U g mk q => ⟨q.1, q.2.1, q.2.2.call⟩, tc_rcv hW.1.o hK rfl, fun U hU hW9 => ⟨rfl, by rw [hU]; exact hW.1, ((hKX.go hS hU hW9).narrow (fun z9 h9 => hA38A _ (hA49A _ (h9.1))) (by rw [hU]; exact hW.newA (fun z9 h9 => by rw [eA49, eA38]; exact ⟨⟨hAn z9 (Nat.le_trans hS.1 h9), (fun h8 => absurd et_q35.lt (Nat.not_lt.mpr (by rw [← h8]; exact h9)))⟩, (fun h8 => absurd et_q45.lt (Nat.not_lt.mpr (by rw [← h8]; exact h9))), fun j hj h8 => absurd (er_q45 j hj).lt (Nat.not_lt.mpr (by rw [← h8]; exact h9))⟩)))⟩⟩ rfl rfl hl.1 rfl (lv_room (Nat.le_of_ble_eq_true rfl)) dL_law_505 ⟨(by show _ ≤ (600104 : Nat); omega), (by show _ ≤ (7301314 : Nat); omega)⟩) hS (fun z9 _ h9 => hA38A _ (hA49A _ (h9.1))) (fun z9 h9 => hA38A _ (hA49A _ (h9.1))) (fun z9 _ h9 => hA38A _ (hA49A _ (h9.1))) (fun ce q9 H locs c9 _ _ _ _ _ _ _ => absurd rfl c9) (fun H locs _ hB z1 o1 hS => ?_)
                            have et_q35 := et_q35.kept (o1 _ et_q35.lt (fun h9 => hx_q35 h9.1))
                            have et_q45 := et_q45.kept (o1 _ et_q45.lt (fun h9 => hx_q45 h9.1))
                            have er_q45 := fun j hj => (er_q45 j hj).kept (o1 _ (er_q45 j hj).lt (fun h9 => hxr_q45 j hj h9.1))
                            have hW := hW.afterC hB o1
                            refine lv_istore (lv' := [(6, .int r89), (11, .int w84), (4, .int v26), (3, .int w18), (2, .ref (F86 0)), (1, .ref (E85 0)), (0, .ref b)]) hx hb dL_law_508 hl (by decide) rfl (fun ls hl => ?_)
                            refine lv_aload_n hx hb dL_law_510 rfl (lv_at hl 5 rfl) ?_
                            refine lv_iconst (v := 1) hx hb dL_law_511 (by decide) ?_
                            obtain ⟨r91, h92, hF⟩ := tc_bi hF
                            have h92 := tc_rdx h92
                            refine tc_cx (vx_runV (As := [.int 1]) (rest := []) ⟨hx, hb, hml, hown, hts⟩ (mt_X2_count l hst D cU cO cI e0 (tc_A1 A49 F86 z59) E85 x58 1 0 r91 h92) (cwV 1 hts gL_law_X2_count rfl rfl rfl (by decide +kernel) ⟨Nat.le_of_ble_eq_true rfl, Nat.le_of_ble_eq_true rfl⟩) ⟨fun a U g mk q => ⟨q.1, q.2.1, q.2.2.call⟩, tc_rcv hW.1.o hK rfl, fun U hU hW9 => ⟨rfl, by rw [hU]; exact hW.1, ((hKX.go hS hU hW9).narrow (fun z9 h9 => hA38A _ (hA49A _ (h9.1))) (by rw [hU]; exact hW.newA (fun z9 h9 => by rw [eA49, eA38]; exact ⟨⟨hAn z9 (Nat.le_trans hS.1 h9), (fun h8 => absurd et_q35.lt (Nat.not_lt.mpr (by rw [← h8]; exact h9)))⟩, (fun h8 => absurd et_q45.lt (Nat.not_lt.mpr (by rw [← h8]; exact h9))), fun j hj h8 => absurd (er_q45 j hj).lt (Nat.not_lt.mpr (by rw [← h8]; exact h9))⟩)))⟩⟩ rfl rfl hl.1 rfl (lv_room (Nat.le_of_ble_eq_true rfl)) dL_law_512 ⟨(by show _ ≤ (600104 : Nat); omega), (by show _ ≤ (7301314 : Nat); omega)⟩) hS (fun z9 _ h9 => hA38A _ (hA49A _ (h9.1))) (fun z9 h9 => hA38A _ (hA49A _ (h9.1))) (fun z9 _ h9 => hA38A _ (hA49A _ (h9.1))) (fun ce q9 H locs c9 _ _ _ _ _ _ _ => absurd rfl c9) (fun H locs _ hB z1 o1 hS => ?_)
                            have et_q35 := et_q35.kept (o1 _ et_q35.lt (fun h9 => hx_q35 h9.1))
                            have et_q45 := et_q45.kept (o1 _ et_q45.lt (fun h9 => hx_q45 h9.1))
                            have er_q45 := fun j hj => (er_q45 j hj).kept (o1 _ (er_q45 j hj).lt (fun h9 => hxr_q45 j hj h9.1))
                            have hW := hW.afterC hB o1
                            refine lv_istore (lv' := [(5, .int r91), (6, .int r89), (11, .int w84), (4, .int v26), (3, .int w18), (2, .ref (F86 0)), (1, .ref (E85 0)), (0, .ref b)]) hx hb dL_law_515 hl (by decide) rfl (fun ls hl => ?_)
                            refine lv_iconst (v := 0) hx hb dL_law_517 (by decide) ?_
                            refine lv_istore (lv' := [(12, .int 0), (5, .int r91), (6, .int r89), (11, .int w84), (4, .int v26), (3, .int w18), (2, .ref (F86 0)), (1, .ref (E85 0)), (0, .ref b)]) hx hb dL_law_518 hl (by decide) rfl (fun ls hl => ?_)
                            refine lv_iconst (v := 0) hx hb dL_law_520 (by decide) ?_
                            refine lv_istore (lv' := [(13, .int 0), (12, .int 0), (5, .int r91), (6, .int r89), (11, .int w84), (4, .int v26), (3, .int w18), (2, .ref (F86 0)), (1, .ref (E85 0)), (0, .ref b)]) hx hb dL_law_521 hl (by decide) rfl (fun ls hl => ?_)
                            refine lv_iconst (v := 0) hx hb dL_law_523 (by decide) ?_
                            refine lv_istore (lv' := [(14, .int 0), (13, .int 0), (12, .int 0), (5, .int r91), (6, .int r89), (11, .int w84), (4, .int v26), (3, .int w18), (2, .ref (F86 0)), (1, .ref (E85 0)), (0, .ref b)]) hx hb dL_law_524 hl (by decide) rfl (fun ls hl => ?_)
                            obtain ⟨kc100, ekc100, hF⟩ := tc_jx hF
                            have Jkc100 : ∀ (w96 : Int32) (w97 : Int32) (E98 F99 : Nat → Nat) (H : Heap) (locs : List Loc) (ls : Array Slot), kc100 w96 w97 = some 1 → lv_has ls 24 [(13, .int w96), (12, .int w97), (6, .int r89), (5, .int r91), (4, .int v26), (3, .int w18), (2, .ref (F99 0)), (1, .ref (E98 0)), (0, .ref b)] → tc_WL D cU cO cI cII cZ e0 A49 E98 F99 x58 z59 H → E98 0 = E 0 ∧ F99 0 = F 0 → va_at D vwCl (q35, .inl (cZ, r27.toNatClampNeg, .inl u41)) H → va_at D vwCl (q45, .inl (cII, r29.toNatClampNeg, .inr (.inr (.inr (.inr (fun j => some (r46 j))))))) H → (∀ j, j < r29.toNatClampNeg → va_at D vwCl (r46 j, .inl (cI, 9, .inl (u52 j))) H) → va_S A s.heap H locs → W p l e room_1 s m #[Value.ref b] below meth c H locs ((211) + (61 - (n_24 + 1)) * 1434 + 933) ((5079) + (61 - (n_24 + 1)) * 8777 + 5771) QQ (F0 m 721 ls []) := by
                              intro w96 w97 E98 F99 H locs ls hF hl hW hEF et_q35 et_q45 er_q45 hS
                              rw [ekc100] at hF
                              dsimp only at hF
                              refine lv_iconst (v := 0) hx hb dL_law_721 (by decide) ?_
                              refine lv_istore (lv' := [(14, .int 0), (13, .int w96), (12, .int w97), (6, .int r89), (5, .int r91), (4, .int v26), (3, .int w18), (2, .ref (F99 0)), (1, .ref (E98 0)), (0, .ref b)]) hx hb dL_law_722 hl (by decide) rfl (fun ls hl => ?_)
                              refine lv_iconst (v := 0) hx hb dL_law_724 (by decide) ?_
                              refine lv_istore (lv' := [(15, .int 0), (14, .int 0), (13, .int w96), (12, .int w97), (6, .int r89), (5, .int r91), (4, .int v26), (3, .int w18), (2, .ref (F99 0)), (1, .ref (E98 0)), (0, .ref b)]) hx hb dL_law_725 hl (by decide) rfl (fun ls hl => ?_)
                              refine lv_iconst (v := 0) hx hb dL_law_727 (by decide) ?_
                              refine lv_istore (lv' := [(16, .int 0), (15, .int 0), (14, .int 0), (13, .int w96), (12, .int w97), (6, .int r89), (5, .int r91), (4, .int v26), (3, .int w18), (2, .ref (F99 0)), (1, .ref (E98 0)), (0, .ref b)]) hx hb dL_law_728 hl (by decide) rfl (fun ls hl => ?_)
                              obtain ⟨kc108, ekc108, hF⟩ := tc_jx hF
                              have Jkc108 : ∀ (w104 : Int32) (w105 : Int32) (E106 F107 : Nat → Nat) (H : Heap) (locs : List Loc) (ls : Array Slot), kc108 w104 w105 = some 1 → lv_has ls 24 [(15, .int w104), (14, .int w105), (13, .int w96), (12, .int w97), (6, .int r89), (5, .int r91), (4, .int v26), (3, .int w18), (2, .ref (F107 0)), (1, .ref (E106 0)), (0, .ref b)] → tc_WL D cU cO cI cII cZ e0 A49 E106 F107 x58 z59 H → E106 0 = E 0 ∧ F107 0 = F 0 → va_at D vwCl (q35, .inl (cZ, r27.toNatClampNeg, .inl u41)) H → va_at D vwCl (q45, .inl (cII, r29.toNatClampNeg, .inr (.inr (.inr (.inr (fun j => some (r46 j))))))) H → (∀ j, j < r29.toNatClampNeg → va_at D vwCl (r46 j, .inl (cI, 9, .inl (u52 j))) H) → va_S A s.heap H locs → W p l e room_1 s m #[Value.ref b] below meth c H locs ((211) + (61 - (n_24 + 1)) * 1434 + 1222) ((5079) + (61 - (n_24 + 1)) * 8777 + 7505) QQ (F0 m 863 ls []) := by
                                intro w104 w105 E106 F107 H locs ls hF hl hW hEF et_q35 et_q45 er_q45 hS
                                rw [ekc108] at hF
                                dsimp only at hF
                                refine lv_iload hx hb dL_law_863 (lv_at hl 1 rfl) ?_
                                refine lv_iload hx hb dL_law_865 (lv_at hl 3 rfl) ?_
                                refine lv_icmp_ne (tgt := 913) hx hb dL_law_867 (by decide) (fun c109 => ?_) (fun c109 => ?_)
                                · have hF := tc_if hF c109
                                  cases hF
                                · have hF := tc_it hF c109
                                  refine lv_iload hx hb dL_law_870 (lv_at hl 0 rfl) ?_
                                  refine lv_iload hx hb dL_law_872 (lv_at hl 4 rfl) ?_
                                  refine lv_icmp_ne (tgt := 913) hx hb dL_law_874 (by decide) (fun c110 => ?_) (fun c110 => ?_)
                                  · have hF := tc_if hF c110
                                    cases hF
                                  · have hF := tc_it hF c110
                                    refine lv_aload_n hx hb dL_law_877 rfl (lv_at hl 9 rfl) ?_
                                    refine lv_iconst (v := 2) hx hb dL_law_878 (by decide) ?_
                                    obtain ⟨r111, h112, hF⟩ := tc_bi hF
                                    have h112 := tc_rdx h112
                                    refine tc_cx (vx_runV (As := [.int 2]) (rest := []) ⟨hx, hb, hml, hown, hts⟩ (mt_X2_count l hst D cU cO cI e0 (tc_A1 A49 F107 z59) E106 x58 2 0 r111 h112) (cwV 1 hts gL_law_X2_count rfl rfl rfl (by decide +kernel) ⟨Nat.le_of_ble_eq_true rfl, Nat.le_of_ble_eq_true rfl⟩) ⟨fun a U g mk q => ⟨q.1, q.2.1, q.2.2.call⟩, tc_rcv hW.1.o hK rfl, fun U hU hW9 => ⟨rfl, by rw [hU]; exact hW.1, ((hKX.go hS hU hW9).narrow (fun z9 h9 => hA38A _ (hA49A _ (h9.1))) (by rw [hU]; exact hW.newA (fun z9 h9 => by rw [eA49, eA38]; exact ⟨⟨hAn z9 (Nat.le_trans hS.1 h9), (fun h8 => absurd et_q35.lt (Nat.not_lt.mpr (by rw [← h8]; exact h9)))⟩, (fun h8 => absurd et_q45.lt (Nat.not_lt.mpr (by rw [← h8]; exact h9))), fun j hj h8 => absurd (er_q45 j hj).lt (Nat.not_lt.mpr (by rw [← h8]; exact h9))⟩)))⟩⟩ rfl rfl hl.1 rfl (lv_room (Nat.le_of_ble_eq_true rfl)) dL_law_879 ⟨(by show _ ≤ (600104 : Nat); omega), (by show _ ≤ (7301314 : Nat); omega)⟩) hS (fun z9 _ h9 => hA38A _ (hA49A _ (h9.1))) (fun z9 h9 => hA38A _ (hA49A _ (h9.1))) (fun z9 _ h9 => hA38A _ (hA49A _ (h9.1))) (fun ce q9 H locs c9 _ _ _ _ _ _ _ => absurd rfl c9) (fun H locs _ hB z1 o1 hS => ?_)
                                    have et_q35 := et_q35.kept (o1 _ et_q35.lt (fun h9 => hx_q35 h9.1))
                                    have et_q45 := et_q45.kept (o1 _ et_q45.lt (fun h9 => hx_q45 h9.1))
                                    have er_q45 := fun j hj => (er_q45 j hj).kept (o1 _ (er_q45 j hj).lt (fun h9 => hxr_q45 j hj h9.1))
                                    have hW := hW.afterC hB o1
                                    refine lv_iload hx hb dL_law_882 (lv_at hl 3 rfl) ?_
                                    refine lv_icmp_ne (tgt := 913) hx hb dL_law_884 (by decide) (fun c113 => ?_) (fun c113 => ?_)
                                    · have hF := tc_if hF c113
                                      cases hF
                                    · have hF := tc_it hF c113
                                      refine lv_aload_n hx hb dL_law_887 rfl (lv_at hl 9 rfl) ?_
                                      refine lv_iconst (v := 3) hx hb dL_law_888 (by decide) ?_
                                      obtain ⟨r114, h115, hF⟩ := tc_bi hF
                                      have h115 := tc_rdx h115
                                      refine tc_cx (vx_runV (As := [.int 3]) (rest := []) ⟨hx, hb, hml, hown, hts⟩ (mt_X2_count l hst D cU cO cI e0 (tc_A1 A49 F107 z59) E106 x58 3 0 r114 h115) (cwV 1 hts gL_law_X2_count rfl rfl rfl (by decide +kernel) ⟨Nat.le_of_ble_eq_true rfl, Nat.le_of_ble_eq_true rfl⟩) ⟨fun a U g mk q => ⟨q.1, q.2.1, q.2.2.call⟩, tc_rcv hW.1.o hK rfl, fun U hU hW9 => ⟨rfl, by rw [hU]; exact hW.1, ((hKX.go hS hU hW9).narrow (fun z9 h9 => hA38A _ (hA49A _ (h9.1))) (by rw [hU]; exact hW.newA (fun z9 h9 => by rw [eA49, eA38]; exact ⟨⟨hAn z9 (Nat.le_trans hS.1 h9), (fun h8 => absurd et_q35.lt (Nat.not_lt.mpr (by rw [← h8]; exact h9)))⟩, (fun h8 => absurd et_q45.lt (Nat.not_lt.mpr (by rw [← h8]; exact h9))), fun j hj h8 => absurd (er_q45 j hj).lt (Nat.not_lt.mpr (by rw [← h8]; exact h9))⟩)))⟩⟩ rfl rfl hl.1 rfl (lv_room (Nat.le_of_ble_eq_true rfl)) dL_law_889 ⟨(by show _ ≤ (600104 : Nat); omega), (by show _ ≤ (7301314 : Nat); omega)⟩) hS (fun z9 _ h9 => hA38A _ (hA49A _ (h9.1))) (fun z9 h9 => hA38A _ (hA49A _ (h9.1))) (fun z9 _ h9 => hA38A _ (hA49A _ (h9.1))) (fun ce q9 H locs c9 _ _ _ _ _ _ _ => absurd rfl c9) (fun H locs _ hB z1 o1 hS => ?_)
                                      have et_q35 := et_q35.kept (o1 _ et_q35.lt (fun h9 => hx_q35 h9.1))
                                      have et_q45 := et_q45.kept (o1 _ et_q45.lt (fun h9 => hx_q45 h9.1))
                                      have er_q45 := fun j hj => (er_q45 j hj).kept (o1 _ (er_q45 j hj).lt (fun h9 => hxr_q45 j hj h9.1))
                                      have hW := hW.afterC hB o1
                                      refine lv_iload hx hb dL_law_892 (lv_at hl 2 rfl) ?_
                                      refine lv_icmp_ne (tgt := 913) hx hb dL_law_894 (by decide) (fun c116 => ?_) (fun c116 => ?_)
                                      · have hF := tc_if hF c116
                                        cases hF
                                      · have hF := tc_it hF c116
                                        refine lv_iload hx hb dL_law_897 (lv_at hl 3 rfl) ?_
                                        refine lv_iload hx hb dL_law_899 (lv_at hl 2 rfl) ?_
                                        refine lv_iadd hx hb dL_law_901 ?_
                                        refine lv_aload_n hx hb dL_law_902 rfl (lv_at hl 9 rfl) ?_
                                        refine lv_iconst (v := 4) hx hb dL_law_903 (by decide) ?_
                                        obtain ⟨r117, h118, hF⟩ := tc_bi hF
                                        have h118 := tc_rdx h118
                                        refine tc_cx (vx_runV (As := [.int 4]) (rest := [.int (w97 + w96)]) ⟨hx, hb, hml, hown, hts⟩ (mt_X2_count l hst D cU cO cI e0 (tc_A1 A49 F107 z59) E106 x58 4 0 r117 h118) (cwV 1 hts gL_law_X2_count rfl rfl rfl (by decide +kernel) ⟨Nat.le_of_ble_eq_true rfl, Nat.le_of_ble_eq_true rfl⟩) ⟨fun a U g mk q => ⟨q.1, q.2.1, q.2.2.call⟩, tc_rcv hW.1.o hK rfl, fun U hU hW9 => ⟨rfl, by rw [hU]; exact hW.1, ((hKX.go hS hU hW9).narrow (fun z9 h9 => hA38A _ (hA49A _ (h9.1))) (by rw [hU]; exact hW.newA (fun z9 h9 => by rw [eA49, eA38]; exact ⟨⟨hAn z9 (Nat.le_trans hS.1 h9), (fun h8 => absurd et_q35.lt (Nat.not_lt.mpr (by rw [← h8]; exact h9)))⟩, (fun h8 => absurd et_q45.lt (Nat.not_lt.mpr (by rw [← h8]; exact h9))), fun j hj h8 => absurd (er_q45 j hj).lt (Nat.not_lt.mpr (by rw [← h8]; exact h9))⟩)))⟩⟩ rfl rfl hl.1 rfl (lv_room (Nat.le_of_ble_eq_true rfl)) dL_law_904 ⟨(by show _ ≤ (600104 : Nat); omega), (by show _ ≤ (7301314 : Nat); omega)⟩) hS (fun z9 _ h9 => hA38A _ (hA49A _ (h9.1))) (fun z9 h9 => hA38A _ (hA49A _ (h9.1))) (fun z9 _ h9 => hA38A _ (hA49A _ (h9.1))) (fun ce q9 H locs c9 _ _ _ _ _ _ _ => absurd rfl c9) (fun H locs _ hB z1 o1 hS => ?_)
                                        have et_q35 := et_q35.kept (o1 _ et_q35.lt (fun h9 => hx_q35 h9.1))
                                        have et_q45 := et_q45.kept (o1 _ et_q45.lt (fun h9 => hx_q45 h9.1))
                                        have er_q45 := fun j hj => (er_q45 j hj).kept (o1 _ (er_q45 j hj).lt (fun h9 => hxr_q45 j hj h9.1))
                                        have hW := hW.afterC hB o1
                                        refine lv_iadd hx hb dL_law_907 ?_
                                        refine lv_iload hx hb dL_law_908 (lv_at hl 5 rfl) ?_
                                        refine lv_icmp_eq (tgt := 915) hx hb dL_law_910 (by decide) (fun c119 => ?_) (fun c119 => ?_)
                                        · have hF := tc_it hF c119
                                          refine lv_aload_n hx hb dL_law_915 rfl (lv_at hl 9 rfl) ?_
                                          obtain ⟨r120, h121, hF⟩ := tc_bi hF
                                          refine tc_cr (W.runV (As := []) (rest := []) ⟨hx, hb, hml, hown, hts⟩ (mt_X2_digest l D cU cO cI e0 (tc_A1 A49 F107 z59) E106 x58 r120 h121) (cwV 0 hts gL_law_X2_digest rfl rfl rfl (by decide +kernel) ⟨Nat.le_of_ble_eq_true rfl, Nat.le_of_ble_eq_true rfl⟩) ⟨fun a U g mk q => ⟨q.1, q.2.1, q.2.2.call⟩, tc_rcv hW.1.o hK rfl, fun U hU hW9 => ⟨rfl, by rw [hU]; exact hW.1, hKX.1.warm hW9⟩⟩ rfl rfl hl.1 rfl (lv_room (Nat.le_of_ble_eq_true rfl)) dL_law_916 ⟨(by show _ ≤ (600104 : Nat); omega), (by show _ ≤ (7301314 : Nat); omega)⟩) ?_
                                          refine lv_lstore (lv' := [(16, .long r120), (15, .int w104), (14, .int w105), (13, .int w96), (12, .int w97), (6, .int r89), (5, .int r91), (4, .int v26), (3, .int w18), (2, .ref (F107 0)), (1, .ref (E106 0)), (0, .ref b)]) hx hb dL_law_919 hl (by decide) rfl (fun ls hl => ?_)
                                          refine lv_iload hx hb dL_law_921 (lv_at hl 7 rfl) ?_
                                          refine lv_iconst (v := 3) hx hb dL_law_923 (by decide) ?_
                                          refine lv_ishr hx hb dL_law_924 ?_
                                          refine lv_bipush (v := 16) hx hb dL_law_925 (by decide) ?_
                                          obtain ⟨r122, h123, hF⟩ := tc_bi hF
                                          refine tc_cr (W.runS (As := [.int (v26 >>> ((3 : Int32) &&& 31)), .int 16]) (rest := []) ⟨hx, hb, hml, hown, hts⟩ (mt_L_below l (v26 >>> ((3 : Int32) &&& 31)) 16 r122 h123) (va_cwS 2 hts gL_law_L_below rfl rfl rfl (by decide +kernel) ⟨Nat.le_of_ble_eq_true rfl, Nat.le_of_ble_eq_true rfl⟩) ⟨fun a U g mk q => q, fun U hU hW9 => ⟨rfl, trivial⟩⟩ rfl rfl hl.1 rfl (lv_room (Nat.le_of_ble_eq_true rfl)) dL_law_927 ⟨(by show _ ≤ (600104 : Nat); omega), (by show _ ≤ (7301314 : Nat); omega)⟩) ?_
                                          refine lv_istore (lv' := [(18, .int r122), (16, .long r120), (15, .int w104), (14, .int w105), (13, .int w96), (12, .int w97), (6, .int r89), (5, .int r91), (4, .int v26), (3, .int w18), (2, .ref (F107 0)), (1, .ref (E106 0)), (0, .ref b)]) hx hb dL_law_930 hl (by decide) rfl (fun ls hl => ?_)
                                          refine lv_iconst (v := 3) hx hb dL_law_932 (by decide) ?_
                                          refine lv_iload hx hb dL_law_933 (lv_at hl 8 rfl) ?_
                                          refine lv_iconst (v := 5) hx hb dL_law_935 (by decide) ?_
                                          refine lv_ishr hx hb dL_law_936 ?_
                                          refine lv_bipush (v := 8) hx hb dL_law_937 (by decide) ?_
                                          obtain ⟨r124, h125, hF⟩ := tc_bi hF
                                          refine tc_cr (W.runS (As := [.int (v26 >>> ((5 : Int32) &&& 31)), .int 8]) (rest := [.int 3]) ⟨hx, hb, hml, hown, hts⟩ (mt_L_below l (v26 >>> ((5 : Int32) &&& 31)) 8 r124 h125) (va_cwS 2 hts gL_law_L_below rfl rfl rfl (by decide +kernel) ⟨Nat.le_of_ble_eq_true rfl, Nat.le_of_ble_eq_true rfl⟩) ⟨fun a U g mk q => q, fun U hU hW9 => ⟨rfl, trivial⟩⟩ rfl rfl hl.1 rfl (lv_room (Nat.le_of_ble_eq_true rfl)) dL_law_939 ⟨(by show _ ≤ (600104 : Nat); omega), (by show _ ≤ (7301314 : Nat); omega)⟩) ?_
                                          refine lv_iadd hx hb dL_law_942 ?_
                                          refine lv_topi (fun v126 ev126 => ?_)
                                          have hF := tc_lt hF ev126
                                          refine lv_istore (lv' := [(19, .int v126), (18, .int r122), (16, .long r120), (15, .int w104), (14, .int w105), (13, .int w96), (12, .int w97), (6, .int r89), (5, .int r91), (4, .int v26), (3, .int w18), (2, .ref (F107 0)), (1, .ref (E106 0)), (0, .ref b)]) hx hb dL_law_943 hl (by decide) rfl (fun ls hl => ?_)
                                          refine lv_aload_n hx hb dL_law_945 rfl (lv_at hl 12 rfl) ?_
                                          refine lv_iload hx hb dL_law_946 (lv_at hl 1 rfl) ?_
                                          refine lv_iload hx hb dL_law_948 (lv_at hl 0 rfl) ?_
                                          obtain ⟨r127, h128, hF⟩ := tc_bi hF
                                          have h128 := tc_rdx h128
                                          refine tc_cx (vx_runV (As := [.int r122, .int v126]) (rest := []) ⟨hx, hb, hml, hown, hts⟩ (mt_X2_best l hst D cU cO cI e0 (tc_A1 A49 F107 z59) E106 x58 r122 v126 0 r127 h128) (cwV 2 hts gL_law_X2_best rfl rfl rfl (by decide +kernel) ⟨Nat.le_of_ble_eq_true rfl, Nat.le_of_ble_eq_true rfl⟩) ⟨fun a U g mk q => ⟨q.1, q.2.1, q.2.2.call⟩, tc_rcv hW.1.o hK rfl, fun U hU hW9 => ⟨rfl, by rw [hU]; exact hW.1, ((hKX.go hS hU hW9).narrow (fun z9 h9 => hA38A _ (hA49A _ (h9.1))) (by rw [hU]; exact hW.newA (fun z9 h9 => by rw [eA49, eA38]; exact ⟨⟨hAn z9 (Nat.le_trans hS.1 h9), (fun h8 => absurd et_q35.lt (Nat.not_lt.mpr (by rw [← h8]; exact h9)))⟩, (fun h8 => absurd et_q45.lt (Nat.not_lt.mpr (by rw [← h8]; exact h9))), fun j hj h8 => absurd (er_q45 j hj).lt (Nat.not_lt.mpr (by rw [← h8]; exact h9))⟩)))⟩⟩ rfl rfl hl.1 rfl (lv_room (Nat.le_of_ble_eq_true rfl)) dL_law_950 ⟨(by show _ ≤ (600104 : Nat); omega), (by show _ ≤ (7301314 : Nat); omega)⟩) hS (fun z9 _ h9 => hA38A _ (hA49A _ (h9.1))) (fun z9 h9 => hA38A _ (hA49A _ (h9.1))) (fun z9 _ h9 => hA38A _ (hA49A _ (h9.1))) (fun ce q9 H locs c9 _ _ _ _ _ _ _ => absurd rfl c9) (fun H locs _ hB z1 o1 hS => ?_)
                                          have et_q35 := et_q35.kept (o1 _ et_q35.lt (fun h9 => hx_q35 h9.1))
                                          have et_q45 := et_q45.kept (o1 _ et_q45.lt (fun h9 => hx_q45 h9.1))
                                          have er_q45 := fun j hj => (er_q45 j hj).kept (o1 _ (er_q45 j hj).lt (fun h9 => hxr_q45 j hj h9.1))
                                          have hW := hW.afterC hB o1
                                          refine lv_istore (lv' := [(20, .int r127), (19, .int v126), (18, .int r122), (16, .long r120), (15, .int w104), (14, .int w105), (13, .int w96), (12, .int w97), (6, .int r89), (5, .int r91), (4, .int v26), (3, .int w18), (2, .ref (F107 0)), (1, .ref (E106 0)), (0, .ref b)]) hx hb dL_law_953 hl (by decide) rfl (fun ls hl => ?_)
                                          refine lv_iconst (v := 0) hx hb dL_law_955 (by decide) ?_
                                          refine lv_istore (lv' := [(21, .int 0), (20, .int r127), (19, .int v126), (18, .int r122), (16, .long r120), (15, .int w104), (14, .int w105), (13, .int w96), (12, .int w97), (6, .int r89), (5, .int r91), (4, .int v26), (3, .int w18), (2, .ref (F107 0)), (1, .ref (E106 0)), (0, .ref b)]) hx hb dL_law_956 hl (by decide) rfl (fun ls hl => ?_)
                                          obtain ⟨kc132, ekc132, hF⟩ := tc_jx hF
                                          have Jkc132 : ∀  (E130 F131 : Nat → Nat) (H : Heap) (locs : List Loc) (ls : Array Slot), kc132  = some 1 → lv_has ls 24 [(20, .int r127), (19, .int v126), (18, .int r122), (16, .long r120), (3, .int w18), (2, .ref (F131 0)), (1, .ref (E130 0)), (0, .ref b)] → tc_WL D cU cO cI cII cZ e0 A49 E130 F131 x58 z59 H → E130 0 = E 0 ∧ F131 0 = F 0 → va_at D vwCl (q35, .inl (cZ, r27.toNatClampNeg, .inl u41)) H → va_at D vwCl (q45, .inl (cII, r29.toNatClampNeg, .inr (.inr (.inr (.inr (fun j => some (r46 j))))))) H → (∀ j, j < r29.toNatClampNeg → va_at D vwCl (r46 j, .inl (cI, 9, .inl (u52 j))) H) → va_S A s.heap H locs → W p l e room_1 s m #[Value.ref b] below meth c H locs ((211) + (61 - (n_24 + 1)) * 1434 + 1431) ((5079) + (61 - (n_24 + 1)) * 8777 + 8759) QQ (F0 m 1184 ls []) := by
                                            intro  E130 F131 H locs ls hF hl hW hEF et_q35 et_q45 er_q45 hS
                                            rw [ekc132] at hF
                                            refine lv_iload hx hb dL_law_1184 (lv_at hl 0 rfl) ?_
                                            obtain ⟨kc135, ekc135, hF⟩ := tc_jx hF
                                            have Jkc135 : ∀  (E133 F134 : Nat → Nat) (H : Heap) (locs : List Loc) (ls : Array Slot), kc135  = some 1 → lv_has ls 24 [(16, .long r120), (3, .int w18), (2, .ref (F134 0)), (1, .ref (E133 0)), (0, .ref b)] → tc_WL D cU cO cI cII cZ e0 A49 E133 F134 x58 z59 H → E133 0 = E 0 ∧ F134 0 = F 0 → va_at D vwCl (q35, .inl (cZ, r27.toNatClampNeg, .inl u41)) H → va_at D vwCl (q45, .inl (cII, r29.toNatClampNeg, .inr (.inr (.inr (.inr (fun j => some (r46 j))))))) H → (∀ j, j < r29.toNatClampNeg → va_at D vwCl (r46 j, .inl (cI, 9, .inl (u52 j))) H) → va_S A s.heap H locs → W p l e room_1 s m #[Value.ref b] below meth c H locs ((211) + (61 - (n_24 + 1)) * 1434 + 1434) ((5079) + (61 - (n_24 + 1)) * 8777 + 8777) QQ (F0 m 1202 ls []) := by
                                              intro  E133 F134 H locs ls hF hl hW hEF et_q35 et_q45 er_q45 hS
                                              rw [ekc135] at hF
                                              refine lv_aload_n hx hb dL_law_1202 rfl (lv_at hl 3 rfl) ?_
                                              obtain ⟨r136, h137, hF⟩ := tc_bi hF
                                              refine tc_cr (W.runV (As := []) (rest := []) ⟨hx, hb, hml, hown, hts⟩ (mt_X2_digest l D cU cO cI e0 (tc_A1 A49 F134 z59) E133 x58 r136 h137) (cwV 0 hts gL_law_X2_digest rfl rfl rfl (by decide +kernel) ⟨Nat.le_of_ble_eq_true rfl, Nat.le_of_ble_eq_true rfl⟩) ⟨fun a U g mk q => ⟨q.1, q.2.1, q.2.2.call⟩, tc_rcv hW.1.o hK rfl, fun U hU hW9 => ⟨rfl, by rw [hU]; exact hW.1, hKX.1.warm hW9⟩⟩ rfl rfl hl.1 rfl (lv_room (Nat.le_of_ble_eq_true rfl)) dL_law_1203 ⟨(by show _ ≤ (600104 : Nat); omega), (by show _ ≤ (7301314 : Nat); omega)⟩) ?_
                                              refine lv_lload hx hb dL_law_1206 (lv_at hl 0 rfl) ?_
                                              refine W.lcmp hx hb dL_law_1208 ?_
                                              refine lv_if_eq (tgt := 1214) hx hb dL_law_1209 (by decide) (fun c138 => ?_) (fun c138 => ?_)
                                              · have hF := tc_it hF c138
                                                obtain ⟨v139, ev139⟩ : ∃ z9 : Int32, z9 = w18 + 1 := ⟨_, rfl⟩
                                                have hF := tc_lt hF ev139
                                                refine lv_iinc (v := v139) (lv' := [(3, .int v139), (16, .long r120), (2, .ref (F134 0)), (1, .ref (E133 0)), (0, .ref b)]) hx hb dL_law_1214 hl (k := 1) rfl (by rw [ev139]; rfl) (by decide) rfl (fun ls hl => ?_)
                                                refine lv_goto (tgt := 24) hx hb dL_law_1217 (by decide) ?_
                                                have hW := hW.up hA49A heA38
                                                have hW := hW.up hA38A heA
                                                refine W.widen (k := (211) + (61 - n_24) * 1434 + 0) (n := (5079) + (61 - n_24) * 8777 + 0) (by omega) (by omega) ?_
                                                exact ih_24 (Nat.le_of_succ_le hn_24) v139 x58 z59 E133 F134 _ _ _ hF (lv_sub hl [0, 2, 3, 4] rfl) hW hEF hS
                                              · have hF := tc_if hF c138
                                                cases hF
                                            refine lv_if_lt (tgt := 1202) hx hb dL_law_1186 (by decide) (fun c140 => ?_) (fun c140 => ?_)
                                            · have hF := tc_it hF c140
                                              refine W.widen (k := (211) + (61 - (n_24 + 1)) * 1434 + 1434) (n := (5079) + (61 - (n_24 + 1)) * 8777 + 8777) (by omega) (by omega) ?_
                                              exact Jkc135  E130 F131 _ _ _ hF (lv_sub hl [3, 4, 5, 6, 7] rfl) hW hEF et_q35 et_q45 er_q45 hS
                                            · have hF := tc_if hF c140
                                              refine lv_aload_n hx hb dL_law_1189 rfl (lv_at hl 6 rfl) ?_
                                              refine lv_iload hx hb dL_law_1190 (lv_at hl 0 rfl) ?_
                                              refine lv_iload hx hb dL_law_1192 (lv_at hl 2 rfl) ?_
                                              refine lv_iload hx hb dL_law_1194 (lv_at hl 1 rfl) ?_
                                              obtain ⟨r141, h142, hF⟩ := tc_bi hF
                                              have h142 := tc_rdx h142
                                              refine tc_cx (vx_runV (As := [.int r127, .int r122, .int v126]) (rest := []) ⟨hx, hb, hml, hown, hts⟩ (mt_X2_move l hst D cU cO cI e0 (tc_A1 A49 F131 z59) E130 x58 r127 r122 v126 0 r141 h142) (cwV 3 hts gL_law_X2_move rfl rfl rfl (by decide +kernel) ⟨Nat.le_of_ble_eq_true rfl, Nat.le_of_ble_eq_true rfl⟩) ⟨fun a U g mk q => ⟨q.1, q.2.1, q.2.2.call⟩, tc_rcv hW.1.o hK rfl, fun U hU hW9 => ⟨rfl, by rw [hU]; exact hW.1, ((hKX.go hS hU hW9).narrow (fun z9 h9 => hA38A _ (hA49A _ (h9.1))) (by rw [hU]; exact hW.newA (fun z9 h9 => by rw [eA49, eA38]; exact ⟨⟨hAn z9 (Nat.le_trans hS.1 h9), (fun h8 => absurd et_q35.lt (Nat.not_lt.mpr (by rw [← h8]; exact h9)))⟩, (fun h8 => absurd et_q45.lt (Nat.not_lt.mpr (by rw [← h8]; exact h9))), fun j hj h8 => absurd (er_q45 j hj).lt (Nat.not_lt.mpr (by rw [← h8]; exact h9))⟩)))⟩⟩ rfl rfl hl.1 rfl (lv_room (Nat.le_of_ble_eq_true rfl)) dL_law_1196 ⟨(by show _ ≤ (600104 : Nat); omega), (by show _ ≤ (7301314 : Nat); omega)⟩) hS (fun z9 _ h9 => hA38A _ (hA49A _ (h9.1))) (fun z9 h9 => hA38A _ (hA49A _ (h9.1))) (fun z9 _ h9 => hA38A _ (hA49A _ (h9.1))) (fun ce q9 H locs c9 _ _ _ _ _ _ _ => absurd rfl c9) (fun H locs _ hB z1 o1 hS => ?_)
                                              have et_q35 := et_q35.kept (o1 _ et_q35.lt (fun h9 => hx_q35 h9.1))
                                              have et_q45 := et_q45.kept (o1 _ et_q45.lt (fun h9 => hx_q45 h9.1))
                                              have er_q45 := fun j hj => (er_q45 j hj).kept (o1 _ (er_q45 j hj).lt (fun h9 => hxr_q45 j hj h9.1))
                                              have hW := hW.afterC hB o1
                                              refine lv_if_lt (tgt := 1212) hx hb dL_law_1199 (by decide) (fun c143 => ?_) (fun c143 => ?_)
                                              · have hF := tc_it hF c143
                                                cases hF
                                              · have hF := tc_if hF c143
                                                exact Jkc135  E130 F131 _ _ _ hF (lv_sub hl [3, 4, 5, 6, 7] rfl) hW hEF et_q35 et_q45 er_q45 hS
                                          have hL_958 : ∀ (n_958 : Nat) (hn_958 : n_958 ≤ 6) (w144 : Int32) (E145 F146 : Nat → Nat) (H : Heap) (locs : List Loc) (ls : Array Slot), lp_L_law_958 n_958 x58 r89 w97 r122 v126 r127 kc132 w144 = some 1 → lv_has ls 24 [(21, .int w144), (20, .int r127), (19, .int v126), (18, .int r122), (16, .long r120), (12, .int w97), (6, .int r89), (3, .int w18), (2, .ref (F146 0)), (1, .ref (E145 0)), (0, .ref b)] → tc_WL D cU cO cI cII cZ e0 A49 E145 F146 x58 z59 H → E145 0 = E 0 ∧ F146 0 = F 0 → va_at D vwCl (q35, .inl (cZ, r27.toNatClampNeg, .inl u41)) H → va_at D vwCl (q45, .inl (cII, r29.toNatClampNeg, .inr (.inr (.inr (.inr (fun j => some (r46 j))))))) H → (∀ j, j < r29.toNatClampNeg → va_at D vwCl (r46 j, .inl (cI, 9, .inl (u52 j))) H) → va_S A s.heap H locs → W p l e room_1 s m #[Value.ref b] below meth c H locs (((211) + (61 - (n_24 + 1)) * 1434 + 1227) + (6 - n_958) * 34 + 0) (((5079) + (61 - (n_24 + 1)) * 8777 + 7535) + (6 - n_958) * 204 + 0) QQ (F0 m 958 ls []) := by
                                            intro n_958
                                            induction n_958 with
                                            | zero => intro _; intro w144 E145 F146 H locs ls hF hl hW hEF et_q35 et_q45 er_q45 hS; rw [lp_L_law_958] at hF; cases hF
                                            | succ n_958 ih_958 =>
                                              intro hn_958
                                              intro w144 E145 F146 H locs ls hF hl hW hEF et_q35 et_q45 er_q45 hS
                                              rw [lp_L_law_958] at hF
                                              refine lv_iload hx hb dL_law_958 (lv_at hl 0 rfl) ?_
                                              refine lv_iload hx hb dL_law_960 (lv_at hl 6 rfl) ?_
                                              refine lv_icmp_ge (tgt := 1184) hx hb dL_law_962 (by decide) (fun c147 => ?_) (fun c147 => ?_)
                                              · have hF := tc_it hF c147
                                                refine W.widen (k := (211) + (61 - (n_24 + 1)) * 1434 + 1431) (n := (5079) + (61 - (n_24 + 1)) * 8777 + 8759) (by omega) (by omega) ?_
                                                exact Jkc132  E145 F146 _ _ _ hF (lv_sub hl [1, 2, 3, 4, 7, 8, 9, 10] rfl) hW hEF et_q35 et_q45 er_q45 hS
                                              · have hF := tc_if hF c147
                                                refine lv_aload_n hx hb dL_law_965 rfl (lv_at hl 9 rfl) ?_
                                                refine lv_iload hx hb dL_law_966 (lv_at hl 0 rfl) ?_
                                                refine lv_iload hx hb dL_law_968 (lv_at hl 3 rfl) ?_
                                                refine lv_iload hx hb dL_law_970 (lv_at hl 2 rfl) ?_
                                                obtain ⟨r148, h149, hF⟩ := tc_bi hF
                                                have h149 := tc_rdx h149
                                                refine tc_cx (vx_runV (As := [.int w144, .int r122, .int v126]) (rest := []) ⟨hx, hb, hml, hown, hts⟩ (mt_X2_move l hst D cU cO cI e0 (tc_A1 A49 F146 z59) E145 x58 w144 r122 v126 0 r148 h149) (cwV 3 hts gL_law_X2_move rfl rfl rfl (by decide +kernel) ⟨Nat.le_of_ble_eq_true rfl, Nat.le_of_ble_eq_true rfl⟩) ⟨fun a U g mk q => ⟨q.1, q.2.1, q.2.2.call⟩, tc_rcv hW.1.o hK rfl, fun U hU hW9 => ⟨rfl, by rw [hU]; exact hW.1, ((hKX.go hS hU hW9).narrow (fun z9 h9 => hA38A _ (hA49A _ (h9.1))) (by rw [hU]; exact hW.newA (fun z9 h9 => by rw [eA49, eA38]; exact ⟨⟨hAn z9 (Nat.le_trans hS.1 h9), (fun h8 => absurd et_q35.lt (Nat.not_lt.mpr (by rw [← h8]; exact h9)))⟩, (fun h8 => absurd et_q45.lt (Nat.not_lt.mpr (by rw [← h8]; exact h9))), fun j hj h8 => absurd (er_q45 j hj).lt (Nat.not_lt.mpr (by rw [← h8]; exact h9))⟩)))⟩⟩ rfl rfl hl.1 rfl (lv_room (Nat.le_of_ble_eq_true rfl)) dL_law_972 ⟨(by show _ ≤ (600104 : Nat); omega), (by show _ ≤ (7301314 : Nat); omega)⟩) hS (fun z9 _ h9 => hA38A _ (hA49A _ (h9.1))) (fun z9 h9 => hA38A _ (hA49A _ (h9.1))) (fun z9 _ h9 => hA38A _ (hA49A _ (h9.1))) (fun ce q9 H locs c9 _ _ _ _ _ _ _ => absurd rfl c9) (fun H locs _ hB z1 o1 hS => ?_)
                                                have et_q35 := et_q35.kept (o1 _ et_q35.lt (fun h9 => hx_q35 h9.1))
                                                have et_q45 := et_q45.kept (o1 _ et_q45.lt (fun h9 => hx_q45 h9.1))
                                                have er_q45 := fun j hj => (er_q45 j hj).kept (o1 _ (er_q45 j hj).lt (fun h9 => hxr_q45 j hj h9.1))
                                                have hW := hW.afterC hB o1
                                                refine lv_istore (lv' := [(22, .int r148), (21, .int w144), (20, .int r127), (19, .int v126), (18, .int r122), (16, .long r120), (12, .int w97), (6, .int r89), (3, .int w18), (2, .ref (F146 0)), (1, .ref (E145 0)), (0, .ref b)]) hx hb dL_law_975 hl (by decide) rfl (fun ls hl => ?_)
                                                refine lv_aload_n hx hb dL_law_977 rfl (lv_at hl 10 rfl) ?_
                                                refine lv_iload hx hb dL_law_978 (lv_at hl 1 rfl) ?_
                                                refine lv_iconst (v := 5) hx hb dL_law_980 (by decide) ?_
                                                obtain ⟨r150, h151, hF⟩ := tc_bi hF
                                                have h151 := tc_rdx h151
                                                refine tc_cx (vx_runV (As := [.int w144, .int 5]) (rest := []) ⟨hx, hb, hml, hown, hts⟩ (mt_X2_crane l hst D cU cO cI e0 (tc_A1 A49 F146 z59) E145 x58 w144 5 0 r150 h151) (cwV 2 hts gL_law_X2_crane rfl rfl rfl (by decide +kernel) ⟨Nat.le_of_ble_eq_true rfl, Nat.le_of_ble_eq_true rfl⟩) ⟨fun a U g mk q => ⟨q.1, q.2.1, q.2.2.call⟩, tc_rcv hW.1.o hK rfl, fun U hU hW9 => ⟨rfl, by rw [hU]; exact hW.1, ((hKX.go hS hU hW9).narrow (fun z9 h9 => hA38A _ (hA49A _ (h9.1))) (by rw [hU]; exact hW.newA (fun z9 h9 => by rw [eA49, eA38]; exact ⟨⟨hAn z9 (Nat.le_trans hS.1 h9), (fun h8 => absurd et_q35.lt (Nat.not_lt.mpr (by rw [← h8]; exact h9)))⟩, (fun h8 => absurd et_q45.lt (Nat.not_lt.mpr (by rw [← h8]; exact h9))), fun j hj h8 => absurd (er_q45 j hj).lt (Nat.not_lt.mpr (by rw [← h8]; exact h9))⟩)))⟩⟩ rfl rfl hl.1 rfl (lv_room (Nat.le_of_ble_eq_true rfl)) dL_law_981 ⟨(by show _ ≤ (600104 : Nat); omega), (by show _ ≤ (7301314 : Nat); omega)⟩) hS (fun z9 _ h9 => hA38A _ (hA49A _ (h9.1))) (fun z9 h9 => hA38A _ (hA49A _ (h9.1))) (fun z9 _ h9 => hA38A _ (hA49A _ (h9.1))) (fun ce q9 H locs c9 _ _ _ _ _ _ _ => absurd rfl c9) (fun H locs _ hB z1 o1 hS => ?_)
                                                have et_q35 := et_q35.kept (o1 _ et_q35.lt (fun h9 => hx_q35 h9.1))
                                                have et_q45 := et_q45.kept (o1 _ et_q45.lt (fun h9 => hx_q45 h9.1))
                                                have er_q45 := fun j hj => (er_q45 j hj).kept (o1 _ (er_q45 j hj).lt (fun h9 => hxr_q45 j hj h9.1))
                                                have hW := hW.afterC hB o1
                                                refine lv_istore (lv' := [(23, .int r150), (22, .int r148), (21, .int w144), (20, .int r127), (19, .int v126), (18, .int r122), (16, .long r120), (12, .int w97), (6, .int r89), (3, .int w18), (2, .ref (F146 0)), (1, .ref (E145 0)), (0, .ref b)]) hx hb dL_law_984 hl (by decide) rfl (fun ls hl => ?_)
                                                refine lv_aload_n hx hb dL_law_986 rfl (lv_at hl 11 rfl) ?_
                                                refine lv_iload hx hb dL_law_987 (lv_at hl 2 rfl) ?_
                                                refine lv_bipush (v := 6) hx hb dL_law_989 (by decide) ?_
                                                obtain ⟨r152, h153, hF⟩ := tc_bi hF
                                                have h153 := tc_rdx h153
                                                refine tc_cx (vx_runV (As := [.int w144, .int 6]) (rest := []) ⟨hx, hb, hml, hown, hts⟩ (mt_X2_crane l hst D cU cO cI e0 (tc_A1 A49 F146 z59) E145 x58 w144 6 0 r152 h153) (cwV 2 hts gL_law_X2_crane rfl rfl rfl (by decide +kernel) ⟨Nat.le_of_ble_eq_true rfl, Nat.le_of_ble_eq_true rfl⟩) ⟨fun a U g mk q => ⟨q.1, q.2.1, q.2.2.call⟩, tc_rcv hW.1.o hK rfl, fun U hU hW9 => ⟨rfl, by rw [hU]; exact hW.1, ((hKX.go hS hU hW9).narrow (fun z9 h9 => hA38A _ (hA49A _ (h9.1))) (by rw [hU]; exact hW.newA (fun z9 h9 => by rw [eA49, eA38]; exact ⟨⟨hAn z9 (Nat.le_trans hS.1 h9), (fun h8 => absurd et_q35.lt (Nat.not_lt.mpr (by rw [← h8]; exact h9)))⟩, (fun h8 => absurd et_q45.lt (Nat.not_lt.mpr (by rw [← h8]; exact h9))), fun j hj h8 => absurd (er_q45 j hj).lt (Nat.not_lt.mpr (by rw [← h8]; exact h9))⟩)))⟩⟩ rfl rfl hl.1 rfl (lv_room (Nat.le_of_ble_eq_true rfl)) dL_law_991 ⟨(by show _ ≤ (600104 : Nat); omega), (by show _ ≤ (7301314 : Nat); omega)⟩) hS (fun z9 _ h9 => hA38A _ (hA49A _ (h9.1))) (fun z9 h9 => hA38A _ (hA49A _ (h9.1))) (fun z9 _ h9 => hA38A _ (hA49A _ (h9.1))) (fun ce q9 H locs c9 _ _ _ _ _ _ _ => absurd rfl c9) (fun H locs _ hB z1 o1 hS => ?_)
                                                have et_q35 := et_q35.kept (o1 _ et_q35.lt (fun h9 => hx_q35 h9.1))
                                                have et_q45 := et_q45.kept (o1 _ et_q45.lt (fun h9 => hx_q45 h9.1))
                                                have er_q45 := fun j hj => (er_q45 j hj).kept (o1 _ (er_q45 j hj).lt (fun h9 => hxr_q45 j hj h9.1))
                                                have hW := hW.afterC hB o1
                                                refine lv_aload_n hx hb dL_law_994 rfl (lv_at hl 11 rfl) ?_
                                                refine lv_iload hx hb dL_law_995 (lv_at hl 0 rfl) ?_
                                                refine lv_iconst (v := 0) hx hb dL_law_997 (by decide) ?_
                                                obtain ⟨r154, h155, hF⟩ := tc_bi hF
                                                have h155 := tc_rdx h155
                                                refine tc_cx (vx_runV (As := [.int r150, .int 0]) (rest := [.int r152]) ⟨hx, hb, hml, hown, hts⟩ (mt_X2_place l hst D cU cO cI e0 (tc_A1 A49 F146 z59) E145 x58 r150 0 0 r154 h155) (cwV 2 hts gL_law_X2_place rfl rfl rfl (by decide +kernel) ⟨Nat.le_of_ble_eq_true rfl, Nat.le_of_ble_eq_true rfl⟩) ⟨fun a U g mk q => ⟨q.1, q.2.1, q.2.2.call⟩, tc_rcv hW.1.o hK rfl, fun U hU hW9 => ⟨rfl, by rw [hU]; exact hW.1, ((hKX.go hS hU hW9).narrow (fun z9 h9 => hA38A _ (hA49A _ (h9.1))) (by rw [hU]; exact hW.newA (fun z9 h9 => by rw [eA49, eA38]; exact ⟨⟨hAn z9 (Nat.le_trans hS.1 h9), (fun h8 => absurd et_q35.lt (Nat.not_lt.mpr (by rw [← h8]; exact h9)))⟩, (fun h8 => absurd et_q45.lt (Nat.not_lt.mpr (by rw [← h8]; exact h9))), fun j hj h8 => absurd (er_q45 j hj).lt (Nat.not_lt.mpr (by rw [← h8]; exact h9))⟩)))⟩⟩ rfl rfl hl.1 rfl (lv_room (Nat.le_of_ble_eq_true rfl)) dL_law_998 ⟨(by show _ ≤ (600104 : Nat); omega), (by show _ ≤ (7301314 : Nat); omega)⟩) hS (fun z9 _ h9 => hA38A _ (hA49A _ (h9.1))) (fun z9 h9 => hA38A _ (hA49A _ (h9.1))) (fun z9 _ h9 => hA38A _ (hA49A _ (h9.1))) (fun ce q9 H locs c9 _ _ _ _ _ _ _ => absurd rfl c9) (fun H locs _ hB z1 o1 hS => ?_)
                                                have et_q35 := et_q35.kept (o1 _ et_q35.lt (fun h9 => hx_q35 h9.1))
                                                have et_q45 := et_q45.kept (o1 _ et_q45.lt (fun h9 => hx_q45 h9.1))
                                                have er_q45 := fun j hj => (er_q45 j hj).kept (o1 _ (er_q45 j hj).lt (fun h9 => hxr_q45 j hj h9.1))
                                                have hW := hW.afterC hB o1
                                                refine lv_aload_n hx hb dL_law_1001 rfl (lv_at hl 11 rfl) ?_
                                                refine lv_iload hx hb dL_law_1002 (lv_at hl 2 rfl) ?_
                                                refine lv_bipush (v := 7) hx hb dL_law_1004 (by decide) ?_
                                                obtain ⟨r156, h157, hF⟩ := tc_bi hF
                                                have h157 := tc_rdx h157
                                                refine tc_cx (vx_runV (As := [.int w144, .int 7]) (rest := [.int r154, .int r152]) ⟨hx, hb, hml, hown, hts⟩ (mt_X2_crane l hst D cU cO cI e0 (tc_A1 A49 F146 z59) E145 x58 w144 7 0 r156 h157) (cwV 2 hts gL_law_X2_crane rfl rfl rfl (by decide +kernel) ⟨Nat.le_of_ble_eq_true rfl, Nat.le_of_ble_eq_true rfl⟩) ⟨fun a U g mk q => ⟨q.1, q.2.1, q.2.2.call⟩, tc_rcv hW.1.o hK rfl, fun U hU hW9 => ⟨rfl, by rw [hU]; exact hW.1, ((hKX.go hS hU hW9).narrow (fun z9 h9 => hA38A _ (hA49A _ (h9.1))) (by rw [hU]; exact hW.newA (fun z9 h9 => by rw [eA49, eA38]; exact ⟨⟨hAn z9 (Nat.le_trans hS.1 h9), (fun h8 => absurd et_q35.lt (Nat.not_lt.mpr (by rw [← h8]; exact h9)))⟩, (fun h8 => absurd et_q45.lt (Nat.not_lt.mpr (by rw [← h8]; exact h9))), fun j hj h8 => absurd (er_q45 j hj).lt (Nat.not_lt.mpr (by rw [← h8]; exact h9))⟩)))⟩⟩ rfl rfl hl.1 rfl (lv_room (Nat.le_of_ble_eq_true rfl)) dL_law_1006 ⟨(by show _ ≤ (600104 : Nat); omega), (by show _ ≤ (7301314 : Nat); omega)⟩) hS (fun z9 _ h9 => hA38A _ (hA49A _ (h9.1))) (fun z9 h9 => hA38A _ (hA49A _ (h9.1))) (fun z9 _ h9 => hA38A _ (hA49A _ (h9.1))) (fun ce q9 H locs c9 _ _ _ _ _ _ _ => absurd rfl c9) (fun H locs _ hB z1 o1 hS => ?_)
                                                have et_q35 := et_q35.kept (o1 _ et_q35.lt (fun h9 => hx_q35 h9.1))
                                                have et_q45 := et_q45.kept (o1 _ et_q45.lt (fun h9 => hx_q45 h9.1))
                                                have er_q45 := fun j hj => (er_q45 j hj).kept (o1 _ (er_q45 j hj).lt (fun h9 => hxr_q45 j hj h9.1))
                                                have hW := hW.afterC hB o1
                                                obtain ⟨kc161, ekc161, hF⟩ := tc_jx hF
                                                have Jkc161 : ∀ (w158 : Int32) (E159 F160 : Nat → Nat) (H : Heap) (locs : List Loc) (ls : Array Slot), kc161 w158 = some 1 → lv_has ls 24 [(23, .int r150), (22, .int r148), (21, .int w144), (20, .int r127), (19, .int v126), (18, .int r122), (16, .long r120), (12, .int w97), (6, .int r89), (3, .int w18), (2, .ref (F160 0)), (1, .ref (E159 0)), (0, .ref b)] → tc_WL D cU cO cI cII cZ e0 A49 E159 F160 x58 z59 H → E159 0 = E 0 ∧ F160 0 = F 0 → va_at D vwCl (q35, .inl (cZ, r27.toNatClampNeg, .inl u41)) H → va_at D vwCl (q45, .inl (cII, r29.toNatClampNeg, .inr (.inr (.inr (.inr (fun j => some (r46 j))))))) H → (∀ j, j < r29.toNatClampNeg → va_at D vwCl (r46 j, .inl (cI, 9, .inl (u52 j))) H) → va_S A s.heap H locs → W p l e room_1 s m #[Value.ref b] below meth c H locs (((211) + (61 - (n_24 + 1)) * 1434 + 1227) + (6 - (n_958 + 1)) * 34 + 11) (((5079) + (61 - (n_24 + 1)) * 8777 + 7535) + (6 - (n_958 + 1)) * 204 + 66) QQ (F0 m 1017 ls [.int w158, .int r154, .int r152]) := by
                                                  intro w158 E159 F160 H locs ls hF hl hW hEF et_q35 et_q45 er_q45 hS
                                                  rw [ekc161] at hF
                                                  dsimp only at hF
                                                  refine lv_iadd hx hb dL_law_1017 ?_
                                                  refine lv_icmp_lt (tgt := 1104) hx hb dL_law_1018 (by decide) (fun c162 => ?_) (fun c162 => ?_)
                                                  · have hF := tc_it hF c162
                                                    cases hF
                                                  · have hF := tc_if hF c162
                                                    refine lv_iload hx hb dL_law_1021 (lv_at hl 0 rfl) ?_
                                                    refine lv_aload_n hx hb dL_law_1023 rfl (lv_at hl 11 rfl) ?_
                                                    refine lv_iload hx hb dL_law_1024 (lv_at hl 2 rfl) ?_
                                                    refine lv_iconst (v := 0) hx hb dL_law_1026 (by decide) ?_
                                                    obtain ⟨r163, h164, hF⟩ := tc_bi hF
                                                    have h164 := tc_rdx h164
                                                    refine tc_cx (vx_runV (As := [.int w144, .int 0]) (rest := [.int r150]) ⟨hx, hb, hml, hown, hts⟩ (mt_X2_crane l hst D cU cO cI e0 (tc_A1 A49 F160 z59) E159 x58 w144 0 0 r163 h164) (cwV 2 hts gL_law_X2_crane rfl rfl rfl (by decide +kernel) ⟨Nat.le_of_ble_eq_true rfl, Nat.le_of_ble_eq_true rfl⟩) ⟨fun a U g mk q => ⟨q.1, q.2.1, q.2.2.call⟩, tc_rcv hW.1.o hK rfl, fun U hU hW9 => ⟨rfl, by rw [hU]; exact hW.1, ((hKX.go hS hU hW9).narrow (fun z9 h9 => hA38A _ (hA49A _ (h9.1))) (by rw [hU]; exact hW.newA (fun z9 h9 => by rw [eA49, eA38]; exact ⟨⟨hAn z9 (Nat.le_trans hS.1 h9), (fun h8 => absurd et_q35.lt (Nat.not_lt.mpr (by rw [← h8]; exact h9)))⟩, (fun h8 => absurd et_q45.lt (Nat.not_lt.mpr (by rw [← h8]; exact h9))), fun j hj h8 => absurd (er_q45 j hj).lt (Nat.not_lt.mpr (by rw [← h8]; exact h9))⟩)))⟩⟩ rfl rfl hl.1 rfl (lv_room (Nat.le_of_ble_eq_true rfl)) dL_law_1027 ⟨(by show _ ≤ (600104 : Nat); omega), (by show _ ≤ (7301314 : Nat); omega)⟩) hS (fun z9 _ h9 => hA38A _ (hA49A _ (h9.1))) (fun z9 h9 => hA38A _ (hA49A _ (h9.1))) (fun z9 _ h9 => hA38A _ (hA49A _ (h9.1))) (fun ce q9 H locs c9 _ _ _ _ _ _ _ => absurd rfl c9) (fun H locs _ hB z1 o1 hS => ?_)
                                                    have et_q35 := et_q35.kept (o1 _ et_q35.lt (fun h9 => hx_q35 h9.1))
                                                    have et_q45 := et_q45.kept (o1 _ et_q45.lt (fun h9 => hx_q45 h9.1))
                                                    have er_q45 := fun j hj => (er_q45 j hj).kept (o1 _ (er_q45 j hj).lt (fun h9 => hxr_q45 j hj h9.1))
                                                    have hW := hW.afterC hB o1
                                                    refine lv_isub hx hb dL_law_1030 ?_
                                                    refine va_mabs hx hb (by rw [hml]; exact hl.1.symm) hown (hts (.methodLink RL 59 Lib.Math.abs.name) (List.mem_of_getElem? (i := 6) rfl)) (hts (.static Lib.Math.abs.name) (List.mem_of_getElem? (i := 7) rfl)) (hts (.initialized "java/lang/Math") (List.mem_of_getElem? (i := 8) rfl)) (hts (.code Lib.Math.abs.name Lib.Math.abs.code 1 (some .int)) (List.mem_of_getElem? (i := 9) rfl)) (Nat.le_of_ble_eq_true rfl) (Nat.le_of_ble_eq_true rfl) ((by show _ ≤ (600104 : Nat); omega)) ((by show _ ≤ (7301314 : Nat); omega)) dL_law_1031 ?_
                                                    refine lv_topi (fun v165 ev165 => ?_)
                                                    have hF := tc_lt hF ev165
                                                    refine lv_aload_n hx hb dL_law_1034 rfl (lv_at hl 11 rfl) ?_
                                                    refine lv_iload hx hb dL_law_1035 (lv_at hl 2 rfl) ?_
                                                    refine lv_iconst (v := 1) hx hb dL_law_1037 (by decide) ?_
                                                    obtain ⟨r166, h167, hF⟩ := tc_bi hF
                                                    have h167 := tc_rdx h167
                                                    refine tc_cx (vx_runV (As := [.int w144, .int 1]) (rest := [.int v165]) ⟨hx, hb, hml, hown, hts⟩ (mt_X2_crane l hst D cU cO cI e0 (tc_A1 A49 F160 z59) E159 x58 w144 1 0 r166 h167) (cwV 2 hts gL_law_X2_crane rfl rfl rfl (by decide +kernel) ⟨Nat.le_of_ble_eq_true rfl, Nat.le_of_ble_eq_true rfl⟩) ⟨fun a U g mk q => ⟨q.1, q.2.1, q.2.2.call⟩, tc_rcv hW.1.o hK rfl, fun U hU hW9 => ⟨rfl, by rw [hU]; exact hW.1, ((hKX.go hS hU hW9).narrow (fun z9 h9 => hA38A _ (hA49A _ (h9.1))) (by rw [hU]; exact hW.newA (fun z9 h9 => by rw [eA49, eA38]; exact ⟨⟨hAn z9 (Nat.le_trans hS.1 h9), (fun h8 => absurd et_q35.lt (Nat.not_lt.mpr (by rw [← h8]; exact h9)))⟩, (fun h8 => absurd et_q45.lt (Nat.not_lt.mpr (by rw [← h8]; exact h9))), fun j hj h8 => absurd (er_q45 j hj).lt (Nat.not_lt.mpr (by rw [← h8]; exact h9))⟩)))⟩⟩ rfl rfl hl.1 rfl (lv_room (Nat.le_of_ble_eq_true rfl)) dL_law_1038 ⟨(by show _ ≤ (600104 : Nat); omega), (by show _ ≤ (7301314 : Nat); omega)⟩) hS (fun z9 _ h9 => hA38A _ (hA49A _ (h9.1))) (fun z9 h9 => hA38A _ (hA49A _ (h9.1))) (fun z9 _ h9 => hA38A _ (hA49A _ (h9.1))) (fun ce q9 H locs c9 _ _ _ _ _ _ _ => absurd rfl c9) (fun H locs _ hB z1 o1 hS => ?_)
                                                    have et_q35 := et_q35.kept (o1 _ et_q35.lt (fun h9 => hx_q35 h9.1))
                                                    have et_q45 := et_q45.kept (o1 _ et_q45.lt (fun h9 => hx_q45 h9.1))
                                                    have er_q45 := fun j hj => (er_q45 j hj).kept (o1 _ (er_q45 j hj).lt (fun h9 => hxr_q45 j hj h9.1))
                                                    have hW := hW.afterC hB o1
                                                    refine lv_icmp_gt (tgt := 1104) hx hb dL_law_1041 (by decide) (fun c168 => ?_) (fun c168 => ?_)
                                                    · have hF := tc_it hF c168
                                                      cases hF
                                                    · have hF := tc_if hF c168
                                                      refine lv_aload_n hx hb dL_law_1044 rfl (lv_at hl 11 rfl) ?_
                                                      refine lv_iload hx hb dL_law_1045 (lv_at hl 2 rfl) ?_
                                                      refine lv_bipush (v := 8) hx hb dL_law_1047 (by decide) ?_
                                                      obtain ⟨r169, h170, hF⟩ := tc_bi hF
                                                      have h170 := tc_rdx h170
                                                      refine tc_cx (vx_runV (As := [.int w144, .int 8]) (rest := []) ⟨hx, hb, hml, hown, hts⟩ (mt_X2_crane l hst D cU cO cI e0 (tc_A1 A49 F160 z59) E159 x58 w144 8 0 r169 h170) (cwV 2 hts gL_law_X2_crane rfl rfl rfl (by decide +kernel) ⟨Nat.le_of_ble_eq_true rfl, Nat.le_of_ble_eq_true rfl⟩) ⟨fun a U g mk q => ⟨q.1, q.2.1, q.2.2.call⟩, tc_rcv hW.1.o hK rfl, fun U hU hW9 => ⟨rfl, by rw [hU]; exact hW.1, ((hKX.go hS hU hW9).narrow (fun z9 h9 => hA38A _ (hA49A _ (h9.1))) (by rw [hU]; exact hW.newA (fun z9 h9 => by rw [eA49, eA38]; exact ⟨⟨hAn z9 (Nat.le_trans hS.1 h9), (fun h8 => absurd et_q35.lt (Nat.not_lt.mpr (by rw [← h8]; exact h9)))⟩, (fun h8 => absurd et_q45.lt (Nat.not_lt.mpr (by rw [← h8]; exact h9))), fun j hj h8 => absurd (er_q45 j hj).lt (Nat.not_lt.mpr (by rw [← h8]; exact h9))⟩)))⟩⟩ rfl rfl hl.1 rfl (lv_room (Nat.le_of_ble_eq_true rfl)) dL_law_1049 ⟨(by show _ ≤ (600104 : Nat); omega), (by show _ ≤ (7301314 : Nat); omega)⟩) hS (fun z9 _ h9 => hA38A _ (hA49A _ (h9.1))) (fun z9 h9 => hA38A _ (hA49A _ (h9.1))) (fun z9 _ h9 => hA38A _ (hA49A _ (h9.1))) (fun ce q9 H locs c9 _ _ _ _ _ _ _ => absurd rfl c9) (fun H locs _ hB z1 o1 hS => ?_)
                                                      have et_q35 := et_q35.kept (o1 _ et_q35.lt (fun h9 => hx_q35 h9.1))
                                                      have et_q45 := et_q45.kept (o1 _ et_q45.lt (fun h9 => hx_q45 h9.1))
                                                      have er_q45 := fun j hj => (er_q45 j hj).kept (o1 _ (er_q45 j hj).lt (fun h9 => hxr_q45 j hj h9.1))
                                                      have hW := hW.afterC hB o1
                                                      refine lv_bipush (v := 12) hx hb dL_law_1052 (by decide) ?_
                                                      refine lv_aload_n hx hb dL_law_1054 rfl (lv_at hl 11 rfl) ?_
                                                      refine lv_iload hx hb dL_law_1055 (lv_at hl 2 rfl) ?_
                                                      refine lv_iconst (v := 3) hx hb dL_law_1057 (by decide) ?_
                                                      obtain ⟨r171, h172, hF⟩ := tc_bi hF
                                                      have h172 := tc_rdx h172
                                                      refine tc_cx (vx_runV (As := [.int w144, .int 3]) (rest := [.int 12, .int r169]) ⟨hx, hb, hml, hown, hts⟩ (mt_X2_crane l hst D cU cO cI e0 (tc_A1 A49 F160 z59) E159 x58 w144 3 0 r171 h172) (cwV 2 hts gL_law_X2_crane rfl rfl rfl (by decide +kernel) ⟨Nat.le_of_ble_eq_true rfl, Nat.le_of_ble_eq_true rfl⟩) ⟨fun a U g mk q => ⟨q.1, q.2.1, q.2.2.call⟩, tc_rcv hW.1.o hK rfl, fun U hU hW9 => ⟨rfl, by rw [hU]; exact hW.1, ((hKX.go hS hU hW9).narrow (fun z9 h9 => hA38A _ (hA49A _ (h9.1))) (by rw [hU]; exact hW.newA (fun z9 h9 => by rw [eA49, eA38]; exact ⟨⟨hAn z9 (Nat.le_trans hS.1 h9), (fun h8 => absurd et_q35.lt (Nat.not_lt.mpr (by rw [← h8]; exact h9)))⟩, (fun h8 => absurd et_q45.lt (Nat.not_lt.mpr (by rw [← h8]; exact h9))), fun j hj h8 => absurd (er_q45 j hj).lt (Nat.not_lt.mpr (by rw [← h8]; exact h9))⟩)))⟩⟩ rfl rfl hl.1 rfl (lv_room (Nat.le_of_ble_eq_true rfl)) dL_law_1058 ⟨(by show _ ≤ (600104 : Nat); omega), (by show _ ≤ (7301314 : Nat); omega)⟩) hS (fun z9 _ h9 => hA38A _ (hA49A _ (h9.1))) (fun z9 h9 => hA38A _ (hA49A _ (h9.1))) (fun z9 _ h9 => hA38A _ (hA49A _ (h9.1))) (fun ce q9 H locs c9 _ _ _ _ _ _ _ => absurd rfl c9) (fun H locs _ hB z1 o1 hS => ?_)
                                                      have et_q35 := et_q35.kept (o1 _ et_q35.lt (fun h9 => hx_q35 h9.1))
                                                      have et_q45 := et_q45.kept (o1 _ et_q45.lt (fun h9 => hx_q45 h9.1))
                                                      have er_q45 := fun j hj => (er_q45 j hj).kept (o1 _ (er_q45 j hj).lt (fun h9 => hxr_q45 j hj h9.1))
                                                      have hW := hW.afterC hB o1
                                                      refine lv_imul hx hb dL_law_1061 ?_
                                                      refine lv_aload_n hx hb dL_law_1062 rfl (lv_at hl 11 rfl) ?_
                                                      refine lv_iload hx hb dL_law_1063 (lv_at hl 2 rfl) ?_
                                                      refine lv_iconst (v := 2) hx hb dL_law_1065 (by decide) ?_
                                                      obtain ⟨r173, h174, hF⟩ := tc_bi hF
                                                      have h174 := tc_rdx h174
                                                      refine tc_cx (vx_runV (As := [.int w144, .int 2]) (rest := [.int ((12 : Int32) * r171), .int r169]) ⟨hx, hb, hml, hown, hts⟩ (mt_X2_crane l hst D cU cO cI e0 (tc_A1 A49 F160 z59) E159 x58 w144 2 0 r173 h174) (cwV 2 hts gL_law_X2_crane rfl rfl rfl (by decide +kernel) ⟨Nat.le_of_ble_eq_true rfl, Nat.le_of_ble_eq_true rfl⟩) ⟨fun a U g mk q => ⟨q.1, q.2.1, q.2.2.call⟩, tc_rcv hW.1.o hK rfl, fun U hU hW9 => ⟨rfl, by rw [hU]; exact hW.1, ((hKX.go hS hU hW9).narrow (fun z9 h9 => hA38A _ (hA49A _ (h9.1))) (by rw [hU]; exact hW.newA (fun z9 h9 => by rw [eA49, eA38]; exact ⟨⟨hAn z9 (Nat.le_trans hS.1 h9), (fun h8 => absurd et_q35.lt (Nat.not_lt.mpr (by rw [← h8]; exact h9)))⟩, (fun h8 => absurd et_q45.lt (Nat.not_lt.mpr (by rw [← h8]; exact h9))), fun j hj h8 => absurd (er_q45 j hj).lt (Nat.not_lt.mpr (by rw [← h8]; exact h9))⟩)))⟩⟩ rfl rfl hl.1 rfl (lv_room (Nat.le_of_ble_eq_true rfl)) dL_law_1066 ⟨(by show _ ≤ (600104 : Nat); omega), (by show _ ≤ (7301314 : Nat); omega)⟩) hS (fun z9 _ h9 => hA38A _ (hA49A _ (h9.1))) (fun z9 h9 => hA38A _ (hA49A _ (h9.1))) (fun z9 _ h9 => hA38A _ (hA49A _ (h9.1))) (fun ce q9 H locs c9 _ _ _ _ _ _ _ => absurd rfl c9) (fun H locs _ hB z1 o1 hS => ?_)
                                                      have et_q35 := et_q35.kept (o1 _ et_q35.lt (fun h9 => hx_q35 h9.1))
                                                      have et_q45 := et_q45.kept (o1 _ et_q45.lt (fun h9 => hx_q45 h9.1))
                                                      have er_q45 := fun j hj => (er_q45 j hj).kept (o1 _ (er_q45 j hj).lt (fun h9 => hxr_q45 j hj h9.1))
                                                      have hW := hW.afterC hB o1
                                                      obtain ⟨g175, hF⟩ := tc_ob hF
                                                      refine lv_idiv hx hb dL_law_1069 g175 ?_
                                                      refine lv_icmp_ne (tgt := 1104) hx hb dL_law_1070 (by decide) (fun c176 => ?_) (fun c176 => ?_)
                                                      · have hF := tc_if hF c176
                                                        cases hF
                                                      · have hF := tc_it hF c176
                                                        refine lv_aload_n hx hb dL_law_1073 rfl (lv_at hl 11 rfl) ?_
                                                        refine lv_iload hx hb dL_law_1074 (lv_at hl 2 rfl) ?_
                                                        obtain ⟨r177, h178, hF⟩ := tc_bi hF
                                                        have h178 := tc_rdx h178
                                                        refine tc_cx (vx_runV (As := [.int w144]) (rest := []) ⟨hx, hb, hml, hown, hts⟩ (mt_X2_within l hst D cU cO cI e0 (tc_A1 A49 F160 z59) E159 x58 w144 0 r177 h178) (cwV 1 hts gL_law_X2_within rfl rfl rfl (by decide +kernel) ⟨Nat.le_of_ble_eq_true rfl, Nat.le_of_ble_eq_true rfl⟩) ⟨fun a U g mk q => ⟨q.1, q.2.1, q.2.2.call⟩, tc_rcv hW.1.o hK rfl, fun U hU hW9 => ⟨rfl, by rw [hU]; exact hW.1, ((hKX.go hS hU hW9).narrow (fun z9 h9 => hA38A _ (hA49A _ (h9.1))) (by rw [hU]; exact hW.newA (fun z9 h9 => by rw [eA49, eA38]; exact ⟨⟨hAn z9 (Nat.le_trans hS.1 h9), (fun h8 => absurd et_q35.lt (Nat.not_lt.mpr (by rw [← h8]; exact h9)))⟩, (fun h8 => absurd et_q45.lt (Nat.not_lt.mpr (by rw [← h8]; exact h9))), fun j hj h8 => absurd (er_q45 j hj).lt (Nat.not_lt.mpr (by rw [← h8]; exact h9))⟩)))⟩⟩ rfl rfl hl.1 rfl (lv_room (Nat.le_of_ble_eq_true rfl)) dL_law_1076 ⟨(by show _ ≤ (600104 : Nat); omega), (by show _ ≤ (7301314 : Nat); omega)⟩) hS (fun z9 _ h9 => hA38A _ (hA49A _ (h9.1))) (fun z9 h9 => hA38A _ (hA49A _ (h9.1))) (fun z9 _ h9 => hA38A _ (hA49A _ (h9.1))) (fun ce q9 H locs c9 _ _ _ _ _ _ _ => absurd rfl c9) (fun H locs _ hB z1 o1 hS => ?_)
                                                        have et_q35 := et_q35.kept (o1 _ et_q35.lt (fun h9 => hx_q35 h9.1))
                                                        have et_q45 := et_q45.kept (o1 _ et_q45.lt (fun h9 => hx_q45 h9.1))
                                                        have er_q45 := fun j hj => (er_q45 j hj).kept (o1 _ (er_q45 j hj).lt (fun h9 => hxr_q45 j hj h9.1))
                                                        have hW := hW.afterC hB o1
                                                        refine lv_iload hx hb dL_law_1079 (lv_at hl 7 rfl) ?_
                                                        refine lv_icmp_gt (tgt := 1104) hx hb dL_law_1081 (by decide) (fun c179 => ?_) (fun c179 => ?_)
                                                        · have hF := tc_it hF c179
                                                          cases hF
                                                        · have hF := tc_if hF c179
                                                          refine lv_aload_n hx hb dL_law_1084 rfl (lv_at hl 11 rfl) ?_
                                                          refine lv_iload hx hb dL_law_1085 (lv_at hl 2 rfl) ?_
                                                          refine lv_iconst (v := 1) hx hb dL_law_1087 (by decide) ?_
                                                          obtain ⟨r180, h181, hF⟩ := tc_bi hF
                                                          have h181 := tc_rdx h181
                                                          refine tc_cx (vx_runV (As := [.int w144, .int 1]) (rest := []) ⟨hx, hb, hml, hown, hts⟩ (mt_X2_lasts l hst D cU cO cI e0 (tc_A1 A49 F160 z59) E159 x58 w144 1 0 r180 h181) (cwV 2 hts gL_law_X2_lasts rfl rfl rfl (by decide +kernel) ⟨Nat.le_of_ble_eq_true rfl, Nat.le_of_ble_eq_true rfl⟩) ⟨fun a U g mk q => ⟨q.1, q.2.1, q.2.2.call⟩, tc_rcv hW.1.o hK rfl, fun U hU hW9 => ⟨rfl, by rw [hU]; exact hW.1, ((hKX.go hS hU hW9).narrow (fun z9 h9 => hA38A _ (hA49A _ (h9.1))) (by rw [hU]; exact hW.newA (fun z9 h9 => by rw [eA49, eA38]; exact ⟨⟨hAn z9 (Nat.le_trans hS.1 h9), (fun h8 => absurd et_q35.lt (Nat.not_lt.mpr (by rw [← h8]; exact h9)))⟩, (fun h8 => absurd et_q45.lt (Nat.not_lt.mpr (by rw [← h8]; exact h9))), fun j hj h8 => absurd (er_q45 j hj).lt (Nat.not_lt.mpr (by rw [← h8]; exact h9))⟩)))⟩⟩ rfl rfl hl.1 rfl (lv_room (Nat.le_of_ble_eq_true rfl)) dL_law_1088 ⟨(by show _ ≤ (600104 : Nat); omega), (by show _ ≤ (7301314 : Nat); omega)⟩) hS (fun z9 _ h9 => hA38A _ (hA49A _ (h9.1))) (fun z9 h9 => hA38A _ (hA49A _ (h9.1))) (fun z9 _ h9 => hA38A _ (hA49A _ (h9.1))) (fun ce q9 H locs c9 _ _ _ _ _ _ _ => absurd rfl c9) (fun H locs _ hB z1 o1 hS => ?_)
                                                          have et_q35 := et_q35.kept (o1 _ et_q35.lt (fun h9 => hx_q35 h9.1))
                                                          have et_q45 := et_q45.kept (o1 _ et_q45.lt (fun h9 => hx_q45 h9.1))
                                                          have er_q45 := fun j hj => (er_q45 j hj).kept (o1 _ (er_q45 j hj).lt (fun h9 => hxr_q45 j hj h9.1))
                                                          have hW := hW.afterC hB o1
                                                          refine lv_bipush (v := 99) hx hb dL_law_1091 (by decide) ?_
                                                          refine lv_aload_n hx hb dL_law_1093 rfl (lv_at hl 11 rfl) ?_
                                                          refine lv_iload hx hb dL_law_1094 (lv_at hl 2 rfl) ?_
                                                          refine lv_iconst (v := 4) hx hb dL_law_1096 (by decide) ?_
                                                          obtain ⟨r182, h183, hF⟩ := tc_bi hF
                                                          have h183 := tc_rdx h183
                                                          refine tc_cx (vx_runV (As := [.int w144, .int 4]) (rest := [.int 99, .int r180]) ⟨hx, hb, hml, hown, hts⟩ (mt_X2_crane l hst D cU cO cI e0 (tc_A1 A49 F160 z59) E159 x58 w144 4 0 r182 h183) (cwV 2 hts gL_law_X2_crane rfl rfl rfl (by decide +kernel) ⟨Nat.le_of_ble_eq_true rfl, Nat.le_of_ble_eq_true rfl⟩) ⟨fun a U g mk q => ⟨q.1, q.2.1, q.2.2.call⟩, tc_rcv hW.1.o hK rfl, fun U hU hW9 => ⟨rfl, by rw [hU]; exact hW.1, ((hKX.go hS hU hW9).narrow (fun z9 h9 => hA38A _ (hA49A _ (h9.1))) (by rw [hU]; exact hW.newA (fun z9 h9 => by rw [eA49, eA38]; exact ⟨⟨hAn z9 (Nat.le_trans hS.1 h9), (fun h8 => absurd et_q35.lt (Nat.not_lt.mpr (by rw [← h8]; exact h9)))⟩, (fun h8 => absurd et_q45.lt (Nat.not_lt.mpr (by rw [← h8]; exact h9))), fun j hj h8 => absurd (er_q45 j hj).lt (Nat.not_lt.mpr (by rw [← h8]; exact h9))⟩)))⟩⟩ rfl rfl hl.1 rfl (lv_room (Nat.le_of_ble_eq_true rfl)) dL_law_1097 ⟨(by show _ ≤ (600104 : Nat); omega), (by show _ ≤ (7301314 : Nat); omega)⟩) hS (fun z9 _ h9 => hA38A _ (hA49A _ (h9.1))) (fun z9 h9 => hA38A _ (hA49A _ (h9.1))) (fun z9 _ h9 => hA38A _ (hA49A _ (h9.1))) (fun ce q9 H locs c9 _ _ _ _ _ _ _ => absurd rfl c9) (fun H locs _ hB z1 o1 hS => ?_)
                                                          have et_q35 := et_q35.kept (o1 _ et_q35.lt (fun h9 => hx_q35 h9.1))
                                                          have et_q45 := et_q45.kept (o1 _ et_q45.lt (fun h9 => hx_q45 h9.1))
                                                          have er_q45 := fun j hj => (er_q45 j hj).kept (o1 _ (er_q45 j hj).lt (fun h9 => hxr_q45 j hj h9.1))
                                                          have hW := hW.afterC hB o1
                                                          refine lv_isub hx hb dL_law_1100 ?_
                                                          refine lv_icmp_eq (tgt := 1106) hx hb dL_law_1101 (by decide) (fun c184 => ?_) (fun c184 => ?_)
                                                          · have hF := tc_it hF c184
                                                            refine lv_iload hx hb dL_law_1106 (lv_at hl 1 rfl) ?_
                                                            obtain ⟨kc187, ekc187, hF⟩ := tc_jx hF
                                                            have Jkc187 : ∀  (E185 F186 : Nat → Nat) (H : Heap) (locs : List Loc) (ls : Array Slot), kc187  = some 1 → lv_has ls 24 [(21, .int w144), (20, .int r127), (19, .int v126), (18, .int r122), (16, .long r120), (12, .int w97), (6, .int r89), (3, .int w18), (2, .ref (F186 0)), (1, .ref (E185 0)), (0, .ref b)] → tc_WL D cU cO cI cII cZ e0 A49 E185 F186 x58 z59 H → E185 0 = E 0 ∧ F186 0 = F 0 → va_at D vwCl (q35, .inl (cZ, r27.toNatClampNeg, .inl u41)) H → va_at D vwCl (q45, .inl (cII, r29.toNatClampNeg, .inr (.inr (.inr (.inr (fun j => some (r46 j))))))) H → (∀ j, j < r29.toNatClampNeg → va_at D vwCl (r46 j, .inl (cI, 9, .inl (u52 j))) H) → va_S A s.heap H locs → W p l e room_1 s m #[Value.ref b] below meth c H locs (((211) + (61 - (n_24 + 1)) * 1434 + 1227) + (6 - (n_958 + 1)) * 34 + 34) (((5079) + (61 - (n_24 + 1)) * 8777 + 7535) + (6 - (n_958 + 1)) * 204 + 204) QQ (F0 m 1178 ls []) := by
                                                              intro  E185 F186 H locs ls hF hl hW hEF et_q35 et_q45 er_q45 hS
                                                              rw [ekc187] at hF
                                                              obtain ⟨v188, ev188⟩ : ∃ z9 : Int32, z9 = w144 + 1 := ⟨_, rfl⟩
                                                              have hF := tc_lt hF ev188
                                                              refine lv_iinc (v := v188) (lv' := [(21, .int v188), (20, .int r127), (19, .int v126), (18, .int r122), (16, .long r120), (12, .int w97), (6, .int r89), (3, .int w18), (2, .ref (F186 0)), (1, .ref (E185 0)), (0, .ref b)]) hx hb dL_law_1178 hl (k := 0) rfl (by rw [ev188]; rfl) (by decide) rfl (fun ls hl => ?_)
                                                              refine lv_goto (tgt := 958) hx hb dL_law_1181 (by decide) ?_
                                                              refine W.widen (k := ((211) + (61 - (n_24 + 1)) * 1434 + 1227) + (6 - n_958) * 34 + 0) (n := ((5079) + (61 - (n_24 + 1)) * 8777 + 7535) + (6 - n_958) * 204 + 0) (by omega) (by omega) ?_
                                                              exact ih_958 (Nat.le_of_succ_le hn_958) v188 E185 F186 _ _ _ hF (lv_sub hl [0, 1, 2, 3, 4, 5, 6, 7, 8, 9, 10] rfl) hW hEF et_q35 et_q45 er_q45 hS
                                                            refine lv_if_lt (tgt := 1178) hx hb dL_law_1108 (by decide) (fun c189 => ?_) (fun c189 => ?_)
                                                            · have hF := tc_it hF c189
                                                              refine W.widen (k := ((211) + (61 - (n_24 + 1)) * 1434 + 1227) + (6 - (n_958 + 1)) * 34 + 34) (n := ((5079) + (61 - (n_24 + 1)) * 8777 + 7535) + (6 - (n_958 + 1)) * 204 + 204) (by omega) (by omega) ?_
                                                              exact Jkc187  E159 F160 _ _ _ hF (lv_sub hl [2, 3, 4, 5, 6, 7, 8, 9, 10, 11, 12] rfl) hW hEF et_q35 et_q45 er_q45 hS
                                                            · have hF := tc_if hF c189
                                                              refine lv_iload hx hb dL_law_1111 (lv_at hl 3 rfl) ?_
                                                              refine lv_if_lt (tgt := 1176) hx hb dL_law_1113 (by decide) (fun c190 => ?_) (fun c190 => ?_)
                                                              · have hF := tc_it hF c190
                                                                cases hF
                                                              · have hF := tc_if hF c190
                                                                refine lv_aload_n hx hb dL_law_1116 rfl (lv_at hl 11 rfl) ?_
                                                                refine lv_iload hx hb dL_law_1117 (lv_at hl 3 rfl) ?_
                                                                refine lv_iload hx hb dL_law_1119 (lv_at hl 5 rfl) ?_
                                                                refine lv_iload hx hb dL_law_1121 (lv_at hl 4 rfl) ?_
                                                                obtain ⟨r191, h192, hF⟩ := tc_bi hF
                                                                have h192 := tc_rdx h192
                                                                refine tc_cx (vx_runV (As := [.int r127, .int r122, .int v126]) (rest := []) ⟨hx, hb, hml, hown, hts⟩ (mt_X2_move l hst D cU cO cI e0 (tc_A1 A49 F160 z59) E159 x58 r127 r122 v126 0 r191 h192) (cwV 3 hts gL_law_X2_move rfl rfl rfl (by decide +kernel) ⟨Nat.le_of_ble_eq_true rfl, Nat.le_of_ble_eq_true rfl⟩) ⟨fun a U g mk q => ⟨q.1, q.2.1, q.2.2.call⟩, tc_rcv hW.1.o hK rfl, fun U hU hW9 => ⟨rfl, by rw [hU]; exact hW.1, ((hKX.go hS hU hW9).narrow (fun z9 h9 => hA38A _ (hA49A _ (h9.1))) (by rw [hU]; exact hW.newA (fun z9 h9 => by rw [eA49, eA38]; exact ⟨⟨hAn z9 (Nat.le_trans hS.1 h9), (fun h8 => absurd et_q35.lt (Nat.not_lt.mpr (by rw [← h8]; exact h9)))⟩, (fun h8 => absurd et_q45.lt (Nat.not_lt.mpr (by rw [← h8]; exact h9))), fun j hj h8 => absurd (er_q45 j hj).lt (Nat.not_lt.mpr (by rw [← h8]; exact h9))⟩)))⟩⟩ rfl rfl hl.1 rfl (lv_room (Nat.le_of_ble_eq_true rfl)) dL_law_1123 ⟨(by show _ ≤ (600104 : Nat); omega), (by show _ ≤ (7301314 : Nat); omega)⟩) hS (fun z9 _ h9 => hA38A _ (hA49A _ (h9.1))) (fun z9 h9 => hA38A _ (hA49A _ (h9.1))) (fun z9 _ h9 => hA38A _ (hA49A _ (h9.1))) (fun ce q9 H locs c9 _ _ _ _ _ _ _ => absurd rfl c9) (fun H locs _ hB z1 o1 hS => ?_)
                                                                have et_q35 := et_q35.kept (o1 _ et_q35.lt (fun h9 => hx_q35 h9.1))
                                                                have et_q45 := et_q45.kept (o1 _ et_q45.lt (fun h9 => hx_q45 h9.1))
                                                                have er_q45 := fun j hj => (er_q45 j hj).kept (o1 _ (er_q45 j hj).lt (fun h9 => hxr_q45 j hj h9.1))
                                                                have hW := hW.afterC hB o1
                                                                refine lv_iload hx hb dL_law_1126 (lv_at hl 1 rfl) ?_
                                                                refine lv_icmp_gt (tgt := 1176) hx hb dL_law_1128 (by decide) (fun c193 => ?_) (fun c193 => ?_)
                                                                · have hF := tc_it hF c193
                                                                  cases hF
                                                                · have hF := tc_if hF c193
                                                                  refine lv_aload_n hx hb dL_law_1131 rfl (lv_at hl 11 rfl) ?_
                                                                  refine lv_iload hx hb dL_law_1132 (lv_at hl 3 rfl) ?_
                                                                  refine lv_iload hx hb dL_law_1134 (lv_at hl 5 rfl) ?_
                                                                  refine lv_iload hx hb dL_law_1136 (lv_at hl 4 rfl) ?_
                                                                  obtain ⟨r194, h195, hF⟩ := tc_bi hF
                                                                  have h195 := tc_rdx h195
                                                                  refine tc_cx (vx_runV (As := [.int r127, .int r122, .int v126]) (rest := []) ⟨hx, hb, hml, hown, hts⟩ (mt_X2_move l hst D cU cO cI e0 (tc_A1 A49 F160 z59) E159 x58 r127 r122 v126 0 r194 h195) (cwV 3 hts gL_law_X2_move rfl rfl rfl (by decide +kernel) ⟨Nat.le_of_ble_eq_true rfl, Nat.le_of_ble_eq_true rfl⟩) ⟨fun a U g mk q => ⟨q.1, q.2.1, q.2.2.call⟩, tc_rcv hW.1.o hK rfl, fun U hU hW9 => ⟨rfl, by rw [hU]; exact hW.1, ((hKX.go hS hU hW9).narrow (fun z9 h9 => hA38A _ (hA49A _ (h9.1))) (by rw [hU]; exact hW.newA (fun z9 h9 => by rw [eA49, eA38]; exact ⟨⟨hAn z9 (Nat.le_trans hS.1 h9), (fun h8 => absurd et_q35.lt (Nat.not_lt.mpr (by rw [← h8]; exact h9)))⟩, (fun h8 => absurd et_q45.lt (Nat.not_lt.mpr (by rw [← h8]; exact h9))), fun j hj h8 => absurd (er_q45 j hj).lt (Nat.not_lt.mpr (by rw [← h8]; exact h9))⟩)))⟩⟩ rfl rfl hl.1 rfl (lv_room (Nat.le_of_ble_eq_true rfl)) dL_law_1138 ⟨(by show _ ≤ (600104 : Nat); omega), (by show _ ≤ (7301314 : Nat); omega)⟩) hS (fun z9 _ h9 => hA38A _ (hA49A _ (h9.1))) (fun z9 h9 => hA38A _ (hA49A _ (h9.1))) (fun z9 _ h9 => hA38A _ (hA49A _ (h9.1))) (fun ce q9 H locs c9 _ _ _ _ _ _ _ => absurd rfl c9) (fun H locs _ hB z1 o1 hS => ?_)
                                                                  have et_q35 := et_q35.kept (o1 _ et_q35.lt (fun h9 => hx_q35 h9.1))
                                                                  have et_q45 := et_q45.kept (o1 _ et_q45.lt (fun h9 => hx_q45 h9.1))
                                                                  have er_q45 := fun j hj => (er_q45 j hj).kept (o1 _ (er_q45 j hj).lt (fun h9 => hxr_q45 j hj h9.1))
                                                                  have hW := hW.afterC hB o1
                                                                  refine lv_iload hx hb dL_law_1141 (lv_at hl 1 rfl) ?_
                                                                  obtain ⟨kc198, ekc198, hF⟩ := tc_jx hF
                                                                  have Jkc198 : ∀  (E196 F197 : Nat → Nat) (H : Heap) (locs : List Loc) (ls : Array Slot), kc198  = some 1 → lv_has ls 24 [(22, .int r148), (21, .int w144), (20, .int r127), (19, .int v126), (18, .int r122), (16, .long r120), (12, .int w97), (6, .int r89), (3, .int w18), (2, .ref (F197 0)), (1, .ref (E196 0)), (0, .ref b)] → tc_WL D cU cO cI cII cZ e0 A49 E196 F197 x58 z59 H → E196 0 = E 0 ∧ F197 0 = F 0 → va_at D vwCl (q35, .inl (cZ, r27.toNatClampNeg, .inl u41)) H → va_at D vwCl (q45, .inl (cII, r29.toNatClampNeg, .inr (.inr (.inr (.inr (fun j => some (r46 j))))))) H → (∀ j, j < r29.toNatClampNeg → va_at D vwCl (r46 j, .inl (cI, 9, .inl (u52 j))) H) → va_S A s.heap H locs → W p l e room_1 s m #[Value.ref b] below meth c H locs (((211) + (61 - (n_24 + 1)) * 1434 + 1227) + (6 - (n_958 + 1)) * 34 + 32) (((5079) + (61 - (n_24 + 1)) * 8777 + 7535) + (6 - (n_958 + 1)) * 204 + 192) QQ (F0 m 1153 ls []) := by
                                                                    intro  E196 F197 H locs ls hF hl hW hEF et_q35 et_q45 er_q45 hS
                                                                    rw [ekc198] at hF
                                                                    refine lv_aload_n hx hb dL_law_1153 rfl (lv_at hl 10 rfl) ?_
                                                                    refine lv_iload hx hb dL_law_1154 (lv_at hl 4 rfl) ?_
                                                                    refine lv_iconst (v := 0) hx hb dL_law_1156 (by decide) ?_
                                                                    obtain ⟨r199, h200, hF⟩ := tc_bi hF
                                                                    have h200 := tc_rdx h200
                                                                    refine tc_cx (vx_runV (As := [.int r122, .int 0]) (rest := []) ⟨hx, hb, hml, hown, hts⟩ (mt_X2_place l hst D cU cO cI e0 (tc_A1 A49 F197 z59) E196 x58 r122 0 0 r199 h200) (cwV 2 hts gL_law_X2_place rfl rfl rfl (by decide +kernel) ⟨Nat.le_of_ble_eq_true rfl, Nat.le_of_ble_eq_true rfl⟩) ⟨fun a U g mk q => ⟨q.1, q.2.1, q.2.2.call⟩, tc_rcv hW.1.o hK rfl, fun U hU hW9 => ⟨rfl, by rw [hU]; exact hW.1, ((hKX.go hS hU hW9).narrow (fun z9 h9 => hA38A _ (hA49A _ (h9.1))) (by rw [hU]; exact hW.newA (fun z9 h9 => by rw [eA49, eA38]; exact ⟨⟨hAn z9 (Nat.le_trans hS.1 h9), (fun h8 => absurd et_q35.lt (Nat.not_lt.mpr (by rw [← h8]; exact h9)))⟩, (fun h8 => absurd et_q45.lt (Nat.not_lt.mpr (by rw [← h8]; exact h9))), fun j hj h8 => absurd (er_q45 j hj).lt (Nat.not_lt.mpr (by rw [← h8]; exact h9))⟩)))⟩⟩ rfl rfl hl.1 rfl (lv_room (Nat.le_of_ble_eq_true rfl)) dL_law_1157 ⟨(by show _ ≤ (600104 : Nat); omega), (by show _ ≤ (7301314 : Nat); omega)⟩) hS (fun z9 _ h9 => hA38A _ (hA49A _ (h9.1))) (fun z9 h9 => hA38A _ (hA49A _ (h9.1))) (fun z9 _ h9 => hA38A _ (hA49A _ (h9.1))) (fun ce q9 H locs c9 _ _ _ _ _ _ _ => absurd rfl c9) (fun H locs _ hB z1 o1 hS => ?_)
                                                                    have et_q35 := et_q35.kept (o1 _ et_q35.lt (fun h9 => hx_q35 h9.1))
                                                                    have et_q45 := et_q45.kept (o1 _ et_q45.lt (fun h9 => hx_q45 h9.1))
                                                                    have er_q45 := fun j hj => (er_q45 j hj).kept (o1 _ (er_q45 j hj).lt (fun h9 => hxr_q45 j hj h9.1))
                                                                    have hW := hW.afterC hB o1
                                                                    refine lv_if_eq (tgt := 1176) hx hb dL_law_1160 (by decide) (fun c201 => ?_) (fun c201 => ?_)
                                                                    · have hF := tc_it hF c201
                                                                      cases hF
                                                                    · have hF := tc_if hF c201
                                                                      refine lv_iload hx hb dL_law_1163 (lv_at hl 0 rfl) ?_
                                                                      refine lv_iload hx hb dL_law_1165 (lv_at hl 4 rfl) ?_
                                                                      refine lv_iload hx hb dL_law_1167 (lv_at hl 3 rfl) ?_
                                                                      refine lv_isub hx hb dL_law_1169 ?_
                                                                      refine va_mabs hx hb (by rw [hml]; exact hl.1.symm) hown (hts (.methodLink RL 59 Lib.Math.abs.name) (List.mem_of_getElem? (i := 6) rfl)) (hts (.static Lib.Math.abs.name) (List.mem_of_getElem? (i := 7) rfl)) (hts (.initialized "java/lang/Math") (List.mem_of_getElem? (i := 8) rfl)) (hts (.code Lib.Math.abs.name Lib.Math.abs.code 1 (some .int)) (List.mem_of_getElem? (i := 9) rfl)) (Nat.le_of_ble_eq_true rfl) (Nat.le_of_ble_eq_true rfl) ((by show _ ≤ (600104 : Nat); omega)) ((by show _ ≤ (7301314 : Nat); omega)) dL_law_1170 ?_
                                                                      refine lv_topi (fun v202 ev202 => ?_)
                                                                      have hF := tc_lt hF ev202
                                                                      refine lv_icmp_ge (tgt := 1178) hx hb dL_law_1173 (by decide) (fun c203 => ?_) (fun c203 => ?_)
                                                                      · have hF := tc_it hF c203
                                                                        exact Jkc187  E196 F197 _ _ _ hF (lv_sub hl [1, 2, 3, 4, 5, 6, 7, 8, 9, 10, 11] rfl) hW hEF et_q35 et_q45 er_q45 hS
                                                                      · have hF := tc_if hF c203
                                                                        cases hF
                                                                  refine lv_icmp_ne (tgt := 1153) hx hb dL_law_1143 (by decide) (fun c204 => ?_) (fun c204 => ?_)
                                                                  · have hF := tc_if hF c204
                                                                    exact Jkc198  E159 F160 _ _ _ hF (lv_sub hl [1, 2, 3, 4, 5, 6, 7, 8, 9, 10, 11, 12] rfl) hW hEF et_q35 et_q45 er_q45 hS
                                                                  · have hF := tc_it hF c204
                                                                    refine lv_iload hx hb dL_law_1146 (lv_at hl 3 rfl) ?_
                                                                    refine lv_iload hx hb dL_law_1148 (lv_at hl 2 rfl) ?_
                                                                    refine lv_icmp_gt (tgt := 1176) hx hb dL_law_1150 (by decide) (fun c205 => ?_) (fun c205 => ?_)
                                                                    · have hF := tc_it hF c205
                                                                      cases hF
                                                                    · have hF := tc_if hF c205
                                                                      exact Jkc198  E159 F160 _ _ _ hF (lv_sub hl [1, 2, 3, 4, 5, 6, 7, 8, 9, 10, 11, 12] rfl) hW hEF et_q35 et_q45 er_q45 hS
                                                          · have hF := tc_if hF c184
                                                            cases hF
                                                refine lv_if_ge (tgt := 1016) hx hb dL_law_1009 (by decide) (fun c206 => ?_) (fun c206 => ?_)
                                                · have hF := tc_it hF c206
                                                  refine lv_iconst (v := 1) hx hb dL_law_1016 (by decide) ?_
                                                  exact Jkc161 1 E145 F146 _ _ _ hF (lv_sub hl [0, 1, 2, 3, 4, 5, 6, 7, 8, 9, 10, 11, 12] rfl) hW hEF et_q35 et_q45 er_q45 hS
                                                · have hF := tc_if hF c206
                                                  refine lv_iconst (v := 0) hx hb dL_law_1012 (by decide) ?_
                                                  refine lv_goto (tgt := 1017) hx hb dL_law_1013 (by decide) ?_
                                                  exact Jkc161 0 E145 F146 _ _ _ hF (lv_sub hl [0, 1, 2, 3, 4, 5, 6, 7, 8, 9, 10, 11, 12] rfl) hW hEF et_q35 et_q45 er_q45 hS
                                          refine W.widen (k := ((211) + (61 - (n_24 + 1)) * 1434 + 1227) + (6 - 6) * 34 + 0) (n := ((5079) + (61 - (n_24 + 1)) * 8777 + 7535) + (6 - 6) * 204 + 0) (by omega) (by omega) ?_
                                          exact hL_958 6 (Nat.le_refl _) 0 E106 F107 _ _ _ hF (lv_sub hl [0, 1, 2, 3, 4, 8, 9, 12, 13, 14, 15] rfl) hW hEF et_q35 et_q45 er_q45 hS
                                        · have hF := tc_if hF c119
                                          cases hF
                              have hL_730 : ∀ (n_730 : Nat) (hn_730 : n_730 ≤ 17) (w207 : Int32) (w208 : Int32) (w209 : Int32) (E210 F211 : Nat → Nat) (H : Heap) (locs : List Loc) (ls : Array Slot), lp_L_law_730 n_730 x58 kc108 w207 w208 w209 = some 1 → lv_has ls 24 [(16, .int w207), (15, .int w208), (14, .int w209), (13, .int w96), (12, .int w97), (6, .int r89), (5, .int r91), (4, .int v26), (3, .int w18), (2, .ref (F211 0)), (1, .ref (E210 0)), (0, .ref b)] → tc_WL D cU cO cI cII cZ e0 A49 E210 F211 x58 z59 H → E210 0 = E 0 ∧ F211 0 = F 0 → va_at D vwCl (q35, .inl (cZ, r27.toNatClampNeg, .inl u41)) H → va_at D vwCl (q45, .inl (cII, r29.toNatClampNeg, .inr (.inr (.inr (.inr (fun j => some (r46 j))))))) H → (∀ j, j < r29.toNatClampNeg → va_at D vwCl (r46 j, .inl (cI, 9, .inl (u52 j))) H) → va_S A s.heap H locs → W p l e room_1 s m #[Value.ref b] below meth c H locs (((211) + (61 - (n_24 + 1)) * 1434 + 933) + (17 - n_730) * 17 + 0) (((5079) + (61 - (n_24 + 1)) * 8777 + 5771) + (17 - n_730) * 102 + 0) QQ (F0 m 730 ls []) := by
                                intro n_730
                                induction n_730 with
                                | zero => intro _; intro w207 w208 w209 E210 F211 H locs ls hF hl hW hEF et_q35 et_q45 er_q45 hS; rw [lp_L_law_730] at hF; cases hF
                                | succ n_730 ih_730 =>
                                  intro hn_730
                                  intro w207 w208 w209 E210 F211 H locs ls hF hl hW hEF et_q35 et_q45 er_q45 hS
                                  rw [lp_L_law_730] at hF
                                  refine lv_iload hx hb dL_law_730 (lv_at hl 0 rfl) ?_
                                  refine lv_bipush (v := 16) hx hb dL_law_732 (by decide) ?_
                                  refine lv_icmp_ge (tgt := 863) hx hb dL_law_734 (by decide) (fun c212 => ?_) (fun c212 => ?_)
                                  · have hF := tc_it hF c212
                                    refine W.widen (k := (211) + (61 - (n_24 + 1)) * 1434 + 1222) (n := (5079) + (61 - (n_24 + 1)) * 8777 + 7505) (by omega) (by omega) ?_
                                    exact Jkc108 w208 w209 E210 F211 _ _ _ hF (lv_sub hl [1, 2, 3, 4, 5, 6, 7, 8, 9, 10, 11] rfl) hW hEF et_q35 et_q45 er_q45 hS
                                  · have hF := tc_if hF c212
                                    refine lv_iload hx hb dL_law_737 (lv_at hl 2 rfl) ?_
                                    refine lv_aload_n hx hb dL_law_739 rfl (lv_at hl 10 rfl) ?_
                                    refine lv_iload hx hb dL_law_740 (lv_at hl 0 rfl) ?_
                                    refine lv_iconst (v := 0) hx hb dL_law_742 (by decide) ?_
                                    obtain ⟨r213, h214, hF⟩ := tc_bi hF
                                    have h214 := tc_rdx h214
                                    refine tc_cx (vx_runV (As := [.int w207, .int 0]) (rest := [.int w209]) ⟨hx, hb, hml, hown, hts⟩ (mt_X2_place l hst D cU cO cI e0 (tc_A1 A49 F211 z59) E210 x58 w207 0 0 r213 h214) (cwV 2 hts gL_law_X2_place rfl rfl rfl (by decide +kernel) ⟨Nat.le_of_ble_eq_true rfl, Nat.le_of_ble_eq_true rfl⟩) ⟨fun a U g mk q => ⟨q.1, q.2.1, q.2.2.call⟩, tc_rcv hW.1.o hK rfl, fun U hU hW9 => ⟨rfl, by rw [hU]; exact hW.1, ((hKX.go hS hU hW9).narrow (fun z9 h9 => hA38A _ (hA49A _ (h9.1))) (by rw [hU]; exact hW.newA (fun z9 h9 => by rw [eA49, eA38]; exact ⟨⟨hAn z9 (Nat.le_trans hS.1 h9), (fun h8 => absurd et_q35.lt (Nat.not_lt.mpr (by rw [← h8]; exact h9)))⟩, (fun h8 => absurd et_q45.lt (Nat.not_lt.mpr (by rw [← h8]; exact h9))), fun j hj h8 => absurd (er_q45 j hj).lt (Nat.not_lt.mpr (by rw [← h8]; exact h9))⟩)))⟩⟩ rfl rfl hl.1 rfl (lv_room (Nat.le_of_ble_eq_true rfl)) dL_law_743 ⟨(by show _ ≤ (600104 : Nat); omega), (by show _ ≤ (7301314 : Nat); omega)⟩) hS (fun z9 _ h9 => hA38A _ (hA49A _ (h9.1))) (fun z9 h9 => hA38A _ (hA49A _ (h9.1))) (fun z9 _ h9 => hA38A _ (hA49A _ (h9.1))) (fun ce q9 H locs c9 _ _ _ _ _ _ _ => absurd rfl c9) (fun H locs _ hB z1 o1 hS => ?_)
                                    have et_q35 := et_q35.kept (o1 _ et_q35.lt (fun h9 => hx_q35 h9.1))
                                    have et_q45 := et_q45.kept (o1 _ et_q45.lt (fun h9 => hx_q45 h9.1))
                                    have er_q45 := fun j hj => (er_q45 j hj).kept (o1 _ (er_q45 j hj).lt (fun h9 => hxr_q45 j hj h9.1))
                                    have hW := hW.afterC hB o1
                                    refine lv_iadd hx hb dL_law_746 ?_
                                    refine lv_topi (fun v215 ev215 => ?_)
                                    have hF := tc_lt hF ev215
                                    refine lv_istore (lv' := [(14, .int v215), (16, .int w207), (15, .int w208), (13, .int w96), (12, .int w97), (6, .int r89), (5, .int r91), (4, .int v26), (3, .int w18), (2, .ref (F211 0)), (1, .ref (E210 0)), (0, .ref b)]) hx hb dL_law_747 hl (by decide) rfl (fun ls hl => ?_)
                                    refine lv_iload hx hb dL_law_749 (lv_at hl 2 rfl) ?_
                                    refine lv_aload_n hx hb dL_law_751 rfl (lv_at hl 10 rfl) ?_
                                    refine lv_iload hx hb dL_law_752 (lv_at hl 1 rfl) ?_
                                    refine lv_iconst (v := 3) hx hb dL_law_754 (by decide) ?_
                                    obtain ⟨r216, h217, hF⟩ := tc_bi hF
                                    have h217 := tc_rdx h217
                                    refine tc_cx (vx_runV (As := [.int w207, .int 3]) (rest := [.int w208]) ⟨hx, hb, hml, hown, hts⟩ (mt_X2_place l hst D cU cO cI e0 (tc_A1 A49 F211 z59) E210 x58 w207 3 0 r216 h217) (cwV 2 hts gL_law_X2_place rfl rfl rfl (by decide +kernel) ⟨Nat.le_of_ble_eq_true rfl, Nat.le_of_ble_eq_true rfl⟩) ⟨fun a U g mk q => ⟨q.1, q.2.1, q.2.2.call⟩, tc_rcv hW.1.o hK rfl, fun U hU hW9 => ⟨rfl, by rw [hU]; exact hW.1, ((hKX.go hS hU hW9).narrow (fun z9 h9 => hA38A _ (hA49A _ (h9.1))) (by rw [hU]; exact hW.newA (fun z9 h9 => by rw [eA49, eA38]; exact ⟨⟨hAn z9 (Nat.le_trans hS.1 h9), (fun h8 => absurd et_q35.lt (Nat.not_lt.mpr (by rw [← h8]; exact h9)))⟩, (fun h8 => absurd et_q45.lt (Nat.not_lt.mpr (by rw [← h8]; exact h9))), fun j hj h8 => absurd (er_q45 j hj).lt (Nat.not_lt.mpr (by rw [← h8]; exact h9))⟩)))⟩⟩ rfl rfl hl.1 rfl (lv_room (Nat.le_of_ble_eq_true rfl)) dL_law_755 ⟨(by show _ ≤ (600104 : Nat); omega), (by show _ ≤ (7301314 : Nat); omega)⟩) hS (fun z9 _ h9 => hA38A _ (hA49A _ (h9.1))) (fun z9 h9 => hA38A _ (hA49A _ (h9.1))) (fun z9 _ h9 => hA38A _ (hA49A _ (h9.1))) (fun ce q9 H locs c9 _ _ _ _ _ _ _ => absurd rfl c9) (fun H locs _ hB z1 o1 hS => ?_)
                                    have et_q35 := et_q35.kept (o1 _ et_q35.lt (fun h9 => hx_q35 h9.1))
                                    have et_q45 := et_q45.kept (o1 _ et_q45.lt (fun h9 => hx_q45 h9.1))
                                    have er_q45 := fun j hj => (er_q45 j hj).kept (o1 _ (er_q45 j hj).lt (fun h9 => hxr_q45 j hj h9.1))
                                    have hW := hW.afterC hB o1
                                    refine lv_iadd hx hb dL_law_758 ?_
                                    refine lv_topi (fun v218 ev218 => ?_)
                                    have hF := tc_lt hF ev218
                                    refine lv_istore (lv' := [(15, .int v218), (14, .int v215), (16, .int w207), (13, .int w96), (12, .int w97), (6, .int r89), (5, .int r91), (4, .int v26), (3, .int w18), (2, .ref (F211 0)), (1, .ref (E210 0)), (0, .ref b)]) hx hb dL_law_759 hl (by decide) rfl (fun ls hl => ?_)
                                    refine lv_aload_n hx hb dL_law_761 rfl (lv_at hl 10 rfl) ?_
                                    refine lv_iload hx hb dL_law_762 (lv_at hl 2 rfl) ?_
                                    refine lv_iconst (v := 0) hx hb dL_law_764 (by decide) ?_
                                    obtain ⟨r219, h220, hF⟩ := tc_bi hF
                                    have h220 := tc_rdx h220
                                    refine tc_cx (vx_runV (As := [.int w207, .int 0]) (rest := []) ⟨hx, hb, hml, hown, hts⟩ (mt_X2_place l hst D cU cO cI e0 (tc_A1 A49 F211 z59) E210 x58 w207 0 0 r219 h220) (cwV 2 hts gL_law_X2_place rfl rfl rfl (by decide +kernel) ⟨Nat.le_of_ble_eq_true rfl, Nat.le_of_ble_eq_true rfl⟩) ⟨fun a U g mk q => ⟨q.1, q.2.1, q.2.2.call⟩, tc_rcv hW.1.o hK rfl, fun U hU hW9 => ⟨rfl, by rw [hU]; exact hW.1, ((hKX.go hS hU hW9).narrow (fun z9 h9 => hA38A _ (hA49A _ (h9.1))) (by rw [hU]; exact hW.newA (fun z9 h9 => by rw [eA49, eA38]; exact ⟨⟨hAn z9 (Nat.le_trans hS.1 h9), (fun h8 => absurd et_q35.lt (Nat.not_lt.mpr (by rw [← h8]; exact h9)))⟩, (fun h8 => absurd et_q45.lt (Nat.not_lt.mpr (by rw [← h8]; exact h9))), fun j hj h8 => absurd (er_q45 j hj).lt (Nat.not_lt.mpr (by rw [← h8]; exact h9))⟩)))⟩⟩ rfl rfl hl.1 rfl (lv_room (Nat.le_of_ble_eq_true rfl)) dL_law_765 ⟨(by show _ ≤ (600104 : Nat); omega), (by show _ ≤ (7301314 : Nat); omega)⟩) hS (fun z9 _ h9 => hA38A _ (hA49A _ (h9.1))) (fun z9 h9 => hA38A _ (hA49A _ (h9.1))) (fun z9 _ h9 => hA38A _ (hA49A _ (h9.1))) (fun ce q9 H locs c9 _ _ _ _ _ _ _ => absurd rfl c9) (fun H locs _ hB z1 o1 hS => ?_)
                                    have et_q35 := et_q35.kept (o1 _ et_q35.lt (fun h9 => hx_q35 h9.1))
                                    have et_q45 := et_q45.kept (o1 _ et_q45.lt (fun h9 => hx_q45 h9.1))
                                    have er_q45 := fun j hj => (er_q45 j hj).kept (o1 _ (er_q45 j hj).lt (fun h9 => hxr_q45 j hj h9.1))
                                    have hW := hW.afterC hB o1
                                    refine lv_bipush (v := 8) hx hb dL_law_768 (by decide) ?_
                                    refine lv_icmp_gt (tgt := 855) hx hb dL_law_770 (by decide) (fun c221 => ?_) (fun c221 => ?_)
                                    · have hF := tc_it hF c221
                                      cases hF
                                    · have hF := tc_if hF c221
                                      refine lv_aload_n hx hb dL_law_773 rfl (lv_at hl 10 rfl) ?_
                                      refine lv_iload hx hb dL_law_774 (lv_at hl 2 rfl) ?_
                                      refine lv_iconst (v := 0) hx hb dL_law_776 (by decide) ?_
                                      obtain ⟨r222, h223, hF⟩ := tc_bi hF
                                      have h223 := tc_rdx h223
                                      refine tc_cx (vx_runV (As := [.int w207, .int 0]) (rest := []) ⟨hx, hb, hml, hown, hts⟩ (mt_X2_place l hst D cU cO cI e0 (tc_A1 A49 F211 z59) E210 x58 w207 0 0 r222 h223) (cwV 2 hts gL_law_X2_place rfl rfl rfl (by decide +kernel) ⟨Nat.le_of_ble_eq_true rfl, Nat.le_of_ble_eq_true rfl⟩) ⟨fun a U g mk q => ⟨q.1, q.2.1, q.2.2.call⟩, tc_rcv hW.1.o hK rfl, fun U hU hW9 => ⟨rfl, by rw [hU]; exact hW.1, ((hKX.go hS hU hW9).narrow (fun z9 h9 => hA38A _ (hA49A _ (h9.1))) (by rw [hU]; exact hW.newA (fun z9 h9 => by rw [eA49, eA38]; exact ⟨⟨hAn z9 (Nat.le_trans hS.1 h9), (fun h8 => absurd et_q35.lt (Nat.not_lt.mpr (by rw [← h8]; exact h9)))⟩, (fun h8 => absurd et_q45.lt (Nat.not_lt.mpr (by rw [← h8]; exact h9))), fun j hj h8 => absurd (er_q45 j hj).lt (Nat.not_lt.mpr (by rw [← h8]; exact h9))⟩)))⟩⟩ rfl rfl hl.1 rfl (lv_room (Nat.le_of_ble_eq_true rfl)) dL_law_777 ⟨(by show _ ≤ (600104 : Nat); omega), (by show _ ≤ (7301314 : Nat); omega)⟩) hS (fun z9 _ h9 => hA38A _ (hA49A _ (h9.1))) (fun z9 h9 => hA38A _ (hA49A _ (h9.1))) (fun z9 _ h9 => hA38A _ (hA49A _ (h9.1))) (fun ce q9 H locs c9 _ _ _ _ _ _ _ => absurd rfl c9) (fun H locs _ hB z1 o1 hS => ?_)
                                      have et_q35 := et_q35.kept (o1 _ et_q35.lt (fun h9 => hx_q35 h9.1))
                                      have et_q45 := et_q45.kept (o1 _ et_q45.lt (fun h9 => hx_q45 h9.1))
                                      have er_q45 := fun j hj => (er_q45 j hj).kept (o1 _ (er_q45 j hj).lt (fun h9 => hxr_q45 j hj h9.1))
                                      have hW := hW.afterC hB o1
                                      refine lv_aload_n hx hb dL_law_780 rfl (lv_at hl 10 rfl) ?_
                                      refine lv_bipush (v := 6) hx hb dL_law_781 (by decide) ?_
                                      obtain ⟨r224, h225, hF⟩ := tc_bi hF
                                      have h225 := tc_rdx h225
                                      refine tc_cx (vx_runV (As := [.int 6]) (rest := [.int r222]) ⟨hx, hb, hml, hown, hts⟩ (mt_X2_count l hst D cU cO cI e0 (tc_A1 A49 F211 z59) E210 x58 6 0 r224 h225) (cwV 1 hts gL_law_X2_count rfl rfl rfl (by decide +kernel) ⟨Nat.le_of_ble_eq_true rfl, Nat.le_of_ble_eq_true rfl⟩) ⟨fun a U g mk q => ⟨q.1, q.2.1, q.2.2.call⟩, tc_rcv hW.1.o hK rfl, fun U hU hW9 => ⟨rfl, by rw [hU]; exact hW.1, ((hKX.go hS hU hW9).narrow (fun z9 h9 => hA38A _ (hA49A _ (h9.1))) (by rw [hU]; exact hW.newA (fun z9 h9 => by rw [eA49, eA38]; exact ⟨⟨hAn z9 (Nat.le_trans hS.1 h9), (fun h8 => absurd et_q35.lt (Nat.not_lt.mpr (by rw [← h8]; exact h9)))⟩, (fun h8 => absurd et_q45.lt (Nat.not_lt.mpr (by rw [← h8]; exact h9))), fun j hj h8 => absurd (er_q45 j hj).lt (Nat.not_lt.mpr (by rw [← h8]; exact h9))⟩)))⟩⟩ rfl rfl hl.1 rfl (lv_room (Nat.le_of_ble_eq_true rfl)) dL_law_783 ⟨(by show _ ≤ (600104 : Nat); omega), (by show _ ≤ (7301314 : Nat); omega)⟩) hS (fun z9 _ h9 => hA38A _ (hA49A _ (h9.1))) (fun z9 h9 => hA38A _ (hA49A _ (h9.1))) (fun z9 _ h9 => hA38A _ (hA49A _ (h9.1))) (fun ce q9 H locs c9 _ _ _ _ _ _ _ => absurd rfl c9) (fun H locs _ hB z1 o1 hS => ?_)
                                      have et_q35 := et_q35.kept (o1 _ et_q35.lt (fun h9 => hx_q35 h9.1))
                                      have et_q45 := et_q45.kept (o1 _ et_q45.lt (fun h9 => hx_q45 h9.1))
                                      have er_q45 := fun j hj => (er_q45 j hj).kept (o1 _ (er_q45 j hj).lt (fun h9 => hxr_q45 j hj h9.1))
                                      have hW := hW.afterC hB o1
                                      refine lv_icmp_gt (tgt := 855) hx hb dL_law_786 (by decide) (fun c226 => ?_) (fun c226 => ?_)
                                      · have hF := tc_it hF c226
                                        cases hF
                                      · have hF := tc_if hF c226
                                        refine lv_aload_n hx hb dL_law_789 rfl (lv_at hl 10 rfl) ?_
                                        refine lv_iload hx hb dL_law_790 (lv_at hl 2 rfl) ?_
                                        refine lv_iconst (v := 0) hx hb dL_law_792 (by decide) ?_
                                        obtain ⟨r227, h228, hF⟩ := tc_bi hF
                                        have h228 := tc_rdx h228
                                        refine tc_cx (vx_runV (As := [.int w207, .int 0]) (rest := []) ⟨hx, hb, hml, hown, hts⟩ (mt_X2_place l hst D cU cO cI e0 (tc_A1 A49 F211 z59) E210 x58 w207 0 0 r227 h228) (cwV 2 hts gL_law_X2_place rfl rfl rfl (by decide +kernel) ⟨Nat.le_of_ble_eq_true rfl, Nat.le_of_ble_eq_true rfl⟩) ⟨fun a U g mk q => ⟨q.1, q.2.1, q.2.2.call⟩, tc_rcv hW.1.o hK rfl, fun U hU hW9 => ⟨rfl, by rw [hU]; exact hW.1, ((hKX.go hS hU hW9).narrow (fun z9 h9 => hA38A _ (hA49A _ (h9.1))) (by rw [hU]; exact hW.newA (fun z9 h9 => by rw [eA49, eA38]; exact ⟨⟨hAn z9 (Nat.le_trans hS.1 h9), (fun h8 => absurd et_q35.lt (Nat.not_lt.mpr (by rw [← h8]; exact h9)))⟩, (fun h8 => absurd et_q45.lt (Nat.not_lt.mpr (by rw [← h8]; exact h9))), fun j hj h8 => absurd (er_q45 j hj).lt (Nat.not_lt.mpr (by rw [← h8]; exact h9))⟩)))⟩⟩ rfl rfl hl.1 rfl (lv_room (Nat.le_of_ble_eq_true rfl)) dL_law_793 ⟨(by show _ ≤ (600104 : Nat); omega), (by show _ ≤ (7301314 : Nat); omega)⟩) hS (fun z9 _ h9 => hA38A _ (hA49A _ (h9.1))) (fun z9 h9 => hA38A _ (hA49A _ (h9.1))) (fun z9 _ h9 => hA38A _ (hA49A _ (h9.1))) (fun ce q9 H locs c9 _ _ _ _ _ _ _ => absurd rfl c9) (fun H locs _ hB z1 o1 hS => ?_)
                                        have et_q35 := et_q35.kept (o1 _ et_q35.lt (fun h9 => hx_q35 h9.1))
                                        have et_q45 := et_q45.kept (o1 _ et_q45.lt (fun h9 => hx_q45 h9.1))
                                        have er_q45 := fun j hj => (er_q45 j hj).kept (o1 _ (er_q45 j hj).lt (fun h9 => hxr_q45 j hj h9.1))
                                        have hW := hW.afterC hB o1
                                        obtain ⟨kc232, ekc232, hF⟩ := tc_jx hF
                                        have Jkc232 : ∀ (w229 : Int32) (E230 F231 : Nat → Nat) (H : Heap) (locs : List Loc) (ls : Array Slot), kc232 w229 = some 1 → lv_has ls 24 [(16, .int w207), (15, .int v218), (14, .int v215), (13, .int w96), (12, .int w97), (6, .int r89), (5, .int r91), (4, .int v26), (3, .int w18), (2, .ref (F231 0)), (1, .ref (E230 0)), (0, .ref b)] → tc_WL D cU cO cI cII cZ e0 A49 E230 F231 x58 z59 H → E230 0 = E 0 ∧ F231 0 = F 0 → va_at D vwCl (q35, .inl (cZ, r27.toNatClampNeg, .inl u41)) H → va_at D vwCl (q45, .inl (cII, r29.toNatClampNeg, .inr (.inr (.inr (.inr (fun j => some (r46 j))))))) H → (∀ j, j < r29.toNatClampNeg → va_at D vwCl (r46 j, .inl (cI, 9, .inl (u52 j))) H) → va_S A s.heap H locs → W p l e room_1 s m #[Value.ref b] below meth c H locs (((211) + (61 - (n_24 + 1)) * 1434 + 933) + (17 - (n_730 + 1)) * 17 + 11) (((5079) + (61 - (n_24 + 1)) * 8777 + 5771) + (17 - (n_730 + 1)) * 102 + 66) QQ (F0 m 804 ls [.int w229]) := by
                                          intro w229 E230 F231 H locs ls hF hl hW hEF et_q35 et_q45 er_q45 hS
                                          rw [ekc232] at hF
                                          dsimp only at hF
                                          refine lv_aload_n hx hb dL_law_804 rfl (lv_at hl 10 rfl) ?_
                                          refine lv_iload hx hb dL_law_805 (lv_at hl 0 rfl) ?_
                                          refine lv_iconst (v := 1) hx hb dL_law_807 (by decide) ?_
                                          obtain ⟨r233, h234, hF⟩ := tc_bi hF
                                          have h234 := tc_rdx h234
                                          refine tc_cx (vx_runV (As := [.int w207, .int 1]) (rest := [.int w229]) ⟨hx, hb, hml, hown, hts⟩ (mt_X2_place l hst D cU cO cI e0 (tc_A1 A49 F231 z59) E230 x58 w207 1 0 r233 h234) (cwV 2 hts gL_law_X2_place rfl rfl rfl (by decide +kernel) ⟨Nat.le_of_ble_eq_true rfl, Nat.le_of_ble_eq_true rfl⟩) ⟨fun a U g mk q => ⟨q.1, q.2.1, q.2.2.call⟩, tc_rcv hW.1.o hK rfl, fun U hU hW9 => ⟨rfl, by rw [hU]; exact hW.1, ((hKX.go hS hU hW9).narrow (fun z9 h9 => hA38A _ (hA49A _ (h9.1))) (by rw [hU]; exact hW.newA (fun z9 h9 => by rw [eA49, eA38]; exact ⟨⟨hAn z9 (Nat.le_trans hS.1 h9), (fun h8 => absurd et_q35.lt (Nat.not_lt.mpr (by rw [← h8]; exact h9)))⟩, (fun h8 => absurd et_q45.lt (Nat.not_lt.mpr (by rw [← h8]; exact h9))), fun j hj h8 => absurd (er_q45 j hj).lt (Nat.not_lt.mpr (by rw [← h8]; exact h9))⟩)))⟩⟩ rfl rfl hl.1 rfl (lv_room (Nat.le_of_ble_eq_true rfl)) dL_law_808 ⟨(by show _ ≤ (600104 : Nat); omega), (by show _ ≤ (7301314 : Nat); omega)⟩) hS (fun z9 _ h9 => hA38A _ (hA49A _ (h9.1))) (fun z9 h9 => hA38A _ (hA49A _ (h9.1))) (fun z9 _ h9 => hA38A _ (hA49A _ (h9.1))) (fun ce q9 H locs c9 _ _ _ _ _ _ _ => absurd rfl c9) (fun H locs _ hB z1 o1 hS => ?_)
                                          have et_q35 := et_q35.kept (o1 _ et_q35.lt (fun h9 => hx_q35 h9.1))
                                          have et_q45 := et_q45.kept (o1 _ et_q45.lt (fun h9 => hx_q45 h9.1))
                                          have er_q45 := fun j hj => (er_q45 j hj).kept (o1 _ (er_q45 j hj).lt (fun h9 => hxr_q45 j hj h9.1))
                                          have hW := hW.afterC hB o1
                                          obtain ⟨kc238, ekc238, hF⟩ := tc_jx hF
                                          have Jkc238 : ∀ (w235 : Int32) (E236 F237 : Nat → Nat) (H : Heap) (locs : List Loc) (ls : Array Slot), kc238 w235 = some 1 → lv_has ls 24 [(16, .int w207), (15, .int v218), (14, .int v215), (13, .int w96), (12, .int w97), (6, .int r89), (5, .int r91), (4, .int v26), (3, .int w18), (2, .ref (F237 0)), (1, .ref (E236 0)), (0, .ref b)] → tc_WL D cU cO cI cII cZ e0 A49 E236 F237 x58 z59 H → E236 0 = E 0 ∧ F237 0 = F 0 → va_at D vwCl (q35, .inl (cZ, r27.toNatClampNeg, .inl u41)) H → va_at D vwCl (q45, .inl (cII, r29.toNatClampNeg, .inr (.inr (.inr (.inr (fun j => some (r46 j))))))) H → (∀ j, j < r29.toNatClampNeg → va_at D vwCl (r46 j, .inl (cI, 9, .inl (u52 j))) H) → va_S A s.heap H locs → W p l e room_1 s m #[Value.ref b] below meth c H locs (((211) + (61 - (n_24 + 1)) * 1434 + 933) + (17 - (n_730 + 1)) * 17 + 13) (((5079) + (61 - (n_24 + 1)) * 8777 + 5771) + (17 - (n_730 + 1)) * 102 + 78) QQ (F0 m 819 ls [.int w235, .int w229]) := by
                                            intro w235 E236 F237 H locs ls hF hl hW hEF et_q35 et_q45 er_q45 hS
                                            rw [ekc238] at hF
                                            dsimp only at hF
                                            refine lv_icmp_ne (tgt := 855) hx hb dL_law_819 (by decide) (fun c239 => ?_) (fun c239 => ?_)
                                            · have hF := tc_if hF c239
                                              cases hF
                                            · have hF := tc_it hF c239
                                              refine lv_aload_n hx hb dL_law_822 rfl (lv_at hl 10 rfl) ?_
                                              refine lv_iload hx hb dL_law_823 (lv_at hl 0 rfl) ?_
                                              refine lv_iconst (v := 0) hx hb dL_law_825 (by decide) ?_
                                              obtain ⟨r240, h241, hF⟩ := tc_bi hF
                                              have h241 := tc_rdx h241
                                              refine tc_cx (vx_runV (As := [.int w207, .int 0]) (rest := []) ⟨hx, hb, hml, hown, hts⟩ (mt_X2_place l hst D cU cO cI e0 (tc_A1 A49 F237 z59) E236 x58 w207 0 0 r240 h241) (cwV 2 hts gL_law_X2_place rfl rfl rfl (by decide +kernel) ⟨Nat.le_of_ble_eq_true rfl, Nat.le_of_ble_eq_true rfl⟩) ⟨fun a U g mk q => ⟨q.1, q.2.1, q.2.2.call⟩, tc_rcv hW.1.o hK rfl, fun U hU hW9 => ⟨rfl, by rw [hU]; exact hW.1, ((hKX.go hS hU hW9).narrow (fun z9 h9 => hA38A _ (hA49A _ (h9.1))) (by rw [hU]; exact hW.newA (fun z9 h9 => by rw [eA49, eA38]; exact ⟨⟨hAn z9 (Nat.le_trans hS.1 h9), (fun h8 => absurd et_q35.lt (Nat.not_lt.mpr (by rw [← h8]; exact h9)))⟩, (fun h8 => absurd et_q45.lt (Nat.not_lt.mpr (by rw [← h8]; exact h9))), fun j hj h8 => absurd (er_q45 j hj).lt (Nat.not_lt.mpr (by rw [← h8]; exact h9))⟩)))⟩⟩ rfl rfl hl.1 rfl (lv_room (Nat.le_of_ble_eq_true rfl)) dL_law_826 ⟨(by show _ ≤ (600104 : Nat); omega), (by show _ ≤ (7301314 : Nat); omega)⟩) hS (fun z9 _ h9 => hA38A _ (hA49A _ (h9.1))) (fun z9 h9 => hA38A _ (hA49A _ (h9.1))) (fun z9 _ h9 => hA38A _ (hA49A _ (h9.1))) (fun ce q9 H locs c9 _ _ _ _ _ _ _ => absurd rfl c9) (fun H locs _ hB z1 o1 hS => ?_)
                                              have et_q35 := et_q35.kept (o1 _ et_q35.lt (fun h9 => hx_q35 h9.1))
                                              have et_q45 := et_q45.kept (o1 _ et_q45.lt (fun h9 => hx_q45 h9.1))
                                              have er_q45 := fun j hj => (er_q45 j hj).kept (o1 _ (er_q45 j hj).lt (fun h9 => hxr_q45 j hj h9.1))
                                              have hW := hW.afterC hB o1
                                              obtain ⟨kc245, ekc245, hF⟩ := tc_jx hF
                                              have Jkc245 : ∀ (w242 : Int32) (E243 F244 : Nat → Nat) (H : Heap) (locs : List Loc) (ls : Array Slot), kc245 w242 = some 1 → lv_has ls 24 [(16, .int w207), (15, .int v218), (14, .int v215), (13, .int w96), (12, .int w97), (6, .int r89), (5, .int r91), (4, .int v26), (3, .int w18), (2, .ref (F244 0)), (1, .ref (E243 0)), (0, .ref b)] → tc_WL D cU cO cI cII cZ e0 A49 E243 F244 x58 z59 H → E243 0 = E 0 ∧ F244 0 = F 0 → va_at D vwCl (q35, .inl (cZ, r27.toNatClampNeg, .inl u41)) H → va_at D vwCl (q45, .inl (cII, r29.toNatClampNeg, .inr (.inr (.inr (.inr (fun j => some (r46 j))))))) H → (∀ j, j < r29.toNatClampNeg → va_at D vwCl (r46 j, .inl (cI, 9, .inl (u52 j))) H) → va_S A s.heap H locs → W p l e room_1 s m #[Value.ref b] below meth c H locs (((211) + (61 - (n_24 + 1)) * 1434 + 933) + (17 - (n_730 + 1)) * 17 + 15) (((5079) + (61 - (n_24 + 1)) * 8777 + 5771) + (17 - (n_730 + 1)) * 102 + 90) QQ (F0 m 837 ls [.int w242]) := by
                                                intro w242 E243 F244 H locs ls hF hl hW hEF et_q35 et_q45 er_q45 hS
                                                rw [ekc245] at hF
                                                dsimp only at hF
                                                refine lv_aload_n hx hb dL_law_837 rfl (lv_at hl 10 rfl) ?_
                                                refine lv_iload hx hb dL_law_838 (lv_at hl 0 rfl) ?_
                                                refine lv_iconst (v := 2) hx hb dL_law_840 (by decide) ?_
                                                obtain ⟨r246, h247, hF⟩ := tc_bi hF
                                                have h247 := tc_rdx h247
                                                refine tc_cx (vx_runV (As := [.int w207, .int 2]) (rest := [.int w242]) ⟨hx, hb, hml, hown, hts⟩ (mt_X2_place l hst D cU cO cI e0 (tc_A1 A49 F244 z59) E243 x58 w207 2 0 r246 h247) (cwV 2 hts gL_law_X2_place rfl rfl rfl (by decide +kernel) ⟨Nat.le_of_ble_eq_true rfl, Nat.le_of_ble_eq_true rfl⟩) ⟨fun a U g mk q => ⟨q.1, q.2.1, q.2.2.call⟩, tc_rcv hW.1.o hK rfl, fun U hU hW9 => ⟨rfl, by rw [hU]; exact hW.1, ((hKX.go hS hU hW9).narrow (fun z9 h9 => hA38A _ (hA49A _ (h9.1))) (by rw [hU]; exact hW.newA (fun z9 h9 => by rw [eA49, eA38]; exact ⟨⟨hAn z9 (Nat.le_trans hS.1 h9), (fun h8 => absurd et_q35.lt (Nat.not_lt.mpr (by rw [← h8]; exact h9)))⟩, (fun h8 => absurd et_q45.lt (Nat.not_lt.mpr (by rw [← h8]; exact h9))), fun j hj h8 => absurd (er_q45 j hj).lt (Nat.not_lt.mpr (by rw [← h8]; exact h9))⟩)))⟩⟩ rfl rfl hl.1 rfl (lv_room (Nat.le_of_ble_eq_true rfl)) dL_law_841 ⟨(by show _ ≤ (600104 : Nat); omega), (by show _ ≤ (7301314 : Nat); omega)⟩) hS (fun z9 _ h9 => hA38A _ (hA49A _ (h9.1))) (fun z9 h9 => hA38A _ (hA49A _ (h9.1))) (fun z9 _ h9 => hA38A _ (hA49A _ (h9.1))) (fun ce q9 H locs c9 _ _ _ _ _ _ _ => absurd rfl c9) (fun H locs _ hB z1 o1 hS => ?_)
                                                have et_q35 := et_q35.kept (o1 _ et_q35.lt (fun h9 => hx_q35 h9.1))
                                                have et_q45 := et_q45.kept (o1 _ et_q45.lt (fun h9 => hx_q45 h9.1))
                                                have er_q45 := fun j hj => (er_q45 j hj).kept (o1 _ (er_q45 j hj).lt (fun h9 => hxr_q45 j hj h9.1))
                                                have hW := hW.afterC hB o1
                                                obtain ⟨kc251, ekc251, hF⟩ := tc_jx hF
                                                have Jkc251 : ∀ (w248 : Int32) (E249 F250 : Nat → Nat) (H : Heap) (locs : List Loc) (ls : Array Slot), kc251 w248 = some 1 → lv_has ls 24 [(16, .int w207), (15, .int v218), (14, .int v215), (13, .int w96), (12, .int w97), (6, .int r89), (5, .int r91), (4, .int v26), (3, .int w18), (2, .ref (F250 0)), (1, .ref (E249 0)), (0, .ref b)] → tc_WL D cU cO cI cII cZ e0 A49 E249 F250 x58 z59 H → E249 0 = E 0 ∧ F250 0 = F 0 → va_at D vwCl (q35, .inl (cZ, r27.toNatClampNeg, .inl u41)) H → va_at D vwCl (q45, .inl (cII, r29.toNatClampNeg, .inr (.inr (.inr (.inr (fun j => some (r46 j))))))) H → (∀ j, j < r29.toNatClampNeg → va_at D vwCl (r46 j, .inl (cI, 9, .inl (u52 j))) H) → va_S A s.heap H locs → W p l e room_1 s m #[Value.ref b] below meth c H locs (((211) + (61 - (n_24 + 1)) * 1434 + 933) + (17 - (n_730 + 1)) * 17 + 17) (((5079) + (61 - (n_24 + 1)) * 8777 + 5771) + (17 - (n_730 + 1)) * 102 + 102) QQ (F0 m 852 ls [.int w248, .int w242]) := by
                                                  intro w248 E249 F250 H locs ls hF hl hW hEF et_q35 et_q45 er_q45 hS
                                                  rw [ekc251] at hF
                                                  dsimp only at hF
                                                  refine lv_icmp_eq (tgt := 857) hx hb dL_law_852 (by decide) (fun c252 => ?_) (fun c252 => ?_)
                                                  · have hF := tc_it hF c252
                                                    obtain ⟨v253, ev253⟩ : ∃ z9 : Int32, z9 = w207 + 1 := ⟨_, rfl⟩
                                                    have hF := tc_lt hF ev253
                                                    refine lv_iinc (v := v253) (lv' := [(16, .int v253), (15, .int v218), (14, .int v215), (13, .int w96), (12, .int w97), (6, .int r89), (5, .int r91), (4, .int v26), (3, .int w18), (2, .ref (F250 0)), (1, .ref (E249 0)), (0, .ref b)]) hx hb dL_law_857 hl (k := 0) rfl (by rw [ev253]; rfl) (by decide) rfl (fun ls hl => ?_)
                                                    refine lv_goto (tgt := 730) hx hb dL_law_860 (by decide) ?_
                                                    refine W.widen (k := ((211) + (61 - (n_24 + 1)) * 1434 + 933) + (17 - n_730) * 17 + 0) (n := ((5079) + (61 - (n_24 + 1)) * 8777 + 5771) + (17 - n_730) * 102 + 0) (by omega) (by omega) ?_
                                                    exact ih_730 (Nat.le_of_succ_le hn_730) v253 v218 v215 E249 F250 _ _ _ hF (lv_sub hl [0, 1, 2, 3, 4, 5, 6, 7, 8, 9, 10, 11] rfl) hW hEF et_q35 et_q45 er_q45 hS
                                                  · have hF := tc_if hF c252
                                                    cases hF
                                                refine lv_if_ne (tgt := 851) hx hb dL_law_844 (by decide) (fun c254 => ?_) (fun c254 => ?_)
                                                · have hF := tc_if hF c254
                                                  refine lv_iconst (v := 0) hx hb dL_law_851 (by decide) ?_
                                                  exact Jkc251 0 E243 F244 _ _ _ hF (lv_sub hl [0, 1, 2, 3, 4, 5, 6, 7, 8, 9, 10, 11] rfl) hW hEF et_q35 et_q45 er_q45 hS
                                                · have hF := tc_it hF c254
                                                  refine lv_iconst (v := 1) hx hb dL_law_847 (by decide) ?_
                                                  refine lv_goto (tgt := 852) hx hb dL_law_848 (by decide) ?_
                                                  exact Jkc251 1 E243 F244 _ _ _ hF (lv_sub hl [0, 1, 2, 3, 4, 5, 6, 7, 8, 9, 10, 11] rfl) hW hEF et_q35 et_q45 er_q45 hS
                                              refine lv_if_ne (tgt := 836) hx hb dL_law_829 (by decide) (fun c255 => ?_) (fun c255 => ?_)
                                              · have hF := tc_if hF c255
                                                refine lv_iconst (v := 0) hx hb dL_law_836 (by decide) ?_
                                                exact Jkc245 0 E236 F237 _ _ _ hF (lv_sub hl [0, 1, 2, 3, 4, 5, 6, 7, 8, 9, 10, 11] rfl) hW hEF et_q35 et_q45 er_q45 hS
                                              · have hF := tc_it hF c255
                                                refine lv_iconst (v := 1) hx hb dL_law_832 (by decide) ?_
                                                refine lv_goto (tgt := 837) hx hb dL_law_833 (by decide) ?_
                                                exact Jkc245 1 E236 F237 _ _ _ hF (lv_sub hl [0, 1, 2, 3, 4, 5, 6, 7, 8, 9, 10, 11] rfl) hW hEF et_q35 et_q45 er_q45 hS
                                          refine lv_if_ge (tgt := 818) hx hb dL_law_811 (by decide) (fun c256 => ?_) (fun c256 => ?_)
                                          · have hF := tc_it hF c256
                                            refine lv_iconst (v := 0) hx hb dL_law_818 (by decide) ?_
                                            exact Jkc238 0 E230 F231 _ _ _ hF (lv_sub hl [0, 1, 2, 3, 4, 5, 6, 7, 8, 9, 10, 11] rfl) hW hEF et_q35 et_q45 er_q45 hS
                                          · have hF := tc_if hF c256
                                            refine lv_iconst (v := 1) hx hb dL_law_814 (by decide) ?_
                                            refine lv_goto (tgt := 819) hx hb dL_law_815 (by decide) ?_
                                            exact Jkc238 1 E230 F231 _ _ _ hF (lv_sub hl [0, 1, 2, 3, 4, 5, 6, 7, 8, 9, 10, 11] rfl) hW hEF et_q35 et_q45 er_q45 hS
                                        refine lv_if_ne (tgt := 803) hx hb dL_law_796 (by decide) (fun c257 => ?_) (fun c257 => ?_)
                                        · have hF := tc_if hF c257
                                          refine lv_iconst (v := 0) hx hb dL_law_803 (by decide) ?_
                                          exact Jkc232 0 E210 F211 _ _ _ hF (lv_sub hl [2, 0, 1, 3, 4, 5, 6, 7, 8, 9, 10, 11] rfl) hW hEF et_q35 et_q45 er_q45 hS
                                        · have hF := tc_it hF c257
                                          refine lv_iconst (v := 1) hx hb dL_law_799 (by decide) ?_
                                          refine lv_goto (tgt := 804) hx hb dL_law_800 (by decide) ?_
                                          exact Jkc232 1 E210 F211 _ _ _ hF (lv_sub hl [2, 0, 1, 3, 4, 5, 6, 7, 8, 9, 10, 11] rfl) hW hEF et_q35 et_q45 er_q45 hS
                              refine W.widen (k := ((211) + (61 - (n_24 + 1)) * 1434 + 933) + (17 - 17) * 17 + 0) (n := ((5079) + (61 - (n_24 + 1)) * 8777 + 5771) + (17 - 17) * 102 + 0) (by omega) (by omega) ?_
                              exact hL_730 17 (Nat.le_refl _) 0 0 0 E98 F99 _ _ _ hF (lv_sub hl [0, 1, 2, 3, 4, 5, 6, 7, 8, 9, 10, 11] rfl) hW hEF et_q35 et_q45 er_q45 hS
                            have hL_526 : ∀ (n_526 : Nat) (hn_526 : n_526 ≤ 41) (w258 : Int32) (w259 : Int32) (w260 : Int32) (E261 F262 : Nat → Nat) (H : Heap) (locs : List Loc) (ls : Array Slot), lp_L_law_526 n_526 x58 r91 kc100 w258 w259 w260 = some 1 → lv_has ls 24 [(14, .int w258), (13, .int w259), (12, .int w260), (6, .int r89), (5, .int r91), (4, .int v26), (3, .int w18), (2, .ref (F262 0)), (1, .ref (E261 0)), (0, .ref b)] → tc_WL D cU cO cI cII cZ e0 A49 E261 F262 x58 z59 H → E261 0 = E 0 ∧ F262 0 = F 0 → va_at D vwCl (q35, .inl (cZ, r27.toNatClampNeg, .inl u41)) H → va_at D vwCl (q45, .inl (cII, r29.toNatClampNeg, .inr (.inr (.inr (.inr (fun j => some (r46 j))))))) H → (∀ j, j < r29.toNatClampNeg → va_at D vwCl (r46 j, .inl (cI, 9, .inl (u52 j))) H) → va_S A s.heap H locs → W p l e room_1 s m #[Value.ref b] below meth c H locs (((211) + (61 - (n_24 + 1)) * 1434 + 441) + (41 - n_526) * 12 + 0) (((5079) + (61 - (n_24 + 1)) * 8777 + 2819) + (41 - n_526) * 72 + 0) QQ (F0 m 526 ls []) := by
                              intro n_526
                              induction n_526 with
                              | zero => intro _; intro w258 w259 w260 E261 F262 H locs ls hF hl hW hEF et_q35 et_q45 er_q45 hS; rw [lp_L_law_526] at hF; cases hF
                              | succ n_526 ih_526 =>
                                intro hn_526
                                intro w258 w259 w260 E261 F262 H locs ls hF hl hW hEF et_q35 et_q45 er_q45 hS
                                rw [lp_L_law_526] at hF
                                refine lv_iload hx hb dL_law_526 (lv_at hl 0 rfl) ?_
                                refine lv_iload hx hb dL_law_528 (lv_at hl 4 rfl) ?_
                                refine lv_icmp_ge (tgt := 721) hx hb dL_law_530 (by decide) (fun c263 => ?_) (fun c263 => ?_)
                                · have hF := tc_it hF c263
                                  refine W.widen (k := (211) + (61 - (n_24 + 1)) * 1434 + 933) (n := (5079) + (61 - (n_24 + 1)) * 8777 + 5771) (by omega) (by omega) ?_
                                  exact Jkc100 w259 w260 E261 F262 _ _ _ hF (lv_sub hl [1, 2, 3, 4, 5, 6, 7, 8, 9] rfl) hW hEF et_q35 et_q45 er_q45 hS
                                · have hF := tc_if hF c263
                                  refine lv_aload_n hx hb dL_law_533 rfl (lv_at hl 8 rfl) ?_
                                  refine lv_iload hx hb dL_law_534 (lv_at hl 0 rfl) ?_
                                  refine lv_iconst (v := 1) hx hb dL_law_536 (by decide) ?_
                                  obtain ⟨r264, h265, hF⟩ := tc_bi hF
                                  have h265 := tc_rdx h265
                                  refine tc_cx (vx_runV (As := [.int w258, .int 1]) (rest := []) ⟨hx, hb, hml, hown, hts⟩ (mt_X2_barrel l hst D cU cO cI e0 (tc_A1 A49 F262 z59) E261 x58 w258 1 0 r264 h265) (cwV 2 hts gL_law_X2_barrel rfl rfl rfl (by decide +kernel) ⟨Nat.le_of_ble_eq_true rfl, Nat.le_of_ble_eq_true rfl⟩) ⟨fun a U g mk q => ⟨q.1, q.2.1, q.2.2.call⟩, tc_rcv hW.1.o hK rfl, fun U hU hW9 => ⟨rfl, by rw [hU]; exact hW.1, ((hKX.go hS hU hW9).narrow (fun z9 h9 => hA38A _ (hA49A _ (h9.1))) (by rw [hU]; exact hW.newA (fun z9 h9 => by rw [eA49, eA38]; exact ⟨⟨hAn z9 (Nat.le_trans hS.1 h9), (fun h8 => absurd et_q35.lt (Nat.not_lt.mpr (by rw [← h8]; exact h9)))⟩, (fun h8 => absurd et_q45.lt (Nat.not_lt.mpr (by rw [← h8]; exact h9))), fun j hj h8 => absurd (er_q45 j hj).lt (Nat.not_lt.mpr (by rw [← h8]; exact h9))⟩)))⟩⟩ rfl rfl hl.1 rfl (lv_room (Nat.le_of_ble_eq_true rfl)) dL_law_537 ⟨(by show _ ≤ (600104 : Nat); omega), (by show _ ≤ (7301314 : Nat); omega)⟩) hS (fun z9 _ h9 => hA38A _ (hA49A _ (h9.1))) (fun z9 h9 => hA38A _ (hA49A _ (h9.1))) (fun z9 _ h9 => hA38A _ (hA49A _ (h9.1))) (fun ce q9 H locs c9 _ _ _ _ _ _ _ => absurd rfl c9) (fun H locs _ hB z1 o1 hS => ?_)
                                  have et_q35 := et_q35.kept (o1 _ et_q35.lt (fun h9 => hx_q35 h9.1))
                                  have et_q45 := et_q45.kept (o1 _ et_q45.lt (fun h9 => hx_q45 h9.1))
                                  have er_q45 := fun j hj => (er_q45 j hj).kept (o1 _ (er_q45 j hj).lt (fun h9 => hxr_q45 j hj h9.1))
                                  have hW := hW.afterC hB o1
                                  refine lv_istore (lv' := [(15, .int r264), (14, .int w258), (13, .int w259), (12, .int w260), (6, .int r89), (5, .int r91), (4, .int v26), (3, .int w18), (2, .ref (F262 0)), (1, .ref (E261 0)), (0, .ref b)]) hx hb dL_law_540 hl (by decide) rfl (fun ls hl => ?_)
                                  refine lv_aload_n hx hb dL_law_542 rfl (lv_at hl 9 rfl) ?_
                                  refine lv_iload hx hb dL_law_543 (lv_at hl 1 rfl) ?_
                                  refine lv_iconst (v := 3) hx hb dL_law_545 (by decide) ?_
                                  obtain ⟨r266, h267, hF⟩ := tc_bi hF
                                  have h267 := tc_rdx h267
                                  refine tc_cx (vx_runV (As := [.int w258, .int 3]) (rest := []) ⟨hx, hb, hml, hown, hts⟩ (mt_X2_barrel l hst D cU cO cI e0 (tc_A1 A49 F262 z59) E261 x58 w258 3 0 r266 h267) (cwV 2 hts gL_law_X2_barrel rfl rfl rfl (by decide +kernel) ⟨Nat.le_of_ble_eq_true rfl, Nat.le_of_ble_eq_true rfl⟩) ⟨fun a U g mk q => ⟨q.1, q.2.1, q.2.2.call⟩, tc_rcv hW.1.o hK rfl, fun U hU hW9 => ⟨rfl, by rw [hU]; exact hW.1, ((hKX.go hS hU hW9).narrow (fun z9 h9 => hA38A _ (hA49A _ (h9.1))) (by rw [hU]; exact hW.newA (fun z9 h9 => by rw [eA49, eA38]; exact ⟨⟨hAn z9 (Nat.le_trans hS.1 h9), (fun h8 => absurd et_q35.lt (Nat.not_lt.mpr (by rw [← h8]; exact h9)))⟩, (fun h8 => absurd et_q45.lt (Nat.not_lt.mpr (by rw [← h8]; exact h9))), fun j hj h8 => absurd (er_q45 j hj).lt (Nat.not_lt.mpr (by rw [← h8]; exact h9))⟩)))⟩⟩ rfl rfl hl.1 rfl (lv_room (Nat.le_of_ble_eq_true rfl)) dL_law_546 ⟨(by show _ ≤ (600104 : Nat); omega), (by show _ ≤ (7301314 : Nat); omega)⟩) hS (fun z9 _ h9 => hA38A _ (hA49A _ (h9.1))) (fun z9 h9 => hA38A _ (hA49A _ (h9.1))) (fun z9 _ h9 => hA38A _ (hA49A _ (h9.1))) (fun ce q9 H locs c9 _ _ _ _ _ _ _ => absurd rfl c9) (fun H locs _ hB z1 o1 hS => ?_)
                                  have et_q35 := et_q35.kept (o1 _ et_q35.lt (fun h9 => hx_q35 h9.1))
                                  have et_q45 := et_q45.kept (o1 _ et_q45.lt (fun h9 => hx_q45 h9.1))
                                  have er_q45 := fun j hj => (er_q45 j hj).kept (o1 _ (er_q45 j hj).lt (fun h9 => hxr_q45 j hj h9.1))
                                  have hW := hW.afterC hB o1
                                  refine lv_istore (lv' := [(16, .int r266), (15, .int r264), (14, .int w258), (13, .int w259), (12, .int w260), (6, .int r89), (5, .int r91), (4, .int v26), (3, .int w18), (2, .ref (F262 0)), (1, .ref (E261 0)), (0, .ref b)]) hx hb dL_law_549 hl (by decide) rfl (fun ls hl => ?_)
                                  refine lv_iload hx hb dL_law_551 (lv_at hl 1 rfl) ?_
                                  obtain ⟨kc271, ekc271, hF⟩ := tc_jx hF
                                  have Jkc271 : ∀ (w268 : Int32) (E269 F270 : Nat → Nat) (H : Heap) (locs : List Loc) (ls : Array Slot), kc271 w268 = some 1 → lv_has ls 24 [(16, .int r266), (15, .int r264), (14, .int w258), (13, .int w259), (12, .int w260), (6, .int r89), (5, .int r91), (4, .int v26), (3, .int w18), (2, .ref (F270 0)), (1, .ref (E269 0)), (0, .ref b)] → tc_WL D cU cO cI cII cZ e0 A49 E269 F270 x58 z59 H → E269 0 = E 0 ∧ F270 0 = F 0 → va_at D vwCl (q35, .inl (cZ, r27.toNatClampNeg, .inl u41)) H → va_at D vwCl (q45, .inl (cII, r29.toNatClampNeg, .inr (.inr (.inr (.inr (fun j => some (r46 j))))))) H → (∀ j, j < r29.toNatClampNeg → va_at D vwCl (r46 j, .inl (cI, 9, .inl (u52 j))) H) → va_S A s.heap H locs → W p l e room_1 s m #[Value.ref b] below meth c H locs (((211) + (61 - (n_24 + 1)) * 1434 + 441) + (41 - (n_526 + 1)) * 12 + 2) (((5079) + (61 - (n_24 + 1)) * 8777 + 2819) + (41 - (n_526 + 1)) * 72 + 12) QQ (F0 m 561 ls [.int w268]) := by
                                    intro w268 E269 F270 H locs ls hF hl hW hEF et_q35 et_q45 er_q45 hS
                                    rw [ekc271] at hF
                                    dsimp only at hF
                                    refine lv_iload hx hb dL_law_561 (lv_at hl 0 rfl) ?_
                                    obtain ⟨kc275, ekc275, hF⟩ := tc_jx hF
                                    have Jkc275 : ∀ (w272 : Int32) (E273 F274 : Nat → Nat) (H : Heap) (locs : List Loc) (ls : Array Slot), kc275 w272 = some 1 → lv_has ls 24 [(16, .int r266), (15, .int r264), (14, .int w258), (13, .int w259), (12, .int w260), (6, .int r89), (5, .int r91), (4, .int v26), (3, .int w18), (2, .ref (F274 0)), (1, .ref (E273 0)), (0, .ref b)] → tc_WL D cU cO cI cII cZ e0 A49 E273 F274 x58 z59 H → E273 0 = E 0 ∧ F274 0 = F 0 → va_at D vwCl (q35, .inl (cZ, r27.toNatClampNeg, .inl u41)) H → va_at D vwCl (q45, .inl (cII, r29.toNatClampNeg, .inr (.inr (.inr (.inr (fun j => some (r46 j))))))) H → (∀ j, j < r29.toNatClampNeg → va_at D vwCl (r46 j, .inl (cI, 9, .inl (u52 j))) H) → va_S A s.heap H locs → W p l e room_1 s m #[Value.ref b] below meth c H locs (((211) + (61 - (n_24 + 1)) * 1434 + 441) + (41 - (n_526 + 1)) * 12 + 2) (((5079) + (61 - (n_24 + 1)) * 8777 + 2819) + (41 - (n_526 + 1)) * 72 + 12) QQ (F0 m 571 ls [.int w272, .int w268]) := by
                                      intro w272 E273 F274 H locs ls hF hl hW hEF et_q35 et_q45 er_q45 hS
                                      rw [ekc275] at hF
                                      dsimp only at hF
                                      refine lv_iadd hx hb dL_law_571 ?_
                                      refine lv_aload_n hx hb dL_law_572 rfl (lv_at hl 10 rfl) ?_
                                      refine lv_iload hx hb dL_law_573 (lv_at hl 2 rfl) ?_
                                      refine lv_iconst (v := 4) hx hb dL_law_575 (by decide) ?_
                                      obtain ⟨r276, h277, hF⟩ := tc_bi hF
                                      have h277 := tc_rdx h277
                                      refine tc_cx (vx_runV (As := [.int w258, .int 4]) (rest := [.int (w268 + w272)]) ⟨hx, hb, hml, hown, hts⟩ (mt_X2_barrel l hst D cU cO cI e0 (tc_A1 A49 F274 z59) E273 x58 w258 4 0 r276 h277) (cwV 2 hts gL_law_X2_barrel rfl rfl rfl (by decide +kernel) ⟨Nat.le_of_ble_eq_true rfl, Nat.le_of_ble_eq_true rfl⟩) ⟨fun a U g mk q => ⟨q.1, q.2.1, q.2.2.call⟩, tc_rcv hW.1.o hK rfl, fun U hU hW9 => ⟨rfl, by rw [hU]; exact hW.1, ((hKX.go hS hU hW9).narrow (fun z9 h9 => hA38A _ (hA49A _ (h9.1))) (by rw [hU]; exact hW.newA (fun z9 h9 => by rw [eA49, eA38]; exact ⟨⟨hAn z9 (Nat.le_trans hS.1 h9), (fun h8 => absurd et_q35.lt (Nat.not_lt.mpr (by rw [← h8]; exact h9)))⟩, (fun h8 => absurd et_q45.lt (Nat.not_lt.mpr (by rw [← h8]; exact h9))), fun j hj h8 => absurd (er_q45 j hj).lt (Nat.not_lt.mpr (by rw [← h8]; exact h9))⟩)))⟩⟩ rfl rfl hl.1 rfl (lv_room (Nat.le_of_ble_eq_true rfl)) dL_law_576 ⟨(by show _ ≤ (600104 : Nat); omega), (by show _ ≤ (7301314 : Nat); omega)⟩) hS (fun z9 _ h9 => hA38A _ (hA49A _ (h9.1))) (fun z9 h9 => hA38A _ (hA49A _ (h9.1))) (fun z9 _ h9 => hA38A _ (hA49A _ (h9.1))) (fun ce q9 H locs c9 _ _ _ _ _ _ _ => absurd rfl c9) (fun H locs _ hB z1 o1 hS => ?_)
                                      have et_q35 := et_q35.kept (o1 _ et_q35.lt (fun h9 => hx_q35 h9.1))
                                      have et_q45 := et_q45.kept (o1 _ et_q45.lt (fun h9 => hx_q45 h9.1))
                                      have er_q45 := fun j hj => (er_q45 j hj).kept (o1 _ (er_q45 j hj).lt (fun h9 => hxr_q45 j hj h9.1))
                                      have hW := hW.afterC hB o1
                                      refine lv_iadd hx hb dL_law_579 ?_
                                      refine lv_topi (fun v278 ev278 => ?_)
                                      have hF := tc_lt hF ev278
                                      refine lv_istore (lv' := [(17, .int v278), (16, .int r266), (15, .int r264), (14, .int w258), (13, .int w259), (12, .int w260), (6, .int r89), (5, .int r91), (4, .int v26), (3, .int w18), (2, .ref (F274 0)), (1, .ref (E273 0)), (0, .ref b)]) hx hb dL_law_580 hl (by decide) rfl (fun ls hl => ?_)
                                      refine lv_iload hx hb dL_law_582 (lv_at hl 0 rfl) ?_
                                      refine lv_iconst (v := 1) hx hb dL_law_584 (by decide) ?_
                                      refine lv_icmp_ne (tgt := 683) hx hb dL_law_585 (by decide) (fun c279 => ?_) (fun c279 => ?_)
                                      · have hF := tc_if hF c279
                                        cases hF
                                      · have hF := tc_it hF c279
                                        refine lv_iload hx hb dL_law_588 (lv_at hl 1 rfl) ?_
                                        obtain ⟨kc282, ekc282, hF⟩ := tc_jx hF
                                        have Jkc282 : ∀  (E280 F281 : Nat → Nat) (H : Heap) (locs : List Loc) (ls : Array Slot), kc282  = some 1 → lv_has ls 24 [(16, .int r266), (15, .int r264), (14, .int w258), (13, .int w259), (12, .int w260), (6, .int r89), (5, .int r91), (4, .int v26), (3, .int w18), (2, .ref (F281 0)), (1, .ref (E280 0)), (0, .ref b)] → tc_WL D cU cO cI cII cZ e0 A49 E280 F281 x58 z59 H → E280 0 = E 0 ∧ F281 0 = F 0 → va_at D vwCl (q35, .inl (cZ, r27.toNatClampNeg, .inl u41)) H → va_at D vwCl (q45, .inl (cII, r29.toNatClampNeg, .inr (.inr (.inr (.inr (fun j => some (r46 j))))))) H → (∀ j, j < r29.toNatClampNeg → va_at D vwCl (r46 j, .inl (cI, 9, .inl (u52 j))) H) → va_S A s.heap H locs → W p l e room_1 s m #[Value.ref b] below meth c H locs (((211) + (61 - (n_24 + 1)) * 1434 + 441) + (41 - (n_526 + 1)) * 12 + 5) (((5079) + (61 - (n_24 + 1)) * 8777 + 2819) + (41 - (n_526 + 1)) * 72 + 30) QQ (F0 m 606 ls []) := by
                                          intro  E280 F281 H locs ls hF hl hW hEF et_q35 et_q45 er_q45 hS
                                          rw [ekc282] at hF
                                          refine lv_iload hx hb dL_law_606 (lv_at hl 1 rfl) ?_
                                          obtain ⟨kc285, ekc285, hF⟩ := tc_jx hF
                                          have Jkc285 : ∀  (E283 F284 : Nat → Nat) (H : Heap) (locs : List Loc) (ls : Array Slot), kc285  = some 1 → lv_has ls 24 [(16, .int r266), (15, .int r264), (14, .int w258), (13, .int w259), (12, .int w260), (6, .int r89), (5, .int r91), (4, .int v26), (3, .int w18), (2, .ref (F284 0)), (1, .ref (E283 0)), (0, .ref b)] → tc_WL D cU cO cI cII cZ e0 A49 E283 F284 x58 z59 H → E283 0 = E 0 ∧ F284 0 = F 0 → va_at D vwCl (q35, .inl (cZ, r27.toNatClampNeg, .inl u41)) H → va_at D vwCl (q45, .inl (cII, r29.toNatClampNeg, .inr (.inr (.inr (.inr (fun j => some (r46 j))))))) H → (∀ j, j < r29.toNatClampNeg → va_at D vwCl (r46 j, .inl (cI, 9, .inl (u52 j))) H) → va_S A s.heap H locs → W p l e room_1 s m #[Value.ref b] below meth c H locs (((211) + (61 - (n_24 + 1)) * 1434 + 441) + (41 - (n_526 + 1)) * 12 + 8) (((5079) + (61 - (n_24 + 1)) * 8777 + 2819) + (41 - (n_526 + 1)) * 72 + 48) QQ (F0 m 628 ls []) := by
                                            intro  E283 F284 H locs ls hF hl hW hEF et_q35 et_q45 er_q45 hS
                                            rw [ekc285] at hF
                                            refine lv_iload hx hb dL_law_628 (lv_at hl 1 rfl) ?_
                                            obtain ⟨kc288, ekc288, hF⟩ := tc_jx hF
                                            have Jkc288 : ∀  (E286 F287 : Nat → Nat) (H : Heap) (locs : List Loc) (ls : Array Slot), kc288  = some 1 → lv_has ls 24 [(16, .int r266), (15, .int r264), (14, .int w258), (13, .int w259), (12, .int w260), (6, .int r89), (5, .int r91), (4, .int v26), (3, .int w18), (2, .ref (F287 0)), (1, .ref (E286 0)), (0, .ref b)] → tc_WL D cU cO cI cII cZ e0 A49 E286 F287 x58 z59 H → E286 0 = E 0 ∧ F287 0 = F 0 → va_at D vwCl (q35, .inl (cZ, r27.toNatClampNeg, .inl u41)) H → va_at D vwCl (q45, .inl (cII, r29.toNatClampNeg, .inr (.inr (.inr (.inr (fun j => some (r46 j))))))) H → (∀ j, j < r29.toNatClampNeg → va_at D vwCl (r46 j, .inl (cI, 9, .inl (u52 j))) H) → va_S A s.heap H locs → W p l e room_1 s m #[Value.ref b] below meth c H locs (((211) + (61 - (n_24 + 1)) * 1434 + 441) + (41 - (n_526 + 1)) * 12 + 9) (((5079) + (61 - (n_24 + 1)) * 8777 + 2819) + (41 - (n_526 + 1)) * 72 + 54) QQ (F0 m 643 ls []) := by
                                              intro  E286 F287 H locs ls hF hl hW hEF et_q35 et_q45 er_q45 hS
                                              rw [ekc288] at hF
                                              refine lv_iload hx hb dL_law_643 (lv_at hl 1 rfl) ?_
                                              obtain ⟨kc291, ekc291, hF⟩ := tc_jx hF
                                              have Jkc291 : ∀  (E289 F290 : Nat → Nat) (H : Heap) (locs : List Loc) (ls : Array Slot), kc291  = some 1 → lv_has ls 24 [(16, .int r266), (15, .int r264), (14, .int w258), (13, .int w259), (12, .int w260), (6, .int r89), (5, .int r91), (4, .int v26), (3, .int w18), (2, .ref (F290 0)), (1, .ref (E289 0)), (0, .ref b)] → tc_WL D cU cO cI cII cZ e0 A49 E289 F290 x58 z59 H → E289 0 = E 0 ∧ F290 0 = F 0 → va_at D vwCl (q35, .inl (cZ, r27.toNatClampNeg, .inl u41)) H → va_at D vwCl (q45, .inl (cII, r29.toNatClampNeg, .inr (.inr (.inr (.inr (fun j => some (r46 j))))))) H → (∀ j, j < r29.toNatClampNeg → va_at D vwCl (r46 j, .inl (cI, 9, .inl (u52 j))) H) → va_S A s.heap H locs → W p l e room_1 s m #[Value.ref b] below meth c H locs (((211) + (61 - (n_24 + 1)) * 1434 + 441) + (41 - (n_526 + 1)) * 12 + 12) (((5079) + (61 - (n_24 + 1)) * 8777 + 2819) + (41 - (n_526 + 1)) * 72 + 72) QQ (F0 m 685 ls []) := by
                                                intro  E289 F290 H locs ls hF hl hW hEF et_q35 et_q45 er_q45 hS
                                                rw [ekc291] at hF
                                                refine lv_iload hx hb dL_law_685 (lv_at hl 4 rfl) ?_
                                                refine lv_iload hx hb dL_law_687 (lv_at hl 1 rfl) ?_
                                                obtain ⟨kc295, ekc295, hF⟩ := tc_jx hF
                                                have Jkc295 : ∀ (w292 : Int32) (E293 F294 : Nat → Nat) (H : Heap) (locs : List Loc) (ls : Array Slot), kc295 w292 = some 1 → lv_has ls 24 [(16, .int r266), (14, .int w258), (13, .int w259), (6, .int r89), (5, .int r91), (4, .int v26), (3, .int w18), (2, .ref (F294 0)), (1, .ref (E293 0)), (0, .ref b)] → tc_WL D cU cO cI cII cZ e0 A49 E293 F294 x58 z59 H → E293 0 = E 0 ∧ F294 0 = F 0 → va_at D vwCl (q35, .inl (cZ, r27.toNatClampNeg, .inl u41)) H → va_at D vwCl (q45, .inl (cII, r29.toNatClampNeg, .inr (.inr (.inr (.inr (fun j => some (r46 j))))))) H → (∀ j, j < r29.toNatClampNeg → va_at D vwCl (r46 j, .inl (cI, 9, .inl (u52 j))) H) → va_S A s.heap H locs → W p l e room_1 s m #[Value.ref b] below meth c H locs (((211) + (61 - (n_24 + 1)) * 1434 + 441) + (41 - (n_526 + 1)) * 12 + 12) (((5079) + (61 - (n_24 + 1)) * 8777 + 2819) + (41 - (n_526 + 1)) * 72 + 72) QQ (F0 m 697 ls [.int w292, .int w260]) := by
                                                  intro w292 E293 F294 H locs ls hF hl hW hEF et_q35 et_q45 er_q45 hS
                                                  rw [ekc295] at hF
                                                  dsimp only at hF
                                                  refine lv_iadd hx hb dL_law_697 ?_
                                                  refine lv_topi (fun v296 ev296 => ?_)
                                                  have hF := tc_lt hF ev296
                                                  refine lv_istore (lv' := [(12, .int v296), (16, .int r266), (14, .int w258), (13, .int w259), (6, .int r89), (5, .int r91), (4, .int v26), (3, .int w18), (2, .ref (F294 0)), (1, .ref (E293 0)), (0, .ref b)]) hx hb dL_law_698 hl (by decide) rfl (fun ls hl => ?_)
                                                  refine lv_iload hx hb dL_law_700 (lv_at hl 3 rfl) ?_
                                                  refine lv_iload hx hb dL_law_702 (lv_at hl 1 rfl) ?_
                                                  obtain ⟨kc300, ekc300, hF⟩ := tc_jx hF
                                                  have Jkc300 : ∀ (w297 : Int32) (E298 F299 : Nat → Nat) (H : Heap) (locs : List Loc) (ls : Array Slot), kc300 w297 = some 1 → lv_has ls 24 [(14, .int w258), (12, .int v296), (6, .int r89), (5, .int r91), (4, .int v26), (3, .int w18), (2, .ref (F299 0)), (1, .ref (E298 0)), (0, .ref b)] → tc_WL D cU cO cI cII cZ e0 A49 E298 F299 x58 z59 H → E298 0 = E 0 ∧ F299 0 = F 0 → va_at D vwCl (q35, .inl (cZ, r27.toNatClampNeg, .inl u41)) H → va_at D vwCl (q45, .inl (cII, r29.toNatClampNeg, .inr (.inr (.inr (.inr (fun j => some (r46 j))))))) H → (∀ j, j < r29.toNatClampNeg → va_at D vwCl (r46 j, .inl (cI, 9, .inl (u52 j))) H) → va_S A s.heap H locs → W p l e room_1 s m #[Value.ref b] below meth c H locs (((211) + (61 - (n_24 + 1)) * 1434 + 441) + (41 - (n_526 + 1)) * 12 + 12) (((5079) + (61 - (n_24 + 1)) * 8777 + 2819) + (41 - (n_526 + 1)) * 72 + 72) QQ (F0 m 712 ls [.int w297, .int w259]) := by
                                                    intro w297 E298 F299 H locs ls hF hl hW hEF et_q35 et_q45 er_q45 hS
                                                    rw [ekc300] at hF
                                                    dsimp only at hF
                                                    refine lv_iadd hx hb dL_law_712 ?_
                                                    refine lv_topi (fun v301 ev301 => ?_)
                                                    have hF := tc_lt hF ev301
                                                    refine lv_istore (lv' := [(13, .int v301), (14, .int w258), (12, .int v296), (6, .int r89), (5, .int r91), (4, .int v26), (3, .int w18), (2, .ref (F299 0)), (1, .ref (E298 0)), (0, .ref b)]) hx hb dL_law_713 hl (by decide) rfl (fun ls hl => ?_)
                                                    obtain ⟨v302, ev302⟩ : ∃ z9 : Int32, z9 = w258 + 1 := ⟨_, rfl⟩
                                                    have hF := tc_lt hF ev302
                                                    refine lv_iinc (v := v302) (lv' := [(14, .int v302), (13, .int v301), (12, .int v296), (6, .int r89), (5, .int r91), (4, .int v26), (3, .int w18), (2, .ref (F299 0)), (1, .ref (E298 0)), (0, .ref b)]) hx hb dL_law_715 hl (k := 1) rfl (by rw [ev302]; rfl) (by decide) rfl (fun ls hl => ?_)
                                                    refine lv_goto (tgt := 526) hx hb dL_law_718 (by decide) ?_
                                                    refine W.widen (k := ((211) + (61 - (n_24 + 1)) * 1434 + 441) + (41 - n_526) * 12 + 0) (n := ((5079) + (61 - (n_24 + 1)) * 8777 + 2819) + (41 - n_526) * 72 + 0) (by omega) (by omega) ?_
                                                    exact ih_526 (Nat.le_of_succ_le hn_526) v302 v301 v296 E298 F299 _ _ _ hF (lv_sub hl [0, 1, 2, 3, 4, 5, 6, 7, 8, 9] rfl) hW hEF et_q35 et_q45 er_q45 hS
                                                  refine lv_if_lt (tgt := 711) hx hb dL_law_704 (by decide) (fun c303 => ?_) (fun c303 => ?_)
                                                  · have hF := tc_it hF c303
                                                    refine lv_iconst (v := 0) hx hb dL_law_711 (by decide) ?_
                                                    exact Jkc300 0 E293 F294 _ _ _ hF (lv_sub hl [2, 0, 4, 5, 6, 7, 8, 9, 10] rfl) hW hEF et_q35 et_q45 er_q45 hS
                                                  · have hF := tc_if hF c303
                                                    refine lv_iconst (v := 1) hx hb dL_law_707 (by decide) ?_
                                                    refine lv_goto (tgt := 712) hx hb dL_law_708 (by decide) ?_
                                                    exact Jkc300 1 E293 F294 _ _ _ hF (lv_sub hl [2, 0, 4, 5, 6, 7, 8, 9, 10] rfl) hW hEF et_q35 et_q45 er_q45 hS
                                                refine lv_if_lt (tgt := 696) hx hb dL_law_689 (by decide) (fun c304 => ?_) (fun c304 => ?_)
                                                · have hF := tc_it hF c304
                                                  refine lv_iconst (v := 0) hx hb dL_law_696 (by decide) ?_
                                                  exact Jkc295 0 E289 F290 _ _ _ hF (lv_sub hl [0, 2, 3, 5, 6, 7, 8, 9, 10, 11] rfl) hW hEF et_q35 et_q45 er_q45 hS
                                                · have hF := tc_if hF c304
                                                  refine lv_iconst (v := 1) hx hb dL_law_692 (by decide) ?_
                                                  refine lv_goto (tgt := 697) hx hb dL_law_693 (by decide) ?_
                                                  exact Jkc295 1 E289 F290 _ _ _ hF (lv_sub hl [0, 2, 3, 5, 6, 7, 8, 9, 10, 11] rfl) hW hEF et_q35 et_q45 er_q45 hS
                                              refine lv_if_lt (tgt := 685) hx hb dL_law_645 (by decide) (fun c305 => ?_) (fun c305 => ?_)
                                              · have hF := tc_it hF c305
                                                refine W.widen (k := ((211) + (61 - (n_24 + 1)) * 1434 + 441) + (41 - (n_526 + 1)) * 12 + 12) (n := ((5079) + (61 - (n_24 + 1)) * 8777 + 2819) + (41 - (n_526 + 1)) * 72 + 72) (by omega) (by omega) ?_
                                                exact Jkc291  E286 F287 _ _ _ hF (lv_sub hl [0, 1, 2, 3, 4, 5, 6, 7, 8, 9, 10, 11] rfl) hW hEF et_q35 et_q45 er_q45 hS
                                              · have hF := tc_if hF c305
                                                refine lv_aload_n hx hb dL_law_648 rfl (lv_at hl 10 rfl) ?_
                                                refine lv_iload hx hb dL_law_649 (lv_at hl 2 rfl) ?_
                                                refine lv_iconst (v := 2) hx hb dL_law_651 (by decide) ?_
                                                obtain ⟨r306, h307, hF⟩ := tc_bi hF
                                                have h307 := tc_rdx h307
                                                refine tc_cx (vx_runV (As := [.int w258, .int 2]) (rest := []) ⟨hx, hb, hml, hown, hts⟩ (mt_X2_barrel l hst D cU cO cI e0 (tc_A1 A49 F287 z59) E286 x58 w258 2 0 r306 h307) (cwV 2 hts gL_law_X2_barrel rfl rfl rfl (by decide +kernel) ⟨Nat.le_of_ble_eq_true rfl, Nat.le_of_ble_eq_true rfl⟩) ⟨fun a U g mk q => ⟨q.1, q.2.1, q.2.2.call⟩, tc_rcv hW.1.o hK rfl, fun U hU hW9 => ⟨rfl, by rw [hU]; exact hW.1, ((hKX.go hS hU hW9).narrow (fun z9 h9 => hA38A _ (hA49A _ (h9.1))) (by rw [hU]; exact hW.newA (fun z9 h9 => by rw [eA49, eA38]; exact ⟨⟨hAn z9 (Nat.le_trans hS.1 h9), (fun h8 => absurd et_q35.lt (Nat.not_lt.mpr (by rw [← h8]; exact h9)))⟩, (fun h8 => absurd et_q45.lt (Nat.not_lt.mpr (by rw [← h8]; exact h9))), fun j hj h8 => absurd (er_q45 j hj).lt (Nat.not_lt.mpr (by rw [← h8]; exact h9))⟩)))⟩⟩ rfl rfl hl.1 rfl (lv_room (Nat.le_of_ble_eq_true rfl)) dL_law_652 ⟨(by show _ ≤ (600104 : Nat); omega), (by show _ ≤ (7301314 : Nat); omega)⟩) hS (fun z9 _ h9 => hA38A _ (hA49A _ (h9.1))) (fun z9 h9 => hA38A _ (hA49A _ (h9.1))) (fun z9 _ h9 => hA38A _ (hA49A _ (h9.1))) (fun ce q9 H locs c9 _ _ _ _ _ _ _ => absurd rfl c9) (fun H locs _ hB z1 o1 hS => ?_)
                                                have et_q35 := et_q35.kept (o1 _ et_q35.lt (fun h9 => hx_q35 h9.1))
                                                have et_q45 := et_q45.kept (o1 _ et_q45.lt (fun h9 => hx_q45 h9.1))
                                                have er_q45 := fun j hj => (er_q45 j hj).kept (o1 _ (er_q45 j hj).lt (fun h9 => hxr_q45 j hj h9.1))
                                                have hW := hW.afterC hB o1
                                                obtain ⟨kc311, ekc311, hF⟩ := tc_jx hF
                                                have Jkc311 : ∀ (w308 : Int32) (E309 F310 : Nat → Nat) (H : Heap) (locs : List Loc) (ls : Array Slot), kc311 w308 = some 1 → lv_has ls 24 [(16, .int r266), (15, .int r264), (14, .int w258), (13, .int w259), (12, .int w260), (6, .int r89), (5, .int r91), (4, .int v26), (3, .int w18), (2, .ref (F310 0)), (1, .ref (E309 0)), (0, .ref b)] → tc_WL D cU cO cI cII cZ e0 A49 E309 F310 x58 z59 H → E309 0 = E 0 ∧ F310 0 = F 0 → va_at D vwCl (q35, .inl (cZ, r27.toNatClampNeg, .inl u41)) H → va_at D vwCl (q45, .inl (cII, r29.toNatClampNeg, .inr (.inr (.inr (.inr (fun j => some (r46 j))))))) H → (∀ j, j < r29.toNatClampNeg → va_at D vwCl (r46 j, .inl (cI, 9, .inl (u52 j))) H) → va_S A s.heap H locs → W p l e room_1 s m #[Value.ref b] below meth c H locs (((211) + (61 - (n_24 + 1)) * 1434 + 441) + (41 - (n_526 + 1)) * 12 + 10) (((5079) + (61 - (n_24 + 1)) * 8777 + 2819) + (41 - (n_526 + 1)) * 72 + 60) QQ (F0 m 663 ls [.int w308]) := by
                                                  intro w308 E309 F310 H locs ls hF hl hW hEF et_q35 et_q45 er_q45 hS
                                                  rw [ekc311] at hF
                                                  dsimp only at hF
                                                  refine lv_aload_n hx hb dL_law_663 rfl (lv_at hl 10 rfl) ?_
                                                  refine lv_iload hx hb dL_law_664 (lv_at hl 1 rfl) ?_
                                                  refine lv_iconst (v := 1) hx hb dL_law_666 (by decide) ?_
                                                  obtain ⟨r312, h313, hF⟩ := tc_bi hF
                                                  have h313 := tc_rdx h313
                                                  refine tc_cx (vx_runV (As := [.int r264, .int 1]) (rest := [.int w308]) ⟨hx, hb, hml, hown, hts⟩ (mt_X2_place l hst D cU cO cI e0 (tc_A1 A49 F310 z59) E309 x58 r264 1 0 r312 h313) (cwV 2 hts gL_law_X2_place rfl rfl rfl (by decide +kernel) ⟨Nat.le_of_ble_eq_true rfl, Nat.le_of_ble_eq_true rfl⟩) ⟨fun a U g mk q => ⟨q.1, q.2.1, q.2.2.call⟩, tc_rcv hW.1.o hK rfl, fun U hU hW9 => ⟨rfl, by rw [hU]; exact hW.1, ((hKX.go hS hU hW9).narrow (fun z9 h9 => hA38A _ (hA49A _ (h9.1))) (by rw [hU]; exact hW.newA (fun z9 h9 => by rw [eA49, eA38]; exact ⟨⟨hAn z9 (Nat.le_trans hS.1 h9), (fun h8 => absurd et_q35.lt (Nat.not_lt.mpr (by rw [← h8]; exact h9)))⟩, (fun h8 => absurd et_q45.lt (Nat.not_lt.mpr (by rw [← h8]; exact h9))), fun j hj h8 => absurd (er_q45 j hj).lt (Nat.not_lt.mpr (by rw [← h8]; exact h9))⟩)))⟩⟩ rfl rfl hl.1 rfl (lv_room (Nat.le_of_ble_eq_true rfl)) dL_law_667 ⟨(by show _ ≤ (600104 : Nat); omega), (by show _ ≤ (7301314 : Nat); omega)⟩) hS (fun z9 _ h9 => hA38A _ (hA49A _ (h9.1))) (fun z9 h9 => hA38A _ (hA49A _ (h9.1))) (fun z9 _ h9 => hA38A _ (hA49A _ (h9.1))) (fun ce q9 H locs c9 _ _ _ _ _ _ _ => absurd rfl c9) (fun H locs _ hB z1 o1 hS => ?_)
                                                  have et_q35 := et_q35.kept (o1 _ et_q35.lt (fun h9 => hx_q35 h9.1))
                                                  have et_q45 := et_q45.kept (o1 _ et_q45.lt (fun h9 => hx_q45 h9.1))
                                                  have er_q45 := fun j hj => (er_q45 j hj).kept (o1 _ (er_q45 j hj).lt (fun h9 => hxr_q45 j hj h9.1))
                                                  have hW := hW.afterC hB o1
                                                  refine lv_iload hx hb dL_law_670 (lv_at hl 2 rfl) ?_
                                                  obtain ⟨kc317, ekc317, hF⟩ := tc_jx hF
                                                  have Jkc317 : ∀ (w314 : Int32) (E315 F316 : Nat → Nat) (H : Heap) (locs : List Loc) (ls : Array Slot), kc317 w314 = some 1 → lv_has ls 24 [(16, .int r266), (15, .int r264), (14, .int w258), (13, .int w259), (12, .int w260), (6, .int r89), (5, .int r91), (4, .int v26), (3, .int w18), (2, .ref (F316 0)), (1, .ref (E315 0)), (0, .ref b)] → tc_WL D cU cO cI cII cZ e0 A49 E315 F316 x58 z59 H → E315 0 = E 0 ∧ F316 0 = F 0 → va_at D vwCl (q35, .inl (cZ, r27.toNatClampNeg, .inl u41)) H → va_at D vwCl (q45, .inl (cII, r29.toNatClampNeg, .inr (.inr (.inr (.inr (fun j => some (r46 j))))))) H → (∀ j, j < r29.toNatClampNeg → va_at D vwCl (r46 j, .inl (cI, 9, .inl (u52 j))) H) → va_S A s.heap H locs → W p l e room_1 s m #[Value.ref b] below meth c H locs (((211) + (61 - (n_24 + 1)) * 1434 + 441) + (41 - (n_526 + 1)) * 12 + 12) (((5079) + (61 - (n_24 + 1)) * 8777 + 2819) + (41 - (n_526 + 1)) * 72 + 72) QQ (F0 m 680 ls [.int w314, .int w308]) := by
                                                    intro w314 E315 F316 H locs ls hF hl hW hEF et_q35 et_q45 er_q45 hS
                                                    rw [ekc317] at hF
                                                    dsimp only at hF
                                                    refine lv_icmp_eq (tgt := 685) hx hb dL_law_680 (by decide) (fun c318 => ?_) (fun c318 => ?_)
                                                    · have hF := tc_it hF c318
                                                      exact Jkc291  E315 F316 _ _ _ hF (lv_sub hl [0, 1, 2, 3, 4, 5, 6, 7, 8, 9, 10, 11] rfl) hW hEF et_q35 et_q45 er_q45 hS
                                                    · have hF := tc_if hF c318
                                                      cases hF
                                                  refine lv_icmp_ne (tgt := 679) hx hb dL_law_672 (by decide) (fun c319 => ?_) (fun c319 => ?_)
                                                  · have hF := tc_if hF c319
                                                    refine lv_iconst (v := 0) hx hb dL_law_679 (by decide) ?_
                                                    exact Jkc317 0 E309 F310 _ _ _ hF (lv_sub hl [0, 1, 2, 3, 4, 5, 6, 7, 8, 9, 10, 11] rfl) hW hEF et_q35 et_q45 er_q45 hS
                                                  · have hF := tc_it hF c319
                                                    refine lv_iconst (v := 1) hx hb dL_law_675 (by decide) ?_
                                                    refine lv_goto (tgt := 680) hx hb dL_law_676 (by decide) ?_
                                                    exact Jkc317 1 E309 F310 _ _ _ hF (lv_sub hl [0, 1, 2, 3, 4, 5, 6, 7, 8, 9, 10, 11] rfl) hW hEF et_q35 et_q45 er_q45 hS
                                                refine lv_if_ne (tgt := 662) hx hb dL_law_655 (by decide) (fun c320 => ?_) (fun c320 => ?_)
                                                · have hF := tc_if hF c320
                                                  refine lv_iconst (v := 0) hx hb dL_law_662 (by decide) ?_
                                                  exact Jkc311 0 E286 F287 _ _ _ hF (lv_sub hl [0, 1, 2, 3, 4, 5, 6, 7, 8, 9, 10, 11] rfl) hW hEF et_q35 et_q45 er_q45 hS
                                                · have hF := tc_it hF c320
                                                  refine lv_iconst (v := 1) hx hb dL_law_658 (by decide) ?_
                                                  refine lv_goto (tgt := 663) hx hb dL_law_659 (by decide) ?_
                                                  exact Jkc311 1 E286 F287 _ _ _ hF (lv_sub hl [0, 1, 2, 3, 4, 5, 6, 7, 8, 9, 10, 11] rfl) hW hEF et_q35 et_q45 er_q45 hS
                                            refine lv_if_ge (tgt := 643) hx hb dL_law_630 (by decide) (fun c321 => ?_) (fun c321 => ?_)
                                            · have hF := tc_it hF c321
                                              refine W.widen (k := ((211) + (61 - (n_24 + 1)) * 1434 + 441) + (41 - (n_526 + 1)) * 12 + 9) (n := ((5079) + (61 - (n_24 + 1)) * 8777 + 2819) + (41 - (n_526 + 1)) * 72 + 54) (by omega) (by omega) ?_
                                              exact Jkc288  E283 F284 _ _ _ hF (lv_sub hl [0, 1, 2, 3, 4, 5, 6, 7, 8, 9, 10, 11] rfl) hW hEF et_q35 et_q45 er_q45 hS
                                            · have hF := tc_if hF c321
                                              refine lv_aload_n hx hb dL_law_633 rfl (lv_at hl 10 rfl) ?_
                                              refine lv_iload hx hb dL_law_634 (lv_at hl 2 rfl) ?_
                                              refine lv_iconst (v := 2) hx hb dL_law_636 (by decide) ?_
                                              obtain ⟨r322, h323, hF⟩ := tc_bi hF
                                              have h323 := tc_rdx h323
                                              refine tc_cx (vx_runV (As := [.int w258, .int 2]) (rest := []) ⟨hx, hb, hml, hown, hts⟩ (mt_X2_barrel l hst D cU cO cI e0 (tc_A1 A49 F284 z59) E283 x58 w258 2 0 r322 h323) (cwV 2 hts gL_law_X2_barrel rfl rfl rfl (by decide +kernel) ⟨Nat.le_of_ble_eq_true rfl, Nat.le_of_ble_eq_true rfl⟩) ⟨fun a U g mk q => ⟨q.1, q.2.1, q.2.2.call⟩, tc_rcv hW.1.o hK rfl, fun U hU hW9 => ⟨rfl, by rw [hU]; exact hW.1, ((hKX.go hS hU hW9).narrow (fun z9 h9 => hA38A _ (hA49A _ (h9.1))) (by rw [hU]; exact hW.newA (fun z9 h9 => by rw [eA49, eA38]; exact ⟨⟨hAn z9 (Nat.le_trans hS.1 h9), (fun h8 => absurd et_q35.lt (Nat.not_lt.mpr (by rw [← h8]; exact h9)))⟩, (fun h8 => absurd et_q45.lt (Nat.not_lt.mpr (by rw [← h8]; exact h9))), fun j hj h8 => absurd (er_q45 j hj).lt (Nat.not_lt.mpr (by rw [← h8]; exact h9))⟩)))⟩⟩ rfl rfl hl.1 rfl (lv_room (Nat.le_of_ble_eq_true rfl)) dL_law_637 ⟨(by show _ ≤ (600104 : Nat); omega), (by show _ ≤ (7301314 : Nat); omega)⟩) hS (fun z9 _ h9 => hA38A _ (hA49A _ (h9.1))) (fun z9 h9 => hA38A _ (hA49A _ (h9.1))) (fun z9 _ h9 => hA38A _ (hA49A _ (h9.1))) (fun ce q9 H locs c9 _ _ _ _ _ _ _ => absurd rfl c9) (fun H locs _ hB z1 o1 hS => ?_)
                                              have et_q35 := et_q35.kept (o1 _ et_q35.lt (fun h9 => hx_q35 h9.1))
                                              have et_q45 := et_q45.kept (o1 _ et_q45.lt (fun h9 => hx_q45 h9.1))
                                              have er_q45 := fun j hj => (er_q45 j hj).kept (o1 _ (er_q45 j hj).lt (fun h9 => hxr_q45 j hj h9.1))
                                              have hW := hW.afterC hB o1
                                              refine lv_if_ne (tgt := 683) hx hb dL_law_640 (by decide) (fun c324 => ?_) (fun c324 => ?_)
                                              · have hF := tc_if hF c324
                                                cases hF
                                              · have hF := tc_it hF c324
                                                exact Jkc288  E283 F284 _ _ _ hF (lv_sub hl [0, 1, 2, 3, 4, 5, 6, 7, 8, 9, 10, 11] rfl) hW hEF et_q35 et_q45 er_q45 hS
                                          refine lv_if_lt (tgt := 628) hx hb dL_law_608 (by decide) (fun c325 => ?_) (fun c325 => ?_)
                                          · have hF := tc_it hF c325
                                            refine W.widen (k := ((211) + (61 - (n_24 + 1)) * 1434 + 441) + (41 - (n_526 + 1)) * 12 + 8) (n := ((5079) + (61 - (n_24 + 1)) * 8777 + 2819) + (41 - (n_526 + 1)) * 72 + 48) (by omega) (by omega) ?_
                                            exact Jkc285  E280 F281 _ _ _ hF (lv_sub hl [0, 1, 2, 3, 4, 5, 6, 7, 8, 9, 10, 11] rfl) hW hEF et_q35 et_q45 er_q45 hS
                                          · have hF := tc_if hF c325
                                            refine lv_aload_n hx hb dL_law_611 rfl (lv_at hl 10 rfl) ?_
                                            refine lv_iload hx hb dL_law_612 (lv_at hl 2 rfl) ?_
                                            refine lv_iconst (v := 2) hx hb dL_law_614 (by decide) ?_
                                            obtain ⟨r326, h327, hF⟩ := tc_bi hF
                                            have h327 := tc_rdx h327
                                            refine tc_cx (vx_runV (As := [.int w258, .int 2]) (rest := []) ⟨hx, hb, hml, hown, hts⟩ (mt_X2_barrel l hst D cU cO cI e0 (tc_A1 A49 F281 z59) E280 x58 w258 2 0 r326 h327) (cwV 2 hts gL_law_X2_barrel rfl rfl rfl (by decide +kernel) ⟨Nat.le_of_ble_eq_true rfl, Nat.le_of_ble_eq_true rfl⟩) ⟨fun a U g mk q => ⟨q.1, q.2.1, q.2.2.call⟩, tc_rcv hW.1.o hK rfl, fun U hU hW9 => ⟨rfl, by rw [hU]; exact hW.1, ((hKX.go hS hU hW9).narrow (fun z9 h9 => hA38A _ (hA49A _ (h9.1))) (by rw [hU]; exact hW.newA (fun z9 h9 => by rw [eA49, eA38]; exact ⟨⟨hAn z9 (Nat.le_trans hS.1 h9), (fun h8 => absurd et_q35.lt (Nat.not_lt.mpr (by rw [← h8]; exact h9)))⟩, (fun h8 => absurd et_q45.lt (Nat.not_lt.mpr (by rw [← h8]; exact h9))), fun j hj h8 => absurd (er_q45 j hj).lt (Nat.not_lt.mpr (by rw [← h8]; exact h9))⟩)))⟩⟩ rfl rfl hl.1 rfl (lv_room (Nat.le_of_ble_eq_true rfl)) dL_law_615 ⟨(by show _ ≤ (600104 : Nat); omega), (by show _ ≤ (7301314 : Nat); omega)⟩) hS (fun z9 _ h9 => hA38A _ (hA49A _ (h9.1))) (fun z9 h9 => hA38A _ (hA49A _ (h9.1))) (fun z9 _ h9 => hA38A _ (hA49A _ (h9.1))) (fun ce q9 H locs c9 _ _ _ _ _ _ _ => absurd rfl c9) (fun H locs _ hB z1 o1 hS => ?_)
                                            have et_q35 := et_q35.kept (o1 _ et_q35.lt (fun h9 => hx_q35 h9.1))
                                            have et_q45 := et_q45.kept (o1 _ et_q45.lt (fun h9 => hx_q45 h9.1))
                                            have er_q45 := fun j hj => (er_q45 j hj).kept (o1 _ (er_q45 j hj).lt (fun h9 => hxr_q45 j hj h9.1))
                                            have hW := hW.afterC hB o1
                                            refine lv_aload_n hx hb dL_law_618 rfl (lv_at hl 10 rfl) ?_
                                            refine lv_iload hx hb dL_law_619 (lv_at hl 1 rfl) ?_
                                            refine lv_iconst (v := 0) hx hb dL_law_621 (by decide) ?_
                                            obtain ⟨r328, h329, hF⟩ := tc_bi hF
                                            have h329 := tc_rdx h329
                                            refine tc_cx (vx_runV (As := [.int r264, .int 0]) (rest := [.int r326]) ⟨hx, hb, hml, hown, hts⟩ (mt_X2_place l hst D cU cO cI e0 (tc_A1 A49 F281 z59) E280 x58 r264 0 0 r328 h329) (cwV 2 hts gL_law_X2_place rfl rfl rfl (by decide +kernel) ⟨Nat.le_of_ble_eq_true rfl, Nat.le_of_ble_eq_true rfl⟩) ⟨fun a U g mk q => ⟨q.1, q.2.1, q.2.2.call⟩, tc_rcv hW.1.o hK rfl, fun U hU hW9 => ⟨rfl, by rw [hU]; exact hW.1, ((hKX.go hS hU hW9).narrow (fun z9 h9 => hA38A _ (hA49A _ (h9.1))) (by rw [hU]; exact hW.newA (fun z9 h9 => by rw [eA49, eA38]; exact ⟨⟨hAn z9 (Nat.le_trans hS.1 h9), (fun h8 => absurd et_q35.lt (Nat.not_lt.mpr (by rw [← h8]; exact h9)))⟩, (fun h8 => absurd et_q45.lt (Nat.not_lt.mpr (by rw [← h8]; exact h9))), fun j hj h8 => absurd (er_q45 j hj).lt (Nat.not_lt.mpr (by rw [← h8]; exact h9))⟩)))⟩⟩ rfl rfl hl.1 rfl (lv_room (Nat.le_of_ble_eq_true rfl)) dL_law_622 ⟨(by show _ ≤ (600104 : Nat); omega), (by show _ ≤ (7301314 : Nat); omega)⟩) hS (fun z9 _ h9 => hA38A _ (hA49A _ (h9.1))) (fun z9 h9 => hA38A _ (hA49A _ (h9.1))) (fun z9 _ h9 => hA38A _ (hA49A _ (h9.1))) (fun ce q9 H locs c9 _ _ _ _ _ _ _ => absurd rfl c9) (fun H locs _ hB z1 o1 hS => ?_)
                                            have et_q35 := et_q35.kept (o1 _ et_q35.lt (fun h9 => hx_q35 h9.1))
                                            have et_q45 := et_q45.kept (o1 _ et_q45.lt (fun h9 => hx_q45 h9.1))
                                            have er_q45 := fun j hj => (er_q45 j hj).kept (o1 _ (er_q45 j hj).lt (fun h9 => hxr_q45 j hj h9.1))
                                            have hW := hW.afterC hB o1
                                            refine lv_icmp_ge (tgt := 683) hx hb dL_law_625 (by decide) (fun c330 => ?_) (fun c330 => ?_)
                                            · have hF := tc_it hF c330
                                              cases hF
                                            · have hF := tc_if hF c330
                                              exact Jkc285  E280 F281 _ _ _ hF (lv_sub hl [0, 1, 2, 3, 4, 5, 6, 7, 8, 9, 10, 11] rfl) hW hEF et_q35 et_q45 er_q45 hS
                                        refine lv_if_lt (tgt := 606) hx hb dL_law_590 (by decide) (fun c331 => ?_) (fun c331 => ?_)
                                        · have hF := tc_it hF c331
                                          refine W.widen (k := ((211) + (61 - (n_24 + 1)) * 1434 + 441) + (41 - (n_526 + 1)) * 12 + 5) (n := ((5079) + (61 - (n_24 + 1)) * 8777 + 2819) + (41 - (n_526 + 1)) * 72 + 30) (by omega) (by omega) ?_
                                          exact Jkc282  E273 F274 _ _ _ hF (lv_sub hl [1, 2, 3, 4, 5, 6, 7, 8, 9, 10, 11, 12] rfl) hW hEF et_q35 et_q45 er_q45 hS
                                        · have hF := tc_if hF c331
                                          refine lv_aload_n hx hb dL_law_593 rfl (lv_at hl 11 rfl) ?_
                                          refine lv_iload hx hb dL_law_594 (lv_at hl 1 rfl) ?_
                                          refine lv_bipush (v := 7) hx hb dL_law_596 (by decide) ?_
                                          obtain ⟨r332, h333, hF⟩ := tc_bi hF
                                          have h333 := tc_rdx h333
                                          refine tc_cx (vx_runV (As := [.int r266, .int 7]) (rest := []) ⟨hx, hb, hml, hown, hts⟩ (mt_X2_crane l hst D cU cO cI e0 (tc_A1 A49 F274 z59) E273 x58 r266 7 0 r332 h333) (cwV 2 hts gL_law_X2_crane rfl rfl rfl (by decide +kernel) ⟨Nat.le_of_ble_eq_true rfl, Nat.le_of_ble_eq_true rfl⟩) ⟨fun a U g mk q => ⟨q.1, q.2.1, q.2.2.call⟩, tc_rcv hW.1.o hK rfl, fun U hU hW9 => ⟨rfl, by rw [hU]; exact hW.1, ((hKX.go hS hU hW9).narrow (fun z9 h9 => hA38A _ (hA49A _ (h9.1))) (by rw [hU]; exact hW.newA (fun z9 h9 => by rw [eA49, eA38]; exact ⟨⟨hAn z9 (Nat.le_trans hS.1 h9), (fun h8 => absurd et_q35.lt (Nat.not_lt.mpr (by rw [← h8]; exact h9)))⟩, (fun h8 => absurd et_q45.lt (Nat.not_lt.mpr (by rw [← h8]; exact h9))), fun j hj h8 => absurd (er_q45 j hj).lt (Nat.not_lt.mpr (by rw [← h8]; exact h9))⟩)))⟩⟩ rfl rfl hl.1 rfl (lv_room (Nat.le_of_ble_eq_true rfl)) dL_law_598 ⟨(by show _ ≤ (600104 : Nat); omega), (by show _ ≤ (7301314 : Nat); omega)⟩) hS (fun z9 _ h9 => hA38A _ (hA49A _ (h9.1))) (fun z9 h9 => hA38A _ (hA49A _ (h9.1))) (fun z9 _ h9 => hA38A _ (hA49A _ (h9.1))) (fun ce q9 H locs c9 _ _ _ _ _ _ _ => absurd rfl c9) (fun H locs _ hB z1 o1 hS => ?_)
                                          have et_q35 := et_q35.kept (o1 _ et_q35.lt (fun h9 => hx_q35 h9.1))
                                          have et_q45 := et_q45.kept (o1 _ et_q45.lt (fun h9 => hx_q45 h9.1))
                                          have er_q45 := fun j hj => (er_q45 j hj).kept (o1 _ (er_q45 j hj).lt (fun h9 => hxr_q45 j hj h9.1))
                                          have hW := hW.afterC hB o1
                                          refine lv_iload hx hb dL_law_601 (lv_at hl 3 rfl) ?_
                                          refine lv_icmp_ne (tgt := 683) hx hb dL_law_603 (by decide) (fun c334 => ?_) (fun c334 => ?_)
                                          · have hF := tc_if hF c334
                                            cases hF
                                          · have hF := tc_it hF c334
                                            exact Jkc282  E273 F274 _ _ _ hF (lv_sub hl [1, 2, 3, 4, 5, 6, 7, 8, 9, 10, 11, 12] rfl) hW hEF et_q35 et_q45 er_q45 hS
                                    refine lv_if_lt (tgt := 570) hx hb dL_law_563 (by decide) (fun c335 => ?_) (fun c335 => ?_)
                                    · have hF := tc_it hF c335
                                      refine lv_iconst (v := 0) hx hb dL_law_570 (by decide) ?_
                                      exact Jkc275 0 E269 F270 _ _ _ hF (lv_sub hl [0, 1, 2, 3, 4, 5, 6, 7, 8, 9, 10, 11] rfl) hW hEF et_q35 et_q45 er_q45 hS
                                    · have hF := tc_if hF c335
                                      refine lv_iconst (v := 1) hx hb dL_law_566 (by decide) ?_
                                      refine lv_goto (tgt := 571) hx hb dL_law_567 (by decide) ?_
                                      exact Jkc275 1 E269 F270 _ _ _ hF (lv_sub hl [0, 1, 2, 3, 4, 5, 6, 7, 8, 9, 10, 11] rfl) hW hEF et_q35 et_q45 er_q45 hS
                                  refine lv_if_lt (tgt := 560) hx hb dL_law_553 (by decide) (fun c336 => ?_) (fun c336 => ?_)
                                  · have hF := tc_it hF c336
                                    refine lv_iconst (v := 0) hx hb dL_law_560 (by decide) ?_
                                    exact Jkc271 0 E261 F262 _ _ _ hF (lv_sub hl [0, 1, 2, 3, 4, 5, 6, 7, 8, 9, 10, 11] rfl) hW hEF et_q35 et_q45 er_q45 hS
                                  · have hF := tc_if hF c336
                                    refine lv_iconst (v := 1) hx hb dL_law_556 (by decide) ?_
                                    refine lv_goto (tgt := 561) hx hb dL_law_557 (by decide) ?_
                                    exact Jkc271 1 E261 F262 _ _ _ hF (lv_sub hl [0, 1, 2, 3, 4, 5, 6, 7, 8, 9, 10, 11] rfl) hW hEF et_q35 et_q45 er_q45 hS
                            refine W.widen (k := ((211) + (61 - (n_24 + 1)) * 1434 + 441) + (41 - 41) * 12 + 0) (n := ((5079) + (61 - (n_24 + 1)) * 8777 + 2819) + (41 - 41) * 72 + 0) (by omega) (by omega) ?_
                            exact hL_526 41 (Nat.le_refl _) 0 0 0 E85 F86 _ _ _ hF (lv_sub hl [0, 1, 2, 4, 3, 6, 7, 8, 9, 10] rfl) hW hEF et_q35 et_q45 er_q45 hS
                          · have hF := tc_if hF c88
                            cases hF
                        have hL_283 : ∀ (n_283 : Nat) (hn_283 : n_283 ≤ 6) (w337 : Int32) (w338 : Int32) (E339 F340 : Nat → Nat) (H : Heap) (locs : List Loc) (ls : Array Slot), lp_L_law_283 n_283 r29 u52 x58 kc87 w337 w338 = some 1 → lv_has ls 24 [(12, .int w337), (11, .int w338), (10, .ref q45), (6, .int r29), (4, .int v26), (3, .int w18), (2, .ref (F340 0)), (1, .ref (E339 0)), (0, .ref b)] → tc_WL D cU cO cI cII cZ e0 A49 E339 F340 x58 z59 H → E339 0 = E 0 ∧ F340 0 = F 0 → va_at D vwCl (q35, .inl (cZ, r27.toNatClampNeg, .inl u41)) H → va_at D vwCl (q45, .inl (cII, r29.toNatClampNeg, .inr (.inr (.inr (.inr (fun j => some (r46 j))))))) H → (∀ j, j < r29.toNatClampNeg → va_at D vwCl (r46 j, .inl (cI, 9, .inl (u52 j))) H) → va_S A s.heap H locs → W p l e room_1 s m #[Value.ref b] below meth c H locs (((211) + (61 - (n_24 + 1)) * 1434 + 223) + (6 - n_283) * 36 + 0) (((5079) + (61 - (n_24 + 1)) * 8777 + 1511) + (6 - n_283) * 216 + 0) QQ (F0 m 283 ls []) := by
                          intro n_283
                          induction n_283 with
                          | zero => intro _; intro w337 w338 E339 F340 H locs ls hF hl hW hEF et_q35 et_q45 er_q45 hS; rw [lp_L_law_283] at hF; cases hF
                          | succ n_283 ih_283 =>
                            intro hn_283
                            intro w337 w338 E339 F340 H locs ls hF hl hW hEF et_q35 et_q45 er_q45 hS
                            rw [lp_L_law_283] at hF
                            refine lv_iload hx hb dL_law_283 (lv_at hl 0 rfl) ?_
                            refine lv_iload hx hb dL_law_285 (lv_at hl 3 rfl) ?_
                            refine lv_icmp_ge (tgt := 495) hx hb dL_law_287 (by decide) (fun c341 => ?_) (fun c341 => ?_)
                            · have hF := tc_it hF c341
                              refine W.widen (k := (211) + (61 - (n_24 + 1)) * 1434 + 439) (n := (5079) + (61 - (n_24 + 1)) * 8777 + 2807) (by omega) (by omega) ?_
                              exact Jkc87 w338 E339 F340 _ _ _ hF (lv_sub hl [1, 4, 5, 6, 7, 8] rfl) hW hEF et_q35 et_q45 er_q45 hS
                            · have hF := tc_if hF c341
                              refine lv_iconst (v := 0) hx hb dL_law_290 (by decide) ?_
                              refine lv_istore (lv' := [(13, .int 0), (12, .int w337), (11, .int w338), (10, .ref q45), (6, .int r29), (4, .int v26), (3, .int w18), (2, .ref (F340 0)), (1, .ref (E339 0)), (0, .ref b)]) hx hb dL_law_291 hl (by decide) rfl (fun ls hl => ?_)
                              refine lv_iconst (v := 0) hx hb dL_law_293 (by decide) ?_
                              refine lv_istore (lv' := [(14, .int 0), (13, .int 0), (12, .int w337), (11, .int w338), (10, .ref q45), (6, .int r29), (4, .int v26), (3, .int w18), (2, .ref (F340 0)), (1, .ref (E339 0)), (0, .ref b)]) hx hb dL_law_294 hl (by decide) rfl (fun ls hl => ?_)
                              obtain ⟨kc347, ekc347, hF⟩ := tc_jx hF
                              have Jkc347 : ∀ (w344 : Int32) (E345 F346 : Nat → Nat) (H : Heap) (locs : List Loc) (ls : Array Slot), kc347 w344 = some 1 → lv_has ls 24 [(13, .int w344), (12, .int w337), (11, .int w338), (10, .ref q45), (6, .int r29), (4, .int v26), (3, .int w18), (2, .ref (F346 0)), (1, .ref (E345 0)), (0, .ref b)] → tc_WL D cU cO cI cII cZ e0 A49 E345 F346 x58 z59 H → E345 0 = E 0 ∧ F346 0 = F 0 → va_at D vwCl (q35, .inl (cZ, r27.toNatClampNeg, .inl u41)) H → va_at D vwCl (q45, .inl (cII, r29.toNatClampNeg, .inr (.inr (.inr (.inr (fun j => some (r46 j))))))) H → (∀ j, j < r29.toNatClampNeg → va_at D vwCl (r46 j, .inl (cI, 9, .inl (u52 j))) H) → va_S A s.heap H locs → W p l e room_1 s m #[Value.ref b] below meth c H locs (((211) + (61 - (n_24 + 1)) * 1434 + 223) + (6 - (n_283 + 1)) * 36 + 20) (((5079) + (61 - (n_24 + 1)) * 8777 + 1511) + (6 - (n_283 + 1)) * 216 + 120) QQ (F0 m 338 ls []) := by
                                intro w344 E345 F346 H locs ls hF hl hW hEF et_q35 et_q45 er_q45 hS
                                rw [ekc347] at hF
                                dsimp only at hF
                                refine lv_iload hx hb dL_law_338 (lv_at hl 2 rfl) ?_
                                refine lv_iload hx hb dL_law_340 (lv_at hl 0 rfl) ?_
                                obtain ⟨kc351, ekc351, hF⟩ := tc_jx hF
                                have Jkc351 : ∀ (w348 : Int32) (E349 F350 : Nat → Nat) (H : Heap) (locs : List Loc) (ls : Array Slot), kc351 w348 = some 1 → lv_has ls 24 [(12, .int w337), (10, .ref q45), (6, .int r29), (4, .int v26), (3, .int w18), (2, .ref (F350 0)), (1, .ref (E349 0)), (0, .ref b)] → tc_WL D cU cO cI cII cZ e0 A49 E349 F350 x58 z59 H → E349 0 = E 0 ∧ F350 0 = F 0 → va_at D vwCl (q35, .inl (cZ, r27.toNatClampNeg, .inl u41)) H → va_at D vwCl (q45, .inl (cII, r29.toNatClampNeg, .inr (.inr (.inr (.inr (fun j => some (r46 j))))))) H → (∀ j, j < r29.toNatClampNeg → va_at D vwCl (r46 j, .inl (cI, 9, .inl (u52 j))) H) → va_S A s.heap H locs → W p l e room_1 s m #[Value.ref b] below meth c H locs (((211) + (61 - (n_24 + 1)) * 1434 + 223) + (6 - (n_283 + 1)) * 36 + 20) (((5079) + (61 - (n_24 + 1)) * 8777 + 1511) + (6 - (n_283 + 1)) * 216 + 120) QQ (F0 m 350 ls [.int w348, .int w338]) := by
                                  intro w348 E349 F350 H locs ls hF hl hW hEF et_q35 et_q45 er_q45 hS
                                  rw [ekc351] at hF
                                  dsimp only at hF
                                  refine lv_iadd hx hb dL_law_350 ?_
                                  refine lv_topi (fun v352 ev352 => ?_)
                                  have hF := tc_lt hF ev352
                                  refine lv_istore (lv' := [(11, .int v352), (12, .int w337), (10, .ref q45), (6, .int r29), (4, .int v26), (3, .int w18), (2, .ref (F350 0)), (1, .ref (E349 0)), (0, .ref b)]) hx hb dL_law_351 hl (by decide) rfl (fun ls hl => ?_)
                                  refine lv_aload_n hx hb dL_law_353 rfl (lv_at hl 7 rfl) ?_
                                  refine lv_iload hx hb dL_law_354 (lv_at hl 1 rfl) ?_
                                  refine lv_iconst (v := 0) hx hb dL_law_356 (by decide) ?_
                                  obtain ⟨r353, h354, hF⟩ := tc_bi hF
                                  have h354 := tc_rdx h354
                                  refine tc_cx (vx_runV (As := [.int w337, .int 0]) (rest := []) ⟨hx, hb, hml, hown, hts⟩ (mt_X2_crane l hst D cU cO cI e0 (tc_A1 A49 F350 z59) E349 x58 w337 0 0 r353 h354) (cwV 2 hts gL_law_X2_crane rfl rfl rfl (by decide +kernel) ⟨Nat.le_of_ble_eq_true rfl, Nat.le_of_ble_eq_true rfl⟩) ⟨fun a U g mk q => ⟨q.1, q.2.1, q.2.2.call⟩, tc_rcv hW.1.o hK rfl, fun U hU hW9 => ⟨rfl, by rw [hU]; exact hW.1, ((hKX.go hS hU hW9).narrow (fun z9 h9 => hA38A _ (hA49A _ (h9.1))) (by rw [hU]; exact hW.newA (fun z9 h9 => by rw [eA49, eA38]; exact ⟨⟨hAn z9 (Nat.le_trans hS.1 h9), (fun h8 => absurd et_q35.lt (Nat.not_lt.mpr (by rw [← h8]; exact h9)))⟩, (fun h8 => absurd et_q45.lt (Nat.not_lt.mpr (by rw [← h8]; exact h9))), fun j hj h8 => absurd (er_q45 j hj).lt (Nat.not_lt.mpr (by rw [← h8]; exact h9))⟩)))⟩⟩ rfl rfl hl.1 rfl (lv_room (Nat.le_of_ble_eq_true rfl)) dL_law_357 ⟨(by show _ ≤ (600104 : Nat); omega), (by show _ ≤ (7301314 : Nat); omega)⟩) hS (fun z9 _ h9 => hA38A _ (hA49A _ (h9.1))) (fun z9 h9 => hA38A _ (hA49A _ (h9.1))) (fun z9 _ h9 => hA38A _ (hA49A _ (h9.1))) (fun ce q9 H locs c9 _ _ _ _ _ _ _ => absurd rfl c9) (fun H locs _ hB z1 o1 hS => ?_)
                                  have et_q35 := et_q35.kept (o1 _ et_q35.lt (fun h9 => hx_q35 h9.1))
                                  have et_q45 := et_q45.kept (o1 _ et_q45.lt (fun h9 => hx_q45 h9.1))
                                  have er_q45 := fun j hj => (er_q45 j hj).kept (o1 _ (er_q45 j hj).lt (fun h9 => hxr_q45 j hj h9.1))
                                  have hW := hW.afterC hB o1
                                  refine lv_aload hx hb dL_law_360 (lv_at hl 2 rfl) ?_
                                  refine lv_iload hx hb dL_law_362 (lv_at hl 1 rfl) ?_
                                  obtain ⟨g355, hF⟩ := tc_ob hF
                                  refine tc_aaldA2 (q := r46 w337.toNatClampNeg) (j := w337.toNatClampNeg) (rfl) hx hb hKS et_q45 0 rfl g355 dL_law_364 rfl ?_
                                  refine lv_iconst (v := 0) hx hb dL_law_365 (by decide) ?_
                                  refine tc_iald2 (j := 0) (by decide) hx hb hK (er_q45 _ (show ¬ w337 < 0 ∧ w337.toNatClampNeg < r29.toNatClampNeg from g355).2) 2 rfl ⟨by decide, by decide⟩ dL_law_366 ?_
                                  refine lv_icmp_ne (tgt := 404) hx hb dL_law_367 (by decide) (fun c356 => ?_) (fun c356 => ?_)
                                  · have hF := tc_if hF c356
                                    cases hF
                                  · have hF := tc_it hF c356
                                    refine lv_aload_n hx hb dL_law_370 rfl (lv_at hl 7 rfl) ?_
                                    refine lv_iload hx hb dL_law_371 (lv_at hl 1 rfl) ?_
                                    refine lv_iconst (v := 1) hx hb dL_law_373 (by decide) ?_
                                    obtain ⟨r357, h358, hF⟩ := tc_bi hF
                                    have h358 := tc_rdx h358
                                    refine tc_cx (vx_runV (As := [.int w337, .int 1]) (rest := []) ⟨hx, hb, hml, hown, hts⟩ (mt_X2_crane l hst D cU cO cI e0 (tc_A1 A49 F350 z59) E349 x58 w337 1 0 r357 h358) (cwV 2 hts gL_law_X2_crane rfl rfl rfl (by decide +kernel) ⟨Nat.le_of_ble_eq_true rfl, Nat.le_of_ble_eq_true rfl⟩) ⟨fun a U g mk q => ⟨q.1, q.2.1, q.2.2.call⟩, tc_rcv hW.1.o hK rfl, fun U hU hW9 => ⟨rfl, by rw [hU]; exact hW.1, ((hKX.go hS hU hW9).narrow (fun z9 h9 => hA38A _ (hA49A _ (h9.1))) (by rw [hU]; exact hW.newA (fun z9 h9 => by rw [eA49, eA38]; exact ⟨⟨hAn z9 (Nat.le_trans hS.1 h9), (fun h8 => absurd et_q35.lt (Nat.not_lt.mpr (by rw [← h8]; exact h9)))⟩, (fun h8 => absurd et_q45.lt (Nat.not_lt.mpr (by rw [← h8]; exact h9))), fun j hj h8 => absurd (er_q45 j hj).lt (Nat.not_lt.mpr (by rw [← h8]; exact h9))⟩)))⟩⟩ rfl rfl hl.1 rfl (lv_room (Nat.le_of_ble_eq_true rfl)) dL_law_374 ⟨(by show _ ≤ (600104 : Nat); omega), (by show _ ≤ (7301314 : Nat); omega)⟩) hS (fun z9 _ h9 => hA38A _ (hA49A _ (h9.1))) (fun z9 h9 => hA38A _ (hA49A _ (h9.1))) (fun z9 _ h9 => hA38A _ (hA49A _ (h9.1))) (fun ce q9 H locs c9 _ _ _ _ _ _ _ => absurd rfl c9) (fun H locs _ hB z1 o1 hS => ?_)
                                    have et_q35 := et_q35.kept (o1 _ et_q35.lt (fun h9 => hx_q35 h9.1))
                                    have et_q45 := et_q45.kept (o1 _ et_q45.lt (fun h9 => hx_q45 h9.1))
                                    have er_q45 := fun j hj => (er_q45 j hj).kept (o1 _ (er_q45 j hj).lt (fun h9 => hxr_q45 j hj h9.1))
                                    have hW := hW.afterC hB o1
                                    refine lv_aload hx hb dL_law_377 (lv_at hl 2 rfl) ?_
                                    refine lv_iload hx hb dL_law_379 (lv_at hl 1 rfl) ?_
                                    refine tc_aaldA2 (q := r46 w337.toNatClampNeg) (j := w337.toNatClampNeg) (rfl) hx hb hKS et_q45 0 rfl g355 dL_law_381 rfl ?_
                                    refine lv_iconst (v := 1) hx hb dL_law_382 (by decide) ?_
                                    refine tc_iald2 (j := 1) (by decide) hx hb hK (er_q45 _ (show ¬ w337 < 0 ∧ w337.toNatClampNeg < r29.toNatClampNeg from g355).2) 2 rfl ⟨by decide, by decide⟩ dL_law_383 ?_
                                    refine lv_icmp_ne (tgt := 404) hx hb dL_law_384 (by decide) (fun c359 => ?_) (fun c359 => ?_)
                                    · have hF := tc_if hF c359
                                      cases hF
                                    · have hF := tc_it hF c359
                                      refine lv_aload_n hx hb dL_law_387 rfl (lv_at hl 7 rfl) ?_
                                      refine lv_iload hx hb dL_law_388 (lv_at hl 1 rfl) ?_
                                      refine lv_iconst (v := 2) hx hb dL_law_390 (by decide) ?_
                                      obtain ⟨r360, h361, hF⟩ := tc_bi hF
                                      have h361 := tc_rdx h361
                                      refine tc_cx (vx_runV (As := [.int w337, .int 2]) (rest := []) ⟨hx, hb, hml, hown, hts⟩ (mt_X2_crane l hst D cU cO cI e0 (tc_A1 A49 F350 z59) E349 x58 w337 2 0 r360 h361) (cwV 2 hts gL_law_X2_crane rfl rfl rfl (by decide +kernel) ⟨Nat.le_of_ble_eq_true rfl, Nat.le_of_ble_eq_true rfl⟩) ⟨fun a U g mk q => ⟨q.1, q.2.1, q.2.2.call⟩, tc_rcv hW.1.o hK rfl, fun U hU hW9 => ⟨rfl, by rw [hU]; exact hW.1, ((hKX.go hS hU hW9).narrow (fun z9 h9 => hA38A _ (hA49A _ (h9.1))) (by rw [hU]; exact hW.newA (fun z9 h9 => by rw [eA49, eA38]; exact ⟨⟨hAn z9 (Nat.le_trans hS.1 h9), (fun h8 => absurd et_q35.lt (Nat.not_lt.mpr (by rw [← h8]; exact h9)))⟩, (fun h8 => absurd et_q45.lt (Nat.not_lt.mpr (by rw [← h8]; exact h9))), fun j hj h8 => absurd (er_q45 j hj).lt (Nat.not_lt.mpr (by rw [← h8]; exact h9))⟩)))⟩⟩ rfl rfl hl.1 rfl (lv_room (Nat.le_of_ble_eq_true rfl)) dL_law_391 ⟨(by show _ ≤ (600104 : Nat); omega), (by show _ ≤ (7301314 : Nat); omega)⟩) hS (fun z9 _ h9 => hA38A _ (hA49A _ (h9.1))) (fun z9 h9 => hA38A _ (hA49A _ (h9.1))) (fun z9 _ h9 => hA38A _ (hA49A _ (h9.1))) (fun ce q9 H locs c9 _ _ _ _ _ _ _ => absurd rfl c9) (fun H locs _ hB z1 o1 hS => ?_)
                                      have et_q35 := et_q35.kept (o1 _ et_q35.lt (fun h9 => hx_q35 h9.1))
                                      have et_q45 := et_q45.kept (o1 _ et_q45.lt (fun h9 => hx_q45 h9.1))
                                      have er_q45 := fun j hj => (er_q45 j hj).kept (o1 _ (er_q45 j hj).lt (fun h9 => hxr_q45 j hj h9.1))
                                      have hW := hW.afterC hB o1
                                      refine lv_aload hx hb dL_law_394 (lv_at hl 2 rfl) ?_
                                      refine lv_iload hx hb dL_law_396 (lv_at hl 1 rfl) ?_
                                      refine tc_aaldA2 (q := r46 w337.toNatClampNeg) (j := w337.toNatClampNeg) (rfl) hx hb hKS et_q45 0 rfl g355 dL_law_398 rfl ?_
                                      refine lv_iconst (v := 2) hx hb dL_law_399 (by decide) ?_
                                      refine tc_iald2 (j := 2) (by decide) hx hb hK (er_q45 _ (show ¬ w337 < 0 ∧ w337.toNatClampNeg < r29.toNatClampNeg from g355).2) 2 rfl ⟨by decide, by decide⟩ dL_law_400 ?_
                                      refine lv_icmp_eq (tgt := 406) hx hb dL_law_401 (by decide) (fun c362 => ?_) (fun c362 => ?_)
                                      · have hF := tc_it hF c362
                                        refine lv_aload_n hx hb dL_law_406 rfl (lv_at hl 7 rfl) ?_
                                        refine lv_iload hx hb dL_law_407 (lv_at hl 1 rfl) ?_
                                        refine lv_iconst (v := 4) hx hb dL_law_409 (by decide) ?_
                                        obtain ⟨r363, h364, hF⟩ := tc_bi hF
                                        have h364 := tc_rdx h364
                                        refine tc_cx (vx_runV (As := [.int w337, .int 4]) (rest := []) ⟨hx, hb, hml, hown, hts⟩ (mt_X2_crane l hst D cU cO cI e0 (tc_A1 A49 F350 z59) E349 x58 w337 4 0 r363 h364) (cwV 2 hts gL_law_X2_crane rfl rfl rfl (by decide +kernel) ⟨Nat.le_of_ble_eq_true rfl, Nat.le_of_ble_eq_true rfl⟩) ⟨fun a U g mk q => ⟨q.1, q.2.1, q.2.2.call⟩, tc_rcv hW.1.o hK rfl, fun U hU hW9 => ⟨rfl, by rw [hU]; exact hW.1, ((hKX.go hS hU hW9).narrow (fun z9 h9 => hA38A _ (hA49A _ (h9.1))) (by rw [hU]; exact hW.newA (fun z9 h9 => by rw [eA49, eA38]; exact ⟨⟨hAn z9 (Nat.le_trans hS.1 h9), (fun h8 => absurd et_q35.lt (Nat.not_lt.mpr (by rw [← h8]; exact h9)))⟩, (fun h8 => absurd et_q45.lt (Nat.not_lt.mpr (by rw [← h8]; exact h9))), fun j hj h8 => absurd (er_q45 j hj).lt (Nat.not_lt.mpr (by rw [← h8]; exact h9))⟩)))⟩⟩ rfl rfl hl.1 rfl (lv_room (Nat.le_of_ble_eq_true rfl)) dL_law_410 ⟨(by show _ ≤ (600104 : Nat); omega), (by show _ ≤ (7301314 : Nat); omega)⟩) hS (fun z9 _ h9 => hA38A _ (hA49A _ (h9.1))) (fun z9 h9 => hA38A _ (hA49A _ (h9.1))) (fun z9 _ h9 => hA38A _ (hA49A _ (h9.1))) (fun ce q9 H locs c9 _ _ _ _ _ _ _ => absurd rfl c9) (fun H locs _ hB z1 o1 hS => ?_)
                                        have et_q35 := et_q35.kept (o1 _ et_q35.lt (fun h9 => hx_q35 h9.1))
                                        have et_q45 := et_q45.kept (o1 _ et_q45.lt (fun h9 => hx_q45 h9.1))
                                        have er_q45 := fun j hj => (er_q45 j hj).kept (o1 _ (er_q45 j hj).lt (fun h9 => hxr_q45 j hj h9.1))
                                        have hW := hW.afterC hB o1
                                        refine lv_aload hx hb dL_law_413 (lv_at hl 2 rfl) ?_
                                        refine lv_iload hx hb dL_law_415 (lv_at hl 1 rfl) ?_
                                        refine tc_aaldA2 (q := r46 w337.toNatClampNeg) (j := w337.toNatClampNeg) (rfl) hx hb hKS et_q45 0 rfl g355 dL_law_417 rfl ?_
                                        refine lv_iconst (v := 4) hx hb dL_law_418 (by decide) ?_
                                        refine tc_iald2 (j := 4) (by decide) hx hb hK (er_q45 _ (show ¬ w337 < 0 ∧ w337.toNatClampNeg < r29.toNatClampNeg from g355).2) 2 rfl ⟨by decide, by decide⟩ dL_law_419 ?_
                                        obtain ⟨kc367, ekc367, hF⟩ := tc_jx hF
                                        have Jkc367 : ∀  (E365 F366 : Nat → Nat) (H : Heap) (locs : List Loc) (ls : Array Slot), kc367  = some 1 → lv_has ls 24 [(12, .int w337), (11, .int v352), (10, .ref q45), (6, .int r29), (4, .int v26), (3, .int w18), (2, .ref (F366 0)), (1, .ref (E365 0)), (0, .ref b)] → tc_WL D cU cO cI cII cZ e0 A49 E365 F366 x58 z59 H → E365 0 = E 0 ∧ F366 0 = F 0 → va_at D vwCl (q35, .inl (cZ, r27.toNatClampNeg, .inl u41)) H → va_at D vwCl (q45, .inl (cII, r29.toNatClampNeg, .inr (.inr (.inr (.inr (fun j => some (r46 j))))))) H → (∀ j, j < r29.toNatClampNeg → va_at D vwCl (r46 j, .inl (cI, 9, .inl (u52 j))) H) → va_S A s.heap H locs → W p l e room_1 s m #[Value.ref b] below meth c H locs (((211) + (61 - (n_24 + 1)) * 1434 + 223) + (6 - (n_283 + 1)) * 36 + 36) (((5079) + (61 - (n_24 + 1)) * 8777 + 1511) + (6 - (n_283 + 1)) * 216 + 216) QQ (F0 m 489 ls []) := by
                                          intro  E365 F366 H locs ls hF hl hW hEF et_q35 et_q45 er_q45 hS
                                          rw [ekc367] at hF
                                          obtain ⟨v368, ev368⟩ : ∃ z9 : Int32, z9 = w337 + 1 := ⟨_, rfl⟩
                                          have hF := tc_lt hF ev368
                                          refine lv_iinc (v := v368) (lv' := [(12, .int v368), (11, .int v352), (10, .ref q45), (6, .int r29), (4, .int v26), (3, .int w18), (2, .ref (F366 0)), (1, .ref (E365 0)), (0, .ref b)]) hx hb dL_law_489 hl (k := 0) rfl (by rw [ev368]; rfl) (by decide) rfl (fun ls hl => ?_)
                                          refine lv_goto (tgt := 283) hx hb dL_law_492 (by decide) ?_
                                          refine W.widen (k := ((211) + (61 - (n_24 + 1)) * 1434 + 223) + (6 - n_283) * 36 + 0) (n := ((5079) + (61 - (n_24 + 1)) * 8777 + 1511) + (6 - n_283) * 216 + 0) (by omega) (by omega) ?_
                                          exact ih_283 (Nat.le_of_succ_le hn_283) v368 v352 E365 F366 _ _ _ hF (lv_sub hl [0, 1, 2, 3, 4, 5, 6, 7, 8] rfl) hW hEF et_q35 et_q45 er_q45 hS
                                        refine lv_icmp_le (tgt := 489) hx hb dL_law_420 (by decide) (fun c369 => ?_) (fun c369 => ?_)
                                        · have hF := tc_it hF c369
                                          refine W.widen (k := ((211) + (61 - (n_24 + 1)) * 1434 + 223) + (6 - (n_283 + 1)) * 36 + 36) (n := ((5079) + (61 - (n_24 + 1)) * 8777 + 1511) + (6 - (n_283 + 1)) * 216 + 216) (by omega) (by omega) ?_
                                          exact Jkc367  E349 F350 _ _ _ hF (lv_sub hl [1, 0, 2, 3, 4, 5, 6, 7, 8] rfl) hW hEF et_q35 et_q45 er_q45 hS
                                        · have hF := tc_if hF c369
                                          refine lv_aload hx hb dL_law_423 (lv_at hl 2 rfl) ?_
                                          refine lv_iload hx hb dL_law_425 (lv_at hl 1 rfl) ?_
                                          refine tc_aaldA2 (q := r46 w337.toNatClampNeg) (j := w337.toNatClampNeg) (rfl) hx hb hKS et_q45 0 rfl g355 dL_law_427 rfl ?_
                                          refine lv_bipush (v := 7) hx hb dL_law_428 (by decide) ?_
                                          refine tc_iald2 (j := 7) (by decide) hx hb hK (er_q45 _ (show ¬ w337 < 0 ∧ w337.toNatClampNeg < r29.toNatClampNeg from g355).2) 2 rfl ⟨by decide, by decide⟩ dL_law_430 ?_
                                          refine lv_if_lt (tgt := 487) hx hb dL_law_431 (by decide) (fun c370 => ?_) (fun c370 => ?_)
                                          · have hF := tc_it hF c370
                                            cases hF
                                          · have hF := tc_if hF c370
                                            refine lv_aload_n hx hb dL_law_434 rfl (lv_at hl 7 rfl) ?_
                                            refine lv_iload hx hb dL_law_435 (lv_at hl 1 rfl) ?_
                                            refine lv_bipush (v := 7) hx hb dL_law_437 (by decide) ?_
                                            obtain ⟨r371, h372, hF⟩ := tc_bi hF
                                            have h372 := tc_rdx h372
                                            refine tc_cx (vx_runV (As := [.int w337, .int 7]) (rest := []) ⟨hx, hb, hml, hown, hts⟩ (mt_X2_crane l hst D cU cO cI e0 (tc_A1 A49 F350 z59) E349 x58 w337 7 0 r371 h372) (cwV 2 hts gL_law_X2_crane rfl rfl rfl (by decide +kernel) ⟨Nat.le_of_ble_eq_true rfl, Nat.le_of_ble_eq_true rfl⟩) ⟨fun a U g mk q => ⟨q.1, q.2.1, q.2.2.call⟩, tc_rcv hW.1.o hK rfl, fun U hU hW9 => ⟨rfl, by rw [hU]; exact hW.1, ((hKX.go hS hU hW9).narrow (fun z9 h9 => hA38A _ (hA49A _ (h9.1))) (by rw [hU]; exact hW.newA (fun z9 h9 => by rw [eA49, eA38]; exact ⟨⟨hAn z9 (Nat.le_trans hS.1 h9), (fun h8 => absurd et_q35.lt (Nat.not_lt.mpr (by rw [← h8]; exact h9)))⟩, (fun h8 => absurd et_q45.lt (Nat.not_lt.mpr (by rw [← h8]; exact h9))), fun j hj h8 => absurd (er_q45 j hj).lt (Nat.not_lt.mpr (by rw [← h8]; exact h9))⟩)))⟩⟩ rfl rfl hl.1 rfl (lv_room (Nat.le_of_ble_eq_true rfl)) dL_law_439 ⟨(by show _ ≤ (600104 : Nat); omega), (by show _ ≤ (7301314 : Nat); omega)⟩) hS (fun z9 _ h9 => hA38A _ (hA49A _ (h9.1))) (fun z9 h9 => hA38A _ (hA49A _ (h9.1))) (fun z9 _ h9 => hA38A _ (hA49A _ (h9.1))) (fun ce q9 H locs c9 _ _ _ _ _ _ _ => absurd rfl c9) (fun H locs _ hB z1 o1 hS => ?_)
                                            have et_q35 := et_q35.kept (o1 _ et_q35.lt (fun h9 => hx_q35 h9.1))
                                            have et_q45 := et_q45.kept (o1 _ et_q45.lt (fun h9 => hx_q45 h9.1))
                                            have er_q45 := fun j hj => (er_q45 j hj).kept (o1 _ (er_q45 j hj).lt (fun h9 => hxr_q45 j hj h9.1))
                                            have hW := hW.afterC hB o1
                                            obtain ⟨kc375, ekc375, hF⟩ := tc_jx hF
                                            have Jkc375 : ∀  (E373 F374 : Nat → Nat) (H : Heap) (locs : List Loc) (ls : Array Slot), kc375  = some 1 → lv_has ls 24 [(12, .int w337), (11, .int v352), (10, .ref q45), (6, .int r29), (4, .int v26), (3, .int w18), (2, .ref (F374 0)), (1, .ref (E373 0)), (0, .ref b)] → tc_WL D cU cO cI cII cZ e0 A49 E373 F374 x58 z59 H → E373 0 = E 0 ∧ F374 0 = F 0 → va_at D vwCl (q35, .inl (cZ, r27.toNatClampNeg, .inl u41)) H → va_at D vwCl (q45, .inl (cII, r29.toNatClampNeg, .inr (.inr (.inr (.inr (fun j => some (r46 j))))))) H → (∀ j, j < r29.toNatClampNeg → va_at D vwCl (r46 j, .inl (cI, 9, .inl (u52 j))) H) → va_S A s.heap H locs → W p l e room_1 s m #[Value.ref b] below meth c H locs (((211) + (61 - (n_24 + 1)) * 1434 + 223) + (6 - (n_283 + 1)) * 36 + 32) (((5079) + (61 - (n_24 + 1)) * 8777 + 1511) + (6 - (n_283 + 1)) * 216 + 192) QQ (F0 m 464 ls []) := by
                                              intro  E373 F374 H locs ls hF hl hW hEF et_q35 et_q45 er_q45 hS
                                              rw [ekc375] at hF
                                              refine lv_aload_n hx hb dL_law_464 rfl (lv_at hl 7 rfl) ?_
                                              refine lv_iload hx hb dL_law_465 (lv_at hl 0 rfl) ?_
                                              refine lv_bipush (v := 7) hx hb dL_law_467 (by decide) ?_
                                              obtain ⟨r376, h377, hF⟩ := tc_bi hF
                                              have h377 := tc_rdx h377
                                              refine tc_cx (vx_runV (As := [.int w337, .int 7]) (rest := []) ⟨hx, hb, hml, hown, hts⟩ (mt_X2_crane l hst D cU cO cI e0 (tc_A1 A49 F374 z59) E373 x58 w337 7 0 r376 h377) (cwV 2 hts gL_law_X2_crane rfl rfl rfl (by decide +kernel) ⟨Nat.le_of_ble_eq_true rfl, Nat.le_of_ble_eq_true rfl⟩) ⟨fun a U g mk q => ⟨q.1, q.2.1, q.2.2.call⟩, tc_rcv hW.1.o hK rfl, fun U hU hW9 => ⟨rfl, by rw [hU]; exact hW.1, ((hKX.go hS hU hW9).narrow (fun z9 h9 => hA38A _ (hA49A _ (h9.1))) (by rw [hU]; exact hW.newA (fun z9 h9 => by rw [eA49, eA38]; exact ⟨⟨hAn z9 (Nat.le_trans hS.1 h9), (fun h8 => absurd et_q35.lt (Nat.not_lt.mpr (by rw [← h8]; exact h9)))⟩, (fun h8 => absurd et_q45.lt (Nat.not_lt.mpr (by rw [← h8]; exact h9))), fun j hj h8 => absurd (er_q45 j hj).lt (Nat.not_lt.mpr (by rw [← h8]; exact h9))⟩)))⟩⟩ rfl rfl hl.1 rfl (lv_room (Nat.le_of_ble_eq_true rfl)) dL_law_469 ⟨(by show _ ≤ (600104 : Nat); omega), (by show _ ≤ (7301314 : Nat); omega)⟩) hS (fun z9 _ h9 => hA38A _ (hA49A _ (h9.1))) (fun z9 h9 => hA38A _ (hA49A _ (h9.1))) (fun z9 _ h9 => hA38A _ (hA49A _ (h9.1))) (fun ce q9 H locs c9 _ _ _ _ _ _ _ => absurd rfl c9) (fun H locs _ hB z1 o1 hS => ?_)
                                              have et_q35 := et_q35.kept (o1 _ et_q35.lt (fun h9 => hx_q35 h9.1))
                                              have et_q45 := et_q45.kept (o1 _ et_q45.lt (fun h9 => hx_q45 h9.1))
                                              have er_q45 := fun j hj => (er_q45 j hj).kept (o1 _ (er_q45 j hj).lt (fun h9 => hxr_q45 j hj h9.1))
                                              have hW := hW.afterC hB o1
                                              refine lv_if_ge (tgt := 489) hx hb dL_law_472 (by decide) (fun c378 => ?_) (fun c378 => ?_)
                                              · have hF := tc_it hF c378
                                                refine W.widen (k := ((211) + (61 - (n_24 + 1)) * 1434 + 223) + (6 - (n_283 + 1)) * 36 + 36) (n := ((5079) + (61 - (n_24 + 1)) * 8777 + 1511) + (6 - (n_283 + 1)) * 216 + 216) (by omega) (by omega) ?_
                                                exact Jkc367  E373 F374 _ _ _ hF (lv_sub hl [0, 1, 2, 3, 4, 5, 6, 7, 8] rfl) hW hEF et_q35 et_q45 er_q45 hS
                                              · have hF := tc_if hF c378
                                                refine lv_aload_n hx hb dL_law_475 rfl (lv_at hl 7 rfl) ?_
                                                refine lv_iload hx hb dL_law_476 (lv_at hl 0 rfl) ?_
                                                refine lv_iconst (v := 4) hx hb dL_law_478 (by decide) ?_
                                                obtain ⟨r379, h380, hF⟩ := tc_bi hF
                                                have h380 := tc_rdx h380
                                                refine tc_cx (vx_runV (As := [.int w337, .int 4]) (rest := []) ⟨hx, hb, hml, hown, hts⟩ (mt_X2_crane l hst D cU cO cI e0 (tc_A1 A49 F374 z59) E373 x58 w337 4 0 r379 h380) (cwV 2 hts gL_law_X2_crane rfl rfl rfl (by decide +kernel) ⟨Nat.le_of_ble_eq_true rfl, Nat.le_of_ble_eq_true rfl⟩) ⟨fun a U g mk q => ⟨q.1, q.2.1, q.2.2.call⟩, tc_rcv hW.1.o hK rfl, fun U hU hW9 => ⟨rfl, by rw [hU]; exact hW.1, ((hKX.go hS hU hW9).narrow (fun z9 h9 => hA38A _ (hA49A _ (h9.1))) (by rw [hU]; exact hW.newA (fun z9 h9 => by rw [eA49, eA38]; exact ⟨⟨hAn z9 (Nat.le_trans hS.1 h9), (fun h8 => absurd et_q35.lt (Nat.not_lt.mpr (by rw [← h8]; exact h9)))⟩, (fun h8 => absurd et_q45.lt (Nat.not_lt.mpr (by rw [← h8]; exact h9))), fun j hj h8 => absurd (er_q45 j hj).lt (Nat.not_lt.mpr (by rw [← h8]; exact h9))⟩)))⟩⟩ rfl rfl hl.1 rfl (lv_room (Nat.le_of_ble_eq_true rfl)) dL_law_479 ⟨(by show _ ≤ (600104 : Nat); omega), (by show _ ≤ (7301314 : Nat); omega)⟩) hS (fun z9 _ h9 => hA38A _ (hA49A _ (h9.1))) (fun z9 h9 => hA38A _ (hA49A _ (h9.1))) (fun z9 _ h9 => hA38A _ (hA49A _ (h9.1))) (fun ce q9 H locs c9 _ _ _ _ _ _ _ => absurd rfl c9) (fun H locs _ hB z1 o1 hS => ?_)
                                                have et_q35 := et_q35.kept (o1 _ et_q35.lt (fun h9 => hx_q35 h9.1))
                                                have et_q45 := et_q45.kept (o1 _ et_q45.lt (fun h9 => hx_q45 h9.1))
                                                have er_q45 := fun j hj => (er_q45 j hj).kept (o1 _ (er_q45 j hj).lt (fun h9 => hxr_q45 j hj h9.1))
                                                have hW := hW.afterC hB o1
                                                refine lv_bipush (v := 99) hx hb dL_law_482 (by decide) ?_
                                                refine lv_icmp_eq (tgt := 489) hx hb dL_law_484 (by decide) (fun c381 => ?_) (fun c381 => ?_)
                                                · have hF := tc_it hF c381
                                                  exact Jkc367  E373 F374 _ _ _ hF (lv_sub hl [0, 1, 2, 3, 4, 5, 6, 7, 8] rfl) hW hEF et_q35 et_q45 er_q45 hS
                                                · have hF := tc_if hF c381
                                                  cases hF
                                            refine lv_if_lt (tgt := 464) hx hb dL_law_442 (by decide) (fun c382 => ?_) (fun c382 => ?_)
                                            · have hF := tc_it hF c382
                                              refine W.widen (k := ((211) + (61 - (n_24 + 1)) * 1434 + 223) + (6 - (n_283 + 1)) * 36 + 32) (n := ((5079) + (61 - (n_24 + 1)) * 8777 + 1511) + (6 - (n_283 + 1)) * 216 + 192) (by omega) (by omega) ?_
                                              exact Jkc375  E349 F350 _ _ _ hF (lv_sub hl [1, 0, 2, 3, 4, 5, 6, 7, 8] rfl) hW hEF et_q35 et_q45 er_q45 hS
                                            · have hF := tc_if hF c382
                                              refine lv_aload_n hx hb dL_law_445 rfl (lv_at hl 7 rfl) ?_
                                              refine lv_iload hx hb dL_law_446 (lv_at hl 1 rfl) ?_
                                              refine lv_bipush (v := 6) hx hb dL_law_448 (by decide) ?_
                                              obtain ⟨r383, h384, hF⟩ := tc_bi hF
                                              have h384 := tc_rdx h384
                                              refine tc_cx (vx_runV (As := [.int w337, .int 6]) (rest := []) ⟨hx, hb, hml, hown, hts⟩ (mt_X2_crane l hst D cU cO cI e0 (tc_A1 A49 F350 z59) E349 x58 w337 6 0 r383 h384) (cwV 2 hts gL_law_X2_crane rfl rfl rfl (by decide +kernel) ⟨Nat.le_of_ble_eq_true rfl, Nat.le_of_ble_eq_true rfl⟩) ⟨fun a U g mk q => ⟨q.1, q.2.1, q.2.2.call⟩, tc_rcv hW.1.o hK rfl, fun U hU hW9 => ⟨rfl, by rw [hU]; exact hW.1, ((hKX.go hS hU hW9).narrow (fun z9 h9 => hA38A _ (hA49A _ (h9.1))) (by rw [hU]; exact hW.newA (fun z9 h9 => by rw [eA49, eA38]; exact ⟨⟨hAn z9 (Nat.le_trans hS.1 h9), (fun h8 => absurd et_q35.lt (Nat.not_lt.mpr (by rw [← h8]; exact h9)))⟩, (fun h8 => absurd et_q45.lt (Nat.not_lt.mpr (by rw [← h8]; exact h9))), fun j hj h8 => absurd (er_q45 j hj).lt (Nat.not_lt.mpr (by rw [← h8]; exact h9))⟩)))⟩⟩ rfl rfl hl.1 rfl (lv_room (Nat.le_of_ble_eq_true rfl)) dL_law_450 ⟨(by show _ ≤ (600104 : Nat); omega), (by show _ ≤ (7301314 : Nat); omega)⟩) hS (fun z9 _ h9 => hA38A _ (hA49A _ (h9.1))) (fun z9 h9 => hA38A _ (hA49A _ (h9.1))) (fun z9 _ h9 => hA38A _ (hA49A _ (h9.1))) (fun ce q9 H locs c9 _ _ _ _ _ _ _ => absurd rfl c9) (fun H locs _ hB z1 o1 hS => ?_)
                                              have et_q35 := et_q35.kept (o1 _ et_q35.lt (fun h9 => hx_q35 h9.1))
                                              have et_q45 := et_q45.kept (o1 _ et_q45.lt (fun h9 => hx_q45 h9.1))
                                              have er_q45 := fun j hj => (er_q45 j hj).kept (o1 _ (er_q45 j hj).lt (fun h9 => hxr_q45 j hj h9.1))
                                              have hW := hW.afterC hB o1
                                              refine lv_aload hx hb dL_law_453 (lv_at hl 2 rfl) ?_
                                              refine lv_iload hx hb dL_law_455 (lv_at hl 1 rfl) ?_
                                              refine tc_aaldA2 (q := r46 w337.toNatClampNeg) (j := w337.toNatClampNeg) (rfl) hx hb hKS et_q45 0 rfl g355 dL_law_457 rfl ?_
                                              refine lv_bipush (v := 6) hx hb dL_law_458 (by decide) ?_
                                              refine tc_iald2 (j := 6) (by decide) hx hb hK (er_q45 _ (show ¬ w337 < 0 ∧ w337.toNatClampNeg < r29.toNatClampNeg from g355).2) 2 rfl ⟨by decide, by decide⟩ dL_law_460 ?_
                                              refine lv_icmp_ge (tgt := 487) hx hb dL_law_461 (by decide) (fun c385 => ?_) (fun c385 => ?_)
                                              · have hF := tc_it hF c385
                                                cases hF
                                              · have hF := tc_if hF c385
                                                exact Jkc375  E349 F350 _ _ _ hF (lv_sub hl [1, 0, 2, 3, 4, 5, 6, 7, 8] rfl) hW hEF et_q35 et_q45 er_q45 hS
                                      · have hF := tc_if hF c362
                                        cases hF
                                refine lv_if_eq (tgt := 349) hx hb dL_law_342 (by decide) (fun c386 => ?_) (fun c386 => ?_)
                                · have hF := tc_it hF c386
                                  refine lv_iconst (v := 0) hx hb dL_law_349 (by decide) ?_
                                  exact Jkc351 0 E345 F346 _ _ _ hF (lv_sub hl [1, 3, 4, 5, 6, 7, 8, 9] rfl) hW hEF et_q35 et_q45 er_q45 hS
                                · have hF := tc_if hF c386
                                  refine lv_iconst (v := 1) hx hb dL_law_345 (by decide) ?_
                                  refine lv_goto (tgt := 350) hx hb dL_law_346 (by decide) ?_
                                  exact Jkc351 1 E345 F346 _ _ _ hF (lv_sub hl [1, 3, 4, 5, 6, 7, 8, 9] rfl) hW hEF et_q35 et_q45 er_q45 hS
                              have hL_296 : ∀ (n_296 : Nat) (hn_296 : n_296 ≤ 10) (w387 : Int32) (w388 : Int32) (E389 F390 : Nat → Nat) (H : Heap) (locs : List Loc) (ls : Array Slot), lp_L_law_296 n_296 r29 u52 x58 w337 kc347 w387 w388 = some 1 → lv_has ls 24 [(14, .int w387), (13, .int w388), (12, .int w337), (11, .int w338), (10, .ref q45), (6, .int r29), (4, .int v26), (3, .int w18), (2, .ref (F390 0)), (1, .ref (E389 0)), (0, .ref b)] → tc_WL D cU cO cI cII cZ e0 A49 E389 F390 x58 z59 H → E389 0 = E 0 ∧ F390 0 = F 0 → va_at D vwCl (q35, .inl (cZ, r27.toNatClampNeg, .inl u41)) H → va_at D vwCl (q45, .inl (cII, r29.toNatClampNeg, .inr (.inr (.inr (.inr (fun j => some (r46 j))))))) H → (∀ j, j < r29.toNatClampNeg → va_at D vwCl (r46 j, .inl (cI, 9, .inl (u52 j))) H) → va_S A s.heap H locs → W p l e room_1 s m #[Value.ref b] below meth c H locs ((((211) + (61 - (n_24 + 1)) * 1434 + 223) + (6 - (n_283 + 1)) * 36 + 0) + (10 - n_296) * 2 + 0) ((((5079) + (61 - (n_24 + 1)) * 8777 + 1511) + (6 - (n_283 + 1)) * 216 + 0) + (10 - n_296) * 12 + 0) QQ (F0 m 296 ls []) := by
                                intro n_296
                                induction n_296 with
                                | zero => intro _; intro w387 w388 E389 F390 H locs ls hF hl hW hEF et_q35 et_q45 er_q45 hS; rw [lp_L_law_296] at hF; cases hF
                                | succ n_296 ih_296 =>
                                  intro hn_296
                                  intro w387 w388 E389 F390 H locs ls hF hl hW hEF et_q35 et_q45 er_q45 hS
                                  rw [lp_L_law_296] at hF
                                  refine lv_iload hx hb dL_law_296 (lv_at hl 0 rfl) ?_
                                  refine lv_bipush (v := 9) hx hb dL_law_298 (by decide) ?_
                                  refine lv_icmp_ge (tgt := 338) hx hb dL_law_300 (by decide) (fun c391 => ?_) (fun c391 => ?_)
                                  · have hF := tc_it hF c391
                                    refine W.widen (k := ((211) + (61 - (n_24 + 1)) * 1434 + 223) + (6 - (n_283 + 1)) * 36 + 20) (n := ((5079) + (61 - (n_24 + 1)) * 8777 + 1511) + (6 - (n_283 + 1)) * 216 + 120) (by omega) (by omega) ?_
                                    exact Jkc347 w388 E389 F390 _ _ _ hF (lv_sub hl [1, 2, 3, 4, 5, 6, 7, 8, 9, 10] rfl) hW hEF et_q35 et_q45 er_q45 hS
                                  · have hF := tc_if hF c391
                                    refine lv_iload hx hb dL_law_303 (lv_at hl 1 rfl) ?_
                                    refine lv_aload_n hx hb dL_law_305 rfl (lv_at hl 9 rfl) ?_
                                    refine lv_iload hx hb dL_law_306 (lv_at hl 2 rfl) ?_
                                    refine lv_iload hx hb dL_law_308 (lv_at hl 0 rfl) ?_
                                    obtain ⟨r392, h393, hF⟩ := tc_bi hF
                                    have h393 := tc_rdx h393
                                    refine tc_cx (vx_runV (As := [.int w337, .int w387]) (rest := [.int w388]) ⟨hx, hb, hml, hown, hts⟩ (mt_X2_crane l hst D cU cO cI e0 (tc_A1 A49 F390 z59) E389 x58 w337 w387 0 r392 h393) (cwV 2 hts gL_law_X2_crane rfl rfl rfl (by decide +kernel) ⟨Nat.le_of_ble_eq_true rfl, Nat.le_of_ble_eq_true rfl⟩) ⟨fun a U g mk q => ⟨q.1, q.2.1, q.2.2.call⟩, tc_rcv hW.1.o hK rfl, fun U hU hW9 => ⟨rfl, by rw [hU]; exact hW.1, ((hKX.go hS hU hW9).narrow (fun z9 h9 => hA38A _ (hA49A _ (h9.1))) (by rw [hU]; exact hW.newA (fun z9 h9 => by rw [eA49, eA38]; exact ⟨⟨hAn z9 (Nat.le_trans hS.1 h9), (fun h8 => absurd et_q35.lt (Nat.not_lt.mpr (by rw [← h8]; exact h9)))⟩, (fun h8 => absurd et_q45.lt (Nat.not_lt.mpr (by rw [← h8]; exact h9))), fun j hj h8 => absurd (er_q45 j hj).lt (Nat.not_lt.mpr (by rw [← h8]; exact h9))⟩)))⟩⟩ rfl rfl hl.1 rfl (lv_room (Nat.le_of_ble_eq_true rfl)) dL_law_310 ⟨(by show _ ≤ (600104 : Nat); omega), (by show _ ≤ (7301314 : Nat); omega)⟩) hS (fun z9 _ h9 => hA38A _ (hA49A _ (h9.1))) (fun z9 h9 => hA38A _ (hA49A _ (h9.1))) (fun z9 _ h9 => hA38A _ (hA49A _ (h9.1))) (fun ce q9 H locs c9 _ _ _ _ _ _ _ => absurd rfl c9) (fun H locs _ hB z1 o1 hS => ?_)
                                    have et_q35 := et_q35.kept (o1 _ et_q35.lt (fun h9 => hx_q35 h9.1))
                                    have et_q45 := et_q45.kept (o1 _ et_q45.lt (fun h9 => hx_q45 h9.1))
                                    have er_q45 := fun j hj => (er_q45 j hj).kept (o1 _ (er_q45 j hj).lt (fun h9 => hxr_q45 j hj h9.1))
                                    have hW := hW.afterC hB o1
                                    refine lv_aload hx hb dL_law_313 (lv_at hl 4 rfl) ?_
                                    refine lv_iload hx hb dL_law_315 (lv_at hl 2 rfl) ?_
                                    obtain ⟨g394, hF⟩ := tc_ob hF
                                    refine tc_aaldA2 (q := r46 w337.toNatClampNeg) (j := w337.toNatClampNeg) (rfl) hx hb hKS et_q45 0 rfl g394 dL_law_317 rfl ?_
                                    refine lv_iload hx hb dL_law_318 (lv_at hl 0 rfl) ?_
                                    obtain ⟨g395, hF⟩ := tc_ob hF
                                    refine tc_iald2 (j := w387.toNatClampNeg) (rfl) hx hb hK (er_q45 _ (show ¬ w337 < 0 ∧ w337.toNatClampNeg < r29.toNatClampNeg from g394).2) 2 rfl g395 dL_law_320 ?_
                                    obtain ⟨kc399, ekc399, hF⟩ := tc_jx hF
                                    have Jkc399 : ∀ (w396 : Int32) (E397 F398 : Nat → Nat) (H : Heap) (locs : List Loc) (ls : Array Slot), kc399 w396 = some 1 → lv_has ls 24 [(14, .int w387), (12, .int w337), (11, .int w338), (10, .ref q45), (6, .int r29), (4, .int v26), (3, .int w18), (2, .ref (F398 0)), (1, .ref (E397 0)), (0, .ref b)] → tc_WL D cU cO cI cII cZ e0 A49 E397 F398 x58 z59 H → E397 0 = E 0 ∧ F398 0 = F 0 → va_at D vwCl (q35, .inl (cZ, r27.toNatClampNeg, .inl u41)) H → va_at D vwCl (q45, .inl (cII, r29.toNatClampNeg, .inr (.inr (.inr (.inr (fun j => some (r46 j))))))) H → (∀ j, j < r29.toNatClampNeg → va_at D vwCl (r46 j, .inl (cI, 9, .inl (u52 j))) H) → va_S A s.heap H locs → W p l e room_1 s m #[Value.ref b] below meth c H locs ((((211) + (61 - (n_24 + 1)) * 1434 + 223) + (6 - (n_283 + 1)) * 36 + 0) + (10 - (n_296 + 1)) * 2 + 2) ((((5079) + (61 - (n_24 + 1)) * 8777 + 1511) + (6 - (n_283 + 1)) * 216 + 0) + (10 - (n_296 + 1)) * 12 + 12) QQ (F0 m 329 ls [.int w396, .int w388]) := by
                                      intro w396 E397 F398 H locs ls hF hl hW hEF et_q35 et_q45 er_q45 hS
                                      rw [ekc399] at hF
                                      dsimp only at hF
                                      refine lv_ior hx hb dL_law_329 ?_
                                      refine lv_topi (fun v400 ev400 => ?_)
                                      have hF := tc_lt hF ev400
                                      refine lv_istore (lv' := [(13, .int v400), (14, .int w387), (12, .int w337), (11, .int w338), (10, .ref q45), (6, .int r29), (4, .int v26), (3, .int w18), (2, .ref (F398 0)), (1, .ref (E397 0)), (0, .ref b)]) hx hb dL_law_330 hl (by decide) rfl (fun ls hl => ?_)
                                      obtain ⟨v401, ev401⟩ : ∃ z9 : Int32, z9 = w387 + 1 := ⟨_, rfl⟩
                                      have hF := tc_lt hF ev401
                                      refine lv_iinc (v := v401) (lv' := [(14, .int v401), (13, .int v400), (12, .int w337), (11, .int w338), (10, .ref q45), (6, .int r29), (4, .int v26), (3, .int w18), (2, .ref (F398 0)), (1, .ref (E397 0)), (0, .ref b)]) hx hb dL_law_332 hl (k := 1) rfl (by rw [ev401]; rfl) (by decide) rfl (fun ls hl => ?_)
                                      refine lv_goto (tgt := 296) hx hb dL_law_335 (by decide) ?_
                                      refine W.widen (k := (((211) + (61 - (n_24 + 1)) * 1434 + 223) + (6 - (n_283 + 1)) * 36 + 0) + (10 - n_296) * 2 + 0) (n := (((5079) + (61 - (n_24 + 1)) * 8777 + 1511) + (6 - (n_283 + 1)) * 216 + 0) + (10 - n_296) * 12 + 0) (by omega) (by omega) ?_
                                      exact ih_296 (Nat.le_of_succ_le hn_296) v401 v400 E397 F398 _ _ _ hF (lv_sub hl [0, 1, 2, 3, 4, 5, 6, 7, 8, 9, 10] rfl) hW hEF et_q35 et_q45 er_q45 hS
                                    refine lv_icmp_eq (tgt := 328) hx hb dL_law_321 (by decide) (fun c402 => ?_) (fun c402 => ?_)
                                    · have hF := tc_it hF c402
                                      refine lv_iconst (v := 0) hx hb dL_law_328 (by decide) ?_
                                      exact Jkc399 0 E389 F390 _ _ _ hF (lv_sub hl [0, 2, 3, 4, 5, 6, 7, 8, 9, 10] rfl) hW hEF et_q35 et_q45 er_q45 hS
                                    · have hF := tc_if hF c402
                                      refine lv_iconst (v := 1) hx hb dL_law_324 (by decide) ?_
                                      refine lv_goto (tgt := 329) hx hb dL_law_325 (by decide) ?_
                                      exact Jkc399 1 E389 F390 _ _ _ hF (lv_sub hl [0, 2, 3, 4, 5, 6, 7, 8, 9, 10] rfl) hW hEF et_q35 et_q45 er_q45 hS
                              refine W.widen (k := (((211) + (61 - (n_24 + 1)) * 1434 + 223) + (6 - (n_283 + 1)) * 36 + 0) + (10 - 10) * 2 + 0) (n := (((5079) + (61 - (n_24 + 1)) * 8777 + 1511) + (6 - (n_283 + 1)) * 216 + 0) + (10 - 10) * 12 + 0) (by omega) (by omega) ?_
                              exact hL_296 10 (Nat.le_refl _) 0 0 E339 F340 _ _ _ hF (lv_sub hl [0, 1, 2, 3, 4, 5, 6, 7, 8, 9, 10] rfl) hW hEF et_q35 et_q45 er_q45 hS
                        refine W.widen (k := ((211) + (61 - (n_24 + 1)) * 1434 + 223) + (6 - 6) * 36 + 0) (n := ((5079) + (61 - (n_24 + 1)) * 8777 + 1511) + (6 - 6) * 216 + 0) (by omega) (by omega) ?_
                        exact hL_283 6 (Nat.le_refl _) 0 0 E79 F80 _ _ _ hF (lv_sub hl [0, 1, 2, 3, 4, 5, 6, 7, 8] rfl) hW hEF et_q35 et_q45 er_q45 hS
                      have hL_243 : ∀ (n_243 : Nat) (hn_243 : n_243 ≤ 41) (w403 : Int32) (E404 F405 : Nat → Nat) (H : Heap) (locs : List Loc) (ls : Array Slot), lp_L_law_243 n_243 r27 u41 x58 kc81 w403 = some 1 → lv_has ls 24 [(11, .int w403), (10, .ref q45), (9, .ref q35), (6, .int r29), (5, .int r27), (4, .int v26), (3, .int w18), (2, .ref (F405 0)), (1, .ref (E404 0)), (0, .ref b)] → tc_WL D cU cO cI cII cZ e0 A49 E404 F405 x58 z59 H → E404 0 = E 0 ∧ F405 0 = F 0 → va_at D vwCl (q35, .inl (cZ, r27.toNatClampNeg, .inl u41)) H → va_at D vwCl (q45, .inl (cII, r29.toNatClampNeg, .inr (.inr (.inr (.inr (fun j => some (r46 j))))))) H → (∀ j, j < r29.toNatClampNeg → va_at D vwCl (r46 j, .inl (cI, 9, .inl (u52 j))) H) → va_S A s.heap H locs → W p l e room_1 s m #[Value.ref b] below meth c H locs (((211) + (61 - (n_24 + 1)) * 1434 + 182) + (41 - n_243) * 1 + 0) (((5079) + (61 - (n_24 + 1)) * 8777 + 1265) + (41 - n_243) * 6 + 0) QQ (F0 m 243 ls []) := by
                        intro n_243
                        induction n_243 with
                        | zero => intro _; intro w403 E404 F405 H locs ls hF hl hW hEF et_q35 et_q45 er_q45 hS; rw [lp_L_law_243] at hF; cases hF
                        | succ n_243 ih_243 =>
                          intro hn_243
                          intro w403 E404 F405 H locs ls hF hl hW hEF et_q35 et_q45 er_q45 hS
                          rw [lp_L_law_243] at hF
                          refine lv_iload hx hb dL_law_243 (lv_at hl 0 rfl) ?_
                          refine lv_iload hx hb dL_law_245 (lv_at hl 4 rfl) ?_
                          refine lv_icmp_ge (tgt := 277) hx hb dL_law_247 (by decide) (fun c406 => ?_) (fun c406 => ?_)
                          · have hF := tc_it hF c406
                            refine W.widen (k := (211) + (61 - (n_24 + 1)) * 1434 + 223) (n := (5079) + (61 - (n_24 + 1)) * 8777 + 1511) (by omega) (by omega) ?_
                            exact Jkc81  E404 F405 _ _ _ hF (lv_sub hl [1, 3, 5, 6, 7, 8, 9] rfl) hW hEF et_q35 et_q45 er_q45 hS
                          · have hF := tc_if hF c406
                            refine lv_aload hx hb dL_law_250 (lv_at hl 2 rfl) ?_
                            refine lv_iload hx hb dL_law_252 (lv_at hl 0 rfl) ?_
                            obtain ⟨g407, hF⟩ := tc_ob hF
                            refine tc_zald2 (j := w403.toNatClampNeg) (rfl) hx hb hKS et_q35 1 rfl g407 dL_law_254 ?_
                            obtain ⟨kc410, ekc410, hF⟩ := tc_jx hF
                            have Jkc410 : ∀  (E408 F409 : Nat → Nat) (H : Heap) (locs : List Loc) (ls : Array Slot), kc410  = some 1 → lv_has ls 24 [(11, .int w403), (10, .ref q45), (9, .ref q35), (6, .int r29), (5, .int r27), (4, .int v26), (3, .int w18), (2, .ref (F409 0)), (1, .ref (E408 0)), (0, .ref b)] → tc_WL D cU cO cI cII cZ e0 A49 E408 F409 x58 z59 H → E408 0 = E 0 ∧ F409 0 = F 0 → va_at D vwCl (q35, .inl (cZ, r27.toNatClampNeg, .inl u41)) H → va_at D vwCl (q45, .inl (cII, r29.toNatClampNeg, .inr (.inr (.inr (.inr (fun j => some (r46 j))))))) H → (∀ j, j < r29.toNatClampNeg → va_at D vwCl (r46 j, .inl (cI, 9, .inl (u52 j))) H) → va_S A s.heap H locs → W p l e room_1 s m #[Value.ref b] below meth c H locs (((211) + (61 - (n_24 + 1)) * 1434 + 182) + (41 - (n_243 + 1)) * 1 + 1) (((5079) + (61 - (n_24 + 1)) * 8777 + 1265) + (41 - (n_243 + 1)) * 6 + 6) QQ (F0 m 271 ls []) := by
                              intro  E408 F409 H locs ls hF hl hW hEF et_q35 et_q45 er_q45 hS
                              rw [ekc410] at hF
                              obtain ⟨v411, ev411⟩ : ∃ z9 : Int32, z9 = w403 + 1 := ⟨_, rfl⟩
                              have hF := tc_lt hF ev411
                              refine lv_iinc (v := v411) (lv' := [(11, .int v411), (10, .ref q45), (9, .ref q35), (6, .int r29), (5, .int r27), (4, .int v26), (3, .int w18), (2, .ref (F409 0)), (1, .ref (E408 0)), (0, .ref b)]) hx hb dL_law_271 hl (k := 0) rfl (by rw [ev411]; rfl) (by decide) rfl (fun ls hl => ?_)
                              refine lv_goto (tgt := 243) hx hb dL_law_274 (by decide) ?_
                              refine W.widen (k := ((211) + (61 - (n_24 + 1)) * 1434 + 182) + (41 - n_243) * 1 + 0) (n := ((5079) + (61 - (n_24 + 1)) * 8777 + 1265) + (41 - n_243) * 6 + 0) (by omega) (by omega) ?_
                              exact ih_243 (Nat.le_of_succ_le hn_243) v411 E408 F409 _ _ _ hF (lv_sub hl [0, 1, 2, 3, 4, 5, 6, 7, 8, 9] rfl) hW hEF et_q35 et_q45 er_q45 hS
                            refine lv_if_eq (tgt := 271) hx hb dL_law_255 (by decide) (fun c412 => ?_) (fun c412 => ?_)
                            · have hF := tc_it hF c412
                              refine W.widen (k := ((211) + (61 - (n_24 + 1)) * 1434 + 182) + (41 - (n_243 + 1)) * 1 + 1) (n := ((5079) + (61 - (n_24 + 1)) * 8777 + 1265) + (41 - (n_243 + 1)) * 6 + 6) (by omega) (by omega) ?_
                              exact Jkc410  E404 F405 _ _ _ hF (lv_sub hl [0, 1, 2, 3, 4, 5, 6, 7, 8, 9] rfl) hW hEF et_q35 et_q45 er_q45 hS
                            · have hF := tc_if hF c412
                              refine lv_aload_n hx hb dL_law_258 rfl (lv_at hl 8 rfl) ?_
                              refine lv_iload hx hb dL_law_259 (lv_at hl 0 rfl) ?_
                              refine lv_iconst (v := 4) hx hb dL_law_261 (by decide) ?_
                              obtain ⟨r413, h414, hF⟩ := tc_bi hF
                              have h414 := tc_rdx h414
                              refine tc_cx (vx_runV (As := [.int w403, .int 4]) (rest := []) ⟨hx, hb, hml, hown, hts⟩ (mt_X2_barrel l hst D cU cO cI e0 (tc_A1 A49 F405 z59) E404 x58 w403 4 0 r413 h414) (cwV 2 hts gL_law_X2_barrel rfl rfl rfl (by decide +kernel) ⟨Nat.le_of_ble_eq_true rfl, Nat.le_of_ble_eq_true rfl⟩) ⟨fun a U g mk q => ⟨q.1, q.2.1, q.2.2.call⟩, tc_rcv hW.1.o hK rfl, fun U hU hW9 => ⟨rfl, by rw [hU]; exact hW.1, ((hKX.go hS hU hW9).narrow (fun z9 h9 => hA38A _ (hA49A _ (h9.1))) (by rw [hU]; exact hW.newA (fun z9 h9 => by rw [eA49, eA38]; exact ⟨⟨hAn z9 (Nat.le_trans hS.1 h9), (fun h8 => absurd et_q35.lt (Nat.not_lt.mpr (by rw [← h8]; exact h9)))⟩, (fun h8 => absurd et_q45.lt (Nat.not_lt.mpr (by rw [← h8]; exact h9))), fun j hj h8 => absurd (er_q45 j hj).lt (Nat.not_lt.mpr (by rw [← h8]; exact h9))⟩)))⟩⟩ rfl rfl hl.1 rfl (lv_room (Nat.le_of_ble_eq_true rfl)) dL_law_262 ⟨(by show _ ≤ (600104 : Nat); omega), (by show _ ≤ (7301314 : Nat); omega)⟩) hS (fun z9 _ h9 => hA38A _ (hA49A _ (h9.1))) (fun z9 h9 => hA38A _ (hA49A _ (h9.1))) (fun z9 _ h9 => hA38A _ (hA49A _ (h9.1))) (fun ce q9 H locs c9 _ _ _ _ _ _ _ => absurd rfl c9) (fun H locs _ hB z1 o1 hS => ?_)
                              have et_q35 := et_q35.kept (o1 _ et_q35.lt (fun h9 => hx_q35 h9.1))
                              have et_q45 := et_q45.kept (o1 _ et_q45.lt (fun h9 => hx_q45 h9.1))
                              have er_q45 := fun j hj => (er_q45 j hj).kept (o1 _ (er_q45 j hj).lt (fun h9 => hxr_q45 j hj h9.1))
                              have hW := hW.afterC hB o1
                              refine lv_iconst (v := 1) hx hb dL_law_265 (by decide) ?_
                              refine lv_icmp_eq (tgt := 271) hx hb dL_law_266 (by decide) (fun c415 => ?_) (fun c415 => ?_)
                              · have hF := tc_it hF c415
                                exact Jkc410  E404 F405 _ _ _ hF (lv_sub hl [0, 1, 2, 3, 4, 5, 6, 7, 8, 9] rfl) hW hEF et_q35 et_q45 er_q45 hS
                              · have hF := tc_if hF c415
                                cases hF
                      refine W.widen (k := ((211) + (61 - (n_24 + 1)) * 1434 + 182) + (41 - 41) * 1 + 0) (n := ((5079) + (61 - (n_24 + 1)) * 8777 + 1265) + (41 - 41) * 6 + 0) (by omega) (by omega) ?_
                      exact hL_243 41 (Nat.le_refl _) 0 E61 F62 _ _ _ hF (lv_sub hl [0, 1, 2, 5, 6, 7, 8, 9, 10, 11] rfl) hW hEF et_q35 et_q45 er_q45 hS
                    · have hF := tc_if hF c77
                      cases hF
            · have hF := tc_it hF c65
              cases hF
          have hL_136 : ∀ (n_136 : Nat) (hn_136 : n_136 ≤ 6) (w416 : Int32) (u417 : Nat → Nat → Int32) (E418 F419 : Nat → Nat) (H : Heap) (locs : List Loc) (ls : Array Slot), lp_L_law_136 n_136 x19 r29 kc55 w416 u417 = some 1 → lv_has ls 24 [(11, .int w416), (10, .ref q45), (9, .ref q35), (8, .int r33), (7, .int r31), (6, .int r29), (5, .int r27), (4, .int v26), (3, .int w18), (2, .ref (F419 0)), (1, .ref (E418 0)), (0, .ref b)] → tc_WL D cU cO cI cII cZ e0 A49 E418 F419 x19 z20 H → E418 0 = E 0 ∧ F419 0 = F 0 → va_at D vwCl (q35, .inl (cZ, r27.toNatClampNeg, .inl u41)) H → va_at D vwCl (q45, .inl (cII, r29.toNatClampNeg, .inr (.inr (.inr (.inr (fun j => some (r46 j))))))) H → (∀ j, j < r29.toNatClampNeg → va_at D vwCl (r46 j, .inl (cI, 9, .inl (u417 j))) H) → va_S A s.heap H locs → W p l e room_1 s m #[Value.ref b] below meth c H locs (((211) + (61 - (n_24 + 1)) * 1434 + 52) + (6 - n_136) * 20 + 0) (((5079) + (61 - (n_24 + 1)) * 8777 + 360) + (6 - n_136) * 120 + 0) QQ (F0 m 136 ls []) := by
            intro n_136
            induction n_136 with
            | zero => intro _; intro w416 u417 E418 F419 H locs ls hF hl hW hEF et_q35 et_q45 er_q45 hS; rw [lp_L_law_136] at hF; cases hF
            | succ n_136 ih_136 =>
              intro hn_136
              intro w416 u417 E418 F419 H locs ls hF hl hW hEF et_q35 et_q45 er_q45 hS
              rw [lp_L_law_136] at hF
              refine lv_iload hx hb dL_law_136 (lv_at hl 0 rfl) ?_
              refine lv_iload hx hb dL_law_138 (lv_at hl 5 rfl) ?_
              refine lv_icmp_ge (tgt := 181) hx hb dL_law_140 (by decide) (fun c420 => ?_) (fun c420 => ?_)
              · have hF := tc_it hF c420
                refine W.widen (k := (211) + (61 - (n_24 + 1)) * 1434 + 172) (n := (5079) + (61 - (n_24 + 1)) * 8777 + 1080) (by omega) (by omega) ?_
                exact Jkc55 u417 E418 F419 _ _ _ hF (lv_sub hl [1, 2, 3, 4, 5, 6, 7, 8, 9, 10, 11] rfl) hW hEF et_q35 et_q45 er_q45 hS
              · have hF := tc_if hF c420
                refine lv_iconst (v := 0) hx hb dL_law_143 (by decide) ?_
                refine lv_istore (lv' := [(12, .int 0), (11, .int w416), (10, .ref q45), (9, .ref q35), (8, .int r33), (7, .int r31), (6, .int r29), (5, .int r27), (4, .int v26), (3, .int w18), (2, .ref (F419 0)), (1, .ref (E418 0)), (0, .ref b)]) hx hb dL_law_144 hl (by decide) rfl (fun ls hl => ?_)
                obtain ⟨kc426, ekc426, hF⟩ := tc_jx hF
                have Jkc426 : ∀ (u423 : Nat → Nat → Int32) (E424 F425 : Nat → Nat) (H : Heap) (locs : List Loc) (ls : Array Slot), kc426 u423 = some 1 → lv_has ls 24 [(11, .int w416), (10, .ref q45), (9, .ref q35), (8, .int r33), (7, .int r31), (6, .int r29), (5, .int r27), (4, .int v26), (3, .int w18), (2, .ref (F425 0)), (1, .ref (E424 0)), (0, .ref b)] → tc_WL D cU cO cI cII cZ e0 A49 E424 F425 x19 z20 H → E424 0 = E 0 ∧ F425 0 = F 0 → va_at D vwCl (q35, .inl (cZ, r27.toNatClampNeg, .inl u41)) H → va_at D vwCl (q45, .inl (cII, r29.toNatClampNeg, .inr (.inr (.inr (.inr (fun j => some (r46 j))))))) H → (∀ j, j < r29.toNatClampNeg → va_at D vwCl (r46 j, .inl (cI, 9, .inl (u423 j))) H) → va_S A s.heap H locs → W p l e room_1 s m #[Value.ref b] below meth c H locs (((211) + (61 - (n_24 + 1)) * 1434 + 52) + (6 - (n_136 + 1)) * 20 + 20) (((5079) + (61 - (n_24 + 1)) * 8777 + 360) + (6 - (n_136 + 1)) * 120 + 120) QQ (F0 m 175 ls []) := by
                  intro u423 E424 F425 H locs ls hF hl hW hEF et_q35 et_q45 er_q45 hS
                  rw [ekc426] at hF
                  dsimp only at hF
                  obtain ⟨v427, ev427⟩ : ∃ z9 : Int32, z9 = w416 + 1 := ⟨_, rfl⟩
                  have hF := tc_lt hF ev427
                  refine lv_iinc (v := v427) (lv' := [(11, .int v427), (10, .ref q45), (9, .ref q35), (8, .int r33), (7, .int r31), (6, .int r29), (5, .int r27), (4, .int v26), (3, .int w18), (2, .ref (F425 0)), (1, .ref (E424 0)), (0, .ref b)]) hx hb dL_law_175 hl (k := 0) rfl (by rw [ev427]; rfl) (by decide) rfl (fun ls hl => ?_)
                  refine lv_goto (tgt := 136) hx hb dL_law_178 (by decide) ?_
                  refine W.widen (k := ((211) + (61 - (n_24 + 1)) * 1434 + 52) + (6 - n_136) * 20 + 0) (n := ((5079) + (61 - (n_24 + 1)) * 8777 + 360) + (6 - n_136) * 120 + 0) (by omega) (by omega) ?_
                  exact ih_136 (Nat.le_of_succ_le hn_136) v427 u423 E424 F425 _ _ _ hF (lv_sub hl [0, 1, 2, 3, 4, 5, 6, 7, 8, 9, 10, 11] rfl) hW hEF et_q35 et_q45 er_q45 hS
                have hL_146 : ∀ (n_146 : Nat) (hn_146 : n_146 ≤ 10) (w428 : Int32) (u429 : Nat → Nat → Int32) (E430 F431 : Nat → Nat) (H : Heap) (locs : List Loc) (ls : Array Slot), lp_L_law_146 n_146 x19 r29 w416 kc426 w428 u429 = some 1 → lv_has ls 24 [(12, .int w428), (11, .int w416), (10, .ref q45), (9, .ref q35), (8, .int r33), (7, .int r31), (6, .int r29), (5, .int r27), (4, .int v26), (3, .int w18), (2, .ref (F431 0)), (1, .ref (E430 0)), (0, .ref b)] → tc_WL D cU cO cI cII cZ e0 A49 E430 F431 x19 z20 H → E430 0 = E 0 ∧ F431 0 = F 0 → va_at D vwCl (q35, .inl (cZ, r27.toNatClampNeg, .inl u41)) H → va_at D vwCl (q45, .inl (cII, r29.toNatClampNeg, .inr (.inr (.inr (.inr (fun j => some (r46 j))))))) H → (∀ j, j < r29.toNatClampNeg → va_at D vwCl (r46 j, .inl (cI, 9, .inl (u429 j))) H) → va_S A s.heap H locs → W p l e room_1 s m #[Value.ref b] below meth c H locs ((((211) + (61 - (n_24 + 1)) * 1434 + 52) + (6 - (n_136 + 1)) * 20 + 0) + (10 - n_146) * 2 + 0) ((((5079) + (61 - (n_24 + 1)) * 8777 + 360) + (6 - (n_136 + 1)) * 120 + 0) + (10 - n_146) * 12 + 0) QQ (F0 m 146 ls []) := by
                  intro n_146
                  induction n_146 with
                  | zero => intro _; intro w428 u429 E430 F431 H locs ls hF hl hW hEF et_q35 et_q45 er_q45 hS; rw [lp_L_law_146] at hF; cases hF
                  | succ n_146 ih_146 =>
                    intro hn_146
                    intro w428 u429 E430 F431 H locs ls hF hl hW hEF et_q35 et_q45 er_q45 hS
                    rw [lp_L_law_146] at hF
                    refine lv_iload hx hb dL_law_146 (lv_at hl 0 rfl) ?_
                    refine lv_bipush (v := 9) hx hb dL_law_148 (by decide) ?_
                    refine lv_icmp_ge (tgt := 175) hx hb dL_law_150 (by decide) (fun c432 => ?_) (fun c432 => ?_)
                    · have hF := tc_it hF c432
                      refine W.widen (k := ((211) + (61 - (n_24 + 1)) * 1434 + 52) + (6 - (n_136 + 1)) * 20 + 20) (n := ((5079) + (61 - (n_24 + 1)) * 8777 + 360) + (6 - (n_136 + 1)) * 120 + 120) (by omega) (by omega) ?_
                      exact Jkc426 u429 E430 F431 _ _ _ hF (lv_sub hl [1, 2, 3, 4, 5, 6, 7, 8, 9, 10, 11, 12] rfl) hW hEF et_q35 et_q45 er_q45 hS
                    · have hF := tc_if hF c432
                      refine lv_aload hx hb dL_law_153 (lv_at hl 2 rfl) ?_
                      refine lv_iload hx hb dL_law_155 (lv_at hl 1 rfl) ?_
                      obtain ⟨g433, hF⟩ := tc_ob hF
                      refine tc_aaldA2 (q := r46 w416.toNatClampNeg) (j := w416.toNatClampNeg) (rfl) hx hb hKS et_q45 0 rfl g433 dL_law_157 rfl ?_
                      refine lv_iload hx hb dL_law_158 (lv_at hl 0 rfl) ?_
                      refine lv_aload_n hx hb dL_law_160 rfl (lv_at hl 11 rfl) ?_
                      refine lv_iload hx hb dL_law_161 (lv_at hl 1 rfl) ?_
                      refine lv_iload hx hb dL_law_163 (lv_at hl 0 rfl) ?_
                      obtain ⟨r434, h435, hF⟩ := tc_bi hF
                      have h435 := tc_rdx h435
                      refine tc_cx (vx_runV (As := [.int w416, .int w428]) (rest := [.int w428, .ref (r46 w416.toNatClampNeg)]) ⟨hx, hb, hml, hown, hts⟩ (mt_X2_crane l hst D cU cO cI e0 (tc_A1 A49 F431 z20) E430 x19 w416 w428 0 r434 h435) (cwV 2 hts gL_law_X2_crane rfl rfl rfl (by decide +kernel) ⟨Nat.le_of_ble_eq_true rfl, Nat.le_of_ble_eq_true rfl⟩) ⟨fun a U g mk q => ⟨q.1, q.2.1, q.2.2.call⟩, tc_rcv hW.1.o hK rfl, fun U hU hW9 => ⟨rfl, by rw [hU]; exact hW.1, ((hKX.go hS hU hW9).narrow (fun z9 h9 => hA38A _ (hA49A _ (h9.1))) (by rw [hU]; exact hW.newA (fun z9 h9 => by rw [eA49, eA38]; exact ⟨⟨hAn z9 (Nat.le_trans hS.1 h9), (fun h8 => absurd et_q35.lt (Nat.not_lt.mpr (by rw [← h8]; exact h9)))⟩, (fun h8 => absurd et_q45.lt (Nat.not_lt.mpr (by rw [← h8]; exact h9))), fun j hj h8 => absurd (er_q45 j hj).lt (Nat.not_lt.mpr (by rw [← h8]; exact h9))⟩)))⟩⟩ rfl rfl hl.1 rfl (lv_room (Nat.le_of_ble_eq_true rfl)) dL_law_165 ⟨(by show _ ≤ (600104 : Nat); omega), (by show _ ≤ (7301314 : Nat); omega)⟩) hS (fun z9 _ h9 => hA38A _ (hA49A _ (h9.1))) (fun z9 h9 => hA38A _ (hA49A _ (h9.1))) (fun z9 _ h9 => hA38A _ (hA49A _ (h9.1))) (fun ce q9 H locs c9 _ _ _ _ _ _ _ => absurd rfl c9) (fun H locs _ hB z1 o1 hS => ?_)
                      have et_q35 := et_q35.kept (o1 _ et_q35.lt (fun h9 => hx_q35 h9.1))
                      have et_q45 := et_q45.kept (o1 _ et_q45.lt (fun h9 => hx_q45 h9.1))
                      have er_q45 := fun j hj => (er_q45 j hj).kept (o1 _ (er_q45 j hj).lt (fun h9 => hxr_q45 j hj h9.1))
                      have hW := hW.afterC hB o1
                      obtain ⟨g436, hF⟩ := tc_ob hF
                      refine tc_iast2 (j := w428.toNatClampNeg) (rfl) hx hb hK (er_q45 _ (show ¬ w416 < 0 ∧ w416.toNatClampNeg < r29.toNatClampNeg from g433).2) hS (hor_q45 _) 2 rfl g436 dL_law_168 (fun H locs e1 z1 o1 hS => ?_)
                      have hW := hW.tmp (hxr_q45 _ (show ¬ w416 < 0 ∧ w416.toNatClampNeg < r29.toNatClampNeg from g433).2) o1
                      have et_q35 := et_q35.kept (o1 _ (fun h9 => hnr_q45_q35 _ (show ¬ w416 < 0 ∧ w416.toNatClampNeg < r29.toNatClampNeg from g433).2 h9.symm))
                      have et_q45 := et_q45.kept (o1 _ (fun h9 => hrq_q45 _ h9.symm))
                      obtain ⟨u437, eu437⟩ : ∃ z9 : Nat → Nat → Int32, z9 = va_up u429 w416.toNatClampNeg (upd (u429 w416.toNatClampNeg) w428.toNatClampNeg r434) := ⟨_, rfl⟩
                      have hF := tc_lt hF eu437
                      have er_q45 := tc_rowset (r := r46) hri_q45 er_q45 e1 o1
                      rw [← eu437] at er_q45
                      obtain ⟨v438, ev438⟩ : ∃ z9 : Int32, z9 = w428 + 1 := ⟨_, rfl⟩
                      have hF := tc_lt hF ev438
                      refine lv_iinc (v := v438) (lv' := [(12, .int v438), (11, .int w416), (10, .ref q45), (9, .ref q35), (8, .int r33), (7, .int r31), (6, .int r29), (5, .int r27), (4, .int v26), (3, .int w18), (2, .ref (F431 0)), (1, .ref (E430 0)), (0, .ref b)]) hx hb dL_law_169 hl (k := 0) rfl (by rw [ev438]; rfl) (by decide) rfl (fun ls hl => ?_)
                      refine lv_goto (tgt := 146) hx hb dL_law_172 (by decide) ?_
                      refine W.widen (k := (((211) + (61 - (n_24 + 1)) * 1434 + 52) + (6 - (n_136 + 1)) * 20 + 0) + (10 - n_146) * 2 + 0) (n := (((5079) + (61 - (n_24 + 1)) * 8777 + 360) + (6 - (n_136 + 1)) * 120 + 0) + (10 - n_146) * 12 + 0) (by omega) (by omega) ?_
                      exact ih_146 (Nat.le_of_succ_le hn_146) v438 u437 E430 F431 _ _ _ hF (lv_sub hl [0, 1, 2, 3, 4, 5, 6, 7, 8, 9, 10, 11, 12] rfl) hW hEF et_q35 et_q45 er_q45 hS
                refine W.widen (k := (((211) + (61 - (n_24 + 1)) * 1434 + 52) + (6 - (n_136 + 1)) * 20 + 0) + (10 - 10) * 2 + 0) (n := (((5079) + (61 - (n_24 + 1)) * 8777 + 360) + (6 - (n_136 + 1)) * 120 + 0) + (10 - 10) * 12 + 0) (by omega) (by omega) ?_
                exact hL_146 10 (Nat.le_refl _) 0 u417 E418 F419 _ _ _ hF (lv_sub hl [0, 1, 2, 3, 4, 5, 6, 7, 8, 9, 10, 11, 12] rfl) hW hEF et_q35 et_q45 er_q45 hS
          refine W.widen (k := ((211) + (61 - (n_24 + 1)) * 1434 + 52) + (6 - 6) * 20 + 0) (n := ((5079) + (61 - (n_24 + 1)) * 8777 + 360) + (6 - 6) * 120 + 0) (by omega) (by omega) ?_
          exact hL_136 6 (Nat.le_refl _) 0 u48 E42 F43 _ _ _ hF (lv_sub hl [0, 1, 2, 3, 4, 5, 6, 7, 8, 9, 10, 11] rfl) hW hEF et_q35 et_q45 er_q45 hS
        have hL_89 : ∀ (n_89 : Nat) (hn_89 : n_89 ≤ 41) (w439 : Int32) (u440 : Nat → Int32) (E441 F442 : Nat → Nat) (H : Heap) (locs : List Loc) (ls : Array Slot), lp_L_law_89 n_89 x19 r27 kc44 w439 u440 = some 1 → lv_has ls 24 [(10, .int w439), (9, .ref q35), (8, .int r33), (7, .int r31), (6, .int r29), (5, .int r27), (4, .int v26), (3, .int w18), (2, .ref (F442 0)), (1, .ref (E441 0)), (0, .ref b)] → tc_WL D cU cO cI cII cZ e0 A38 E441 F442 x19 z20 H → E441 0 = E 0 ∧ F442 0 = F 0 → va_at D vwCl (q35, .inl (cZ, r27.toNatClampNeg, .inl u440)) H → va_S A s.heap H locs → W p l e room_1 s m #[Value.ref b] below meth c H locs (((211) + (61 - (n_24 + 1)) * 1434 + 5) + (41 - n_89) * 1 + 0) (((5079) + (61 - (n_24 + 1)) * 8777 + 64) + (41 - n_89) * 6 + 0) QQ (F0 m 89 ls []) := by
          intro n_89
          induction n_89 with
          | zero => intro _; intro w439 u440 E441 F442 H locs ls hF hl hW hEF et_q35 hS; rw [lp_L_law_89] at hF; cases hF
          | succ n_89 ih_89 =>
            intro hn_89
            intro w439 u440 E441 F442 H locs ls hF hl hW hEF et_q35 hS
            rw [lp_L_law_89] at hF
            refine lv_iload hx hb dL_law_89 (lv_at hl 0 rfl) ?_
            refine lv_iload hx hb dL_law_91 (lv_at hl 5 rfl) ?_
            refine lv_icmp_ge (tgt := 123) hx hb dL_law_93 (by decide) (fun c443 => ?_) (fun c443 => ?_)
            · have hF := tc_it hF c443
              refine W.widen (k := (211) + (61 - (n_24 + 1)) * 1434 + 46) (n := (5079) + (61 - (n_24 + 1)) * 8777 + 310) (by omega) (by omega) ?_
              exact Jkc44 u440 E441 F442 _ _ _ hF (lv_sub hl [1, 2, 3, 4, 5, 6, 7, 8, 9, 10] rfl) hW hEF et_q35 hS
            · have hF := tc_if hF c443
              refine lv_aload hx hb dL_law_96 (lv_at hl 1 rfl) ?_
              refine lv_iload hx hb dL_law_98 (lv_at hl 0 rfl) ?_
              refine lv_aload_n hx hb dL_law_100 rfl (lv_at hl 9 rfl) ?_
              refine lv_iload hx hb dL_law_101 (lv_at hl 0 rfl) ?_
              refine lv_iconst (v := 4) hx hb dL_law_103 (by decide) ?_
              obtain ⟨r444, h445, hF⟩ := tc_bi hF
              have h445 := tc_rdx h445
              refine tc_cx (vx_runV (As := [.int w439, .int 4]) (rest := [.int w439, .ref q35]) ⟨hx, hb, hml, hown, hts⟩ (mt_X2_barrel l hst D cU cO cI e0 (tc_A1 A38 F442 z20) E441 x19 w439 4 0 r444 h445) (cwV 2 hts gL_law_X2_barrel rfl rfl rfl (by decide +kernel) ⟨Nat.le_of_ble_eq_true rfl, Nat.le_of_ble_eq_true rfl⟩) ⟨fun a U g mk q => ⟨q.1, q.2.1, q.2.2.call⟩, tc_rcv hW.1.o hK rfl, fun U hU hW9 => ⟨rfl, by rw [hU]; exact hW.1, ((hKX.go hS hU hW9).narrow (fun z9 h9 => hA38A _ (h9.1)) (by rw [hU]; exact hW.newA (fun z9 h9 => by rw [eA38]; exact ⟨hAn z9 (Nat.le_trans hS.1 h9), (fun h8 => absurd et_q35.lt (Nat.not_lt.mpr (by rw [← h8]; exact h9)))⟩)))⟩⟩ rfl rfl hl.1 rfl (lv_room (Nat.le_of_ble_eq_true rfl)) dL_law_104 ⟨(by show _ ≤ (600104 : Nat); omega), (by show _ ≤ (7301314 : Nat); omega)⟩) hS (fun z9 _ h9 => hA38A _ (h9.1)) (fun z9 h9 => hA38A _ (h9.1)) (fun z9 _ h9 => hA38A _ (h9.1)) (fun ce q9 H locs c9 _ _ _ _ _ _ _ => absurd rfl c9) (fun H locs _ hB z1 o1 hS => ?_)
              have et_q35 := et_q35.kept (o1 _ et_q35.lt (fun h9 => hx_q35 h9.1))
              have hW := hW.afterC hB o1
              refine lv_iconst (v := 1) hx hb dL_law_107 (by decide) ?_
              obtain ⟨kc449, ekc449, hF⟩ := tc_jx hF
              have Jkc449 : ∀ (w446 : Int32) (E447 F448 : Nat → Nat) (H : Heap) (locs : List Loc) (ls : Array Slot), kc449 w446 = some 1 → lv_has ls 24 [(10, .int w439), (9, .ref q35), (8, .int r33), (7, .int r31), (6, .int r29), (5, .int r27), (4, .int v26), (3, .int w18), (2, .ref (F448 0)), (1, .ref (E447 0)), (0, .ref b)] → tc_WL D cU cO cI cII cZ e0 A38 E447 F448 x19 z20 H → E447 0 = E 0 ∧ F448 0 = F 0 → va_at D vwCl (q35, .inl (cZ, r27.toNatClampNeg, .inl u440)) H → va_S A s.heap H locs → W p l e room_1 s m #[Value.ref b] below meth c H locs (((211) + (61 - (n_24 + 1)) * 1434 + 5) + (41 - (n_89 + 1)) * 1 + 1) (((5079) + (61 - (n_24 + 1)) * 8777 + 64) + (41 - (n_89 + 1)) * 6 + 6) QQ (F0 m 116 ls [.int w446, .int w439, .ref q35]) := by
                intro w446 E447 F448 H locs ls hF hl hW hEF et_q35 hS
                rw [ekc449] at hF
                dsimp only at hF
                obtain ⟨g450, hF⟩ := tc_ob hF
                obtain ⟨g451, hF⟩ := tc_ob hF
                refine tc_zast2 (j := w439.toNatClampNeg) (rfl) hx hb hKS et_q35 hS ho_q35 1 rfl g451 g450 dL_law_116 (fun H locs e1 z1 o1 hS => ?_)
                have hW := hW.tmp hx_q35 o1
                have et_q35 := e1
                obtain ⟨u452, eu452⟩ : ∃ z9 : Nat → Int32, z9 = upd u440 w439.toNatClampNeg w446 := ⟨_, rfl⟩
                have hF := tc_lt hF eu452
                rw [← eu452] at et_q35
                obtain ⟨v453, ev453⟩ : ∃ z9 : Int32, z9 = w439 + 1 := ⟨_, rfl⟩
                have hF := tc_lt hF ev453
                refine lv_iinc (v := v453) (lv' := [(10, .int v453), (9, .ref q35), (8, .int r33), (7, .int r31), (6, .int r29), (5, .int r27), (4, .int v26), (3, .int w18), (2, .ref (F448 0)), (1, .ref (E447 0)), (0, .ref b)]) hx hb dL_law_117 hl (k := 0) rfl (by rw [ev453]; rfl) (by decide) rfl (fun ls hl => ?_)
                refine lv_goto (tgt := 89) hx hb dL_law_120 (by decide) ?_
                refine W.widen (k := ((211) + (61 - (n_24 + 1)) * 1434 + 5) + (41 - n_89) * 1 + 0) (n := ((5079) + (61 - (n_24 + 1)) * 8777 + 64) + (41 - n_89) * 6 + 0) (by omega) (by omega) ?_
                exact ih_89 (Nat.le_of_succ_le hn_89) v453 u452 E447 F448 _ _ _ hF (lv_sub hl [0, 1, 2, 3, 4, 5, 6, 7, 8, 9, 10] rfl) hW hEF et_q35 hS
              refine lv_icmp_ne (tgt := 115) hx hb dL_law_108 (by decide) (fun c454 => ?_) (fun c454 => ?_)
              · have hF := tc_if hF c454
                refine lv_iconst (v := 0) hx hb dL_law_115 (by decide) ?_
                exact Jkc449 0 E441 F442 _ _ _ hF (lv_sub hl [0, 1, 2, 3, 4, 5, 6, 7, 8, 9, 10] rfl) hW hEF et_q35 hS
              · have hF := tc_it hF c454
                refine lv_iconst (v := 1) hx hb dL_law_111 (by decide) ?_
                refine lv_goto (tgt := 116) hx hb dL_law_112 (by decide) ?_
                exact Jkc449 1 E441 F442 _ _ _ hF (lv_sub hl [0, 1, 2, 3, 4, 5, 6, 7, 8, 9, 10] rfl) hW hEF et_q35 hS
        refine W.widen (k := ((211) + (61 - (n_24 + 1)) * 1434 + 5) + (41 - 41) * 1 + 0) (n := ((5079) + (61 - (n_24 + 1)) * 8777 + 64) + (41 - 41) * 6 + 0) (by omega) (by omega) ?_
        exact hL_89 41 (Nat.le_refl _) 0 u37 E21 F22 _ _ _ hF (lv_sub hl [0, 1, 2, 3, 4, 5, 6, 7, 8, 9, 10] rfl) hW hEF et_q35 hS
  refine W.widen (k := (211) + (61 - 61) * 1434 + 0) (n := (5079) + (61 - 61) * 8777 + 0) (by omega) (by omega) ?_
  exact hL_24 61 (Nat.le_refl _) 0 x1 z1 E F _ _ _ hF (lv_sub hl [0, 1, 2, 3] rfl) hW hEF hS
