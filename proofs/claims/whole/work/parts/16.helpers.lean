/-! The law's helpers: a call with its handlers (written by wip/whole/hand3.py). -/
def tc_c3 (k : Nat) : Int32 := if k = 0 then 0 else if k = 1 then 1 else if k = 2 then 2 else 3
def tc_c13 (k : Nat) : Int32 := if k = 0 then 0 else if k = 1 then 1 else 2
/-- what the law's handlers ask of the tables -/
def tc_KL (D : va_G) (cJ : ClassId) (U : State) : Prop := va_K D vwCl [(cJ, .long)] U ∧ va_Nc "java/lang/IllegalArgumentException" "java/lang/IndexOutOfBoundsException" U ∧ va_Nc "java/lang/IllegalStateException" "java/lang/IndexOutOfBoundsException" U ∧ va_Nc "java/lang/IllegalStateException" "java/lang/IllegalArgumentException" U
theorem tc_KL.moved {D : va_G} {cJ : ClassId} {u U : State} (h : tc_KL D cJ u) (al : u.vm.Alike U.vm) : tc_KL D cJ U := ⟨va_K.moved al h.1, va_Nc.moved al h.2.1, va_Nc.moved al h.2.2.1, va_Nc.moved al h.2.2.2⟩
theorem tc_last {p : Program} {l : Launch} {e : Env} {R : Room} {s : State} {m : MethodId} {args : Array Value} {below : List Frame} {meth : Method} {c : Code} {H : Heap} {locs : List Loc} {cells slots : Nat} {Q : State → Prop} {cc : ByteArray} {pc : Nat} {ls : Array Slot} {rest : List Value} {D : va_G} {cl : List vw_C} {tys : List (ClassId × FieldType)} {A : Nat → Prop} {H0 : Heap} {a : Nat} (hexec : p.tables.exec = Jvm.exec) (hb : c.code = cc) (hK : va_K D cl tys s) {cA : ClassId} {n : Nat} {f : Nat → Int64} (he : va_at D cl (a, .inl (cA, n, .inr (.inl f))) H) (hS : va_S A H0 H locs) (ha : A a) (t0 : Nat) (ht : tys[t0]? = some (cA, .long)) {i : Int32} {x : Int64} (hin : ¬ i < 0 ∧ i.toNatClampNeg < n) (hdg : decode cc pc = .ok (.lastore, 1))
    (kk : ∀ (H1 : Heap) (locs1 : List Loc), va_at D cl (a, .inl (cA, n, .inr (.inl (vp_updL f i.toNatClampNeg x)))) H1 → H1.size = H.size → (∀ q, q ≠ a → H1[q]? = H[q]?) → va_S A H0 H1 locs1 → W p l e R s m args below meth c H1 locs1 cells slots Q (F0 m (pc + 1) ls rest)) : W p l e R s m args below meth c H locs cells slots Q (F0 m pc ls (.long x :: .int i :: .ref a :: rest)) := by
  refine W.last hexec hb he ((hK.2 t0 _ ht).1 n (fun j => .long (f j))) (fun q => by cases q) (by show ¬ (i < 0 ∨ (arrV _ _ _).slots.size ≤ _); rw [arrV_size]; exact tc_ix_in hin) rfl rfl hdg fun H1 e z oq => ?_
  refine kk H1 _ ?_ z oq (hS.put z oq ha)
  show H1[a]? = some (vp_cell _ _)
  rw [e]
  rw [vp_cell_l, vp_cell_l, arrV_store]
  congr 2
  funext q
  by_cases hq : q = i.toNatClampNeg
  · subst hq
    simp [updV, vp_updL]
  · simp [updV, vp_updL, hq]
set_option maxHeartbeats 4000000 in
set_option maxRecDepth 100000 in
theorem mt_L_land (l : Launch) (hst : l.stackTraces = false) (D : va_G) (cU cO cI cJ : ClassId) (e0 : Nat) (A : Nat → Prop) (E : Nat → Nat) (x : tc_X) (o : Nat) (fj : Nat → Int64) (a1 a2 : Int32) (k : Nat) (r : Int32) (z : tc_X) (ho : ¬ A o) (hwf : tc_wf x) (hk : k ≤ 3) (hzx : k ≠ 0 → z = x) (hF : f_X2_land x a1 a2 = some (k, r, z)) : Met l yL_land wsL_land ({ frames := 8, cells := 4, slots := 79, locals := 180 } : Room) (va_Pc [.ref (E 0), .int a1, .int a2, .ref o] (fun U => tc_WC D cU cO e0 A E x U.heap ∧ tc_KX D cU cO cI e0 A U ∧ tc_KL D cJ U ∧ va_at D vwCl (o, .inl (cJ, 1, .inr (.inl fj))) U.heap)) (tc_Qw (some (.int (tc_c3 k))) (fun H9 => (∃ E9 : Nat → Nat, E9 0 = E 0 ∧ tc_WC D cU cO e0 A E9 z H9) ∧ ∃ fj9 : Nat → Int64, va_at D vwCl (o, .inl (cJ, 1, .inr (.inl fj9))) H9 ∧ (k = 0 → fj9 0 = r.toInt64)) (fun z9 => A z9 ∨ z9 = o)) 4 79 (fun z9 => A z9 ∨ z9 = o) := by
  refine va_MetW (cc := cL_land) (maxL := 5) (ret := (some .int)) (by decide) rfl ?_
  intro p e s m args below meth c s₁ B hml hv
  obtain ⟨rfl, hW, hKX, hKL, hO⟩ := hv
  have hx := B.exec
  have hb := B.bytes
  have hr := B.returns
  have hts := atoms_spec (ws := wsL_land) B.pre
  have hown : s.vm.findClass RL = some m.cls := findClass_of_methodNamed B.named
  have hlocks := B.notSynchronized
  have htab := vx_table (x := yL_land) B (hts _ List.mem_cons_self)
  have hK := hKX.1.1
  have hS0 : va_S A s.heap s.heap [] := va_S.rf
  have hS : va_S (fun z9 => A z9 ∨ z9 = o) s.heap s.heap [] := va_S.rf
  have hl := lv_entry ([.ref (E 0), .int a1, .int a2, .ref o]) (n := 5) (Nat.le_of_ble_eq_true rfl)
  rw [lg_entry_eq]
  generalize (lg_sl ([.ref (E 0), .int a1, .int a2, .ref o]) ++ List.replicate (5 - (lg_sl ([.ref (E 0), .int a1, .int a2, .ref o])).length) Slot.unset).toArray = ls at hl ⊢
  have hl : lv_has ls 5 [(0, .ref (E 0)), (1, .int a1), (2, .int a2), (3, .ref o)] := hl
  refine lv_aload_n hx hb dL_land_0 rfl (lv_at hl 3 rfl) ?_
  refine lv_iconst (v := 0) hx hb dL_land_1 (by decide) ?_
  refine lv_aload_n hx hb dL_land_2 rfl (lv_at hl 0 rfl) ?_
  refine lv_iload_n hx hb dL_land_3 rfl (lv_at hl 1 rfl) ?_
  refine lv_iload_n hx hb dL_land_4 rfl (lv_at hl 2 rfl) ?_
  refine tc_cx (vx_runV (As := [.int a1, .int a2]) (rest := [.int 0, .ref o]) ⟨hx, hb, hml, hown, hts⟩ (mt_X2_land l hst D cU cO cI e0 A E x a1 a2 k r z hwf hF) (cwV 2 hts gL_land_X2_land rfl rfl rfl (by decide +kernel) ⟨Nat.le_of_ble_eq_true rfl, Nat.le_of_ble_eq_true rfl⟩) ⟨fun a U g mk q => ⟨q.1, q.2.1, q.2.2.call⟩, tc_rcv hW.o hK rfl, fun U hU hW9 => ⟨rfl, by rw [hU]; exact hW, hKX.go hS0 hU hW9⟩⟩ rfl rfl hl.1 rfl (lv_room (Nat.le_of_ble_eq_true rfl)) dL_land_5 ⟨Nat.le_of_ble_eq_true rfl, Nat.le_of_ble_eq_true rfl⟩) hS (fun _ _ h => Or.inl h) (fun _ h => Or.inl h) (fun _ _ h => Or.inl h) (fun ce q9 H locs c3 hW z1 o1 hS hce hcv hcl => ?_) (fun H locs c3 hW z1 o1 hS => ?_)
  · have hO := hO.kept (o1 o hO.lt ho)
    have hW : tc_WC D cU cO e0 A E z H := by rw [hzx c3]; exact hW
    rcases (show k = 1 ∨ k = 2 ∨ k = 3 by omega) with rfl | rfl | rfl
    · refine vx_catch (own := RL) (name := "java/lang/IndexOutOfBoundsException") (E := "java/lang/IndexOutOfBoundsException") hown [] ⟨0, 10, 13, 13⟩ [⟨0, 10, 17, 15⟩, ⟨0, 10, 21, 17⟩] htab (fun z9 h9 => absurd h9 List.not_mem_nil) (by decide) (by decide) (hts (.classLink RL 13 "java/lang/IndexOutOfBoundsException") (List.mem_of_getElem? (i := 1) rfl)) (va_Nw.use rfl hKX.2.2.2.2.2.2.2.1) hce hcv hcl ?_
      refine lv_astore (lv' := [(4, .ref q9), (0, .ref (E 0)), (1, .int a1), (2, .int a2), (3, .ref o)]) hx hb dL_land_13 hl (by decide) rfl (fun ls hl => ?_)
      refine lv_iconst (v := 1) hx hb dL_land_15 (by decide) ?_
      refine W.widen (k := 4) (n := 79) (Nat.le_of_ble_eq_true rfl) (Nat.le_of_ble_eq_true rfl) ?_
      exact W.iret hx hb hr (fun t ht hW9 => ⟨⟨rfl, by rw [ht]; exact ⟨⟨E, rfl, hW⟩, fj, hO, fun h9 => absurd h9 c3⟩⟩, tc_F hS ht⟩) hS.2.2 dL_land_16
    · refine vx_catch (own := RL) (name := "java/lang/IllegalArgumentException") (E := "java/lang/IllegalArgumentException") hown [⟨0, 10, 13, 13⟩] ⟨0, 10, 17, 15⟩ [⟨0, 10, 21, 17⟩] htab (fun z9 h9 => by rw [List.mem_singleton.mp h9]; exact Or.inr ⟨by decide, "java/lang/IndexOutOfBoundsException", (hts (.classLink RL 13 "java/lang/IndexOutOfBoundsException") (List.mem_of_getElem? (i := 1) rfl)), hKL.2.1⟩) (by decide) (by decide) (hts (.classLink RL 15 "java/lang/IllegalArgumentException") (List.mem_of_getElem? (i := 2) rfl)) (va_Nw.use rfl hKX.2.2.2.2.2.2.2.2.1) hce hcv hcl ?_
      refine lv_astore (lv' := [(4, .ref q9), (0, .ref (E 0)), (1, .int a1), (2, .int a2), (3, .ref o)]) hx hb dL_land_17 hl (by decide) rfl (fun ls hl => ?_)
      refine lv_iconst (v := 2) hx hb dL_land_19 (by decide) ?_
      refine W.widen (k := 4) (n := 79) (Nat.le_of_ble_eq_true rfl) (Nat.le_of_ble_eq_true rfl) ?_
      exact W.iret hx hb hr (fun t ht hW9 => ⟨⟨rfl, by rw [ht]; exact ⟨⟨E, rfl, hW⟩, fj, hO, fun h9 => absurd h9 c3⟩⟩, tc_F hS ht⟩) hS.2.2 dL_land_20
    · refine vx_catch (own := RL) (name := "java/lang/IllegalStateException") (E := "java/lang/IllegalStateException") hown [⟨0, 10, 13, 13⟩, ⟨0, 10, 17, 15⟩] ⟨0, 10, 21, 17⟩ [] htab (fun z9 h9 => (List.mem_cons.mp h9).elim (fun h9 => by rw [h9]; exact Or.inr ⟨by decide, "java/lang/IndexOutOfBoundsException", (hts (.classLink RL 13 "java/lang/IndexOutOfBoundsException") (List.mem_of_getElem? (i := 1) rfl)), hKL.2.2.1⟩) (fun h9 => by rw [List.mem_singleton.mp h9]; exact Or.inr ⟨by decide, "java/lang/IllegalArgumentException", (hts (.classLink RL 15 "java/lang/IllegalArgumentException") (List.mem_of_getElem? (i := 2) rfl)), hKL.2.2.2⟩)) (by decide) (by decide) (hts (.classLink RL 17 "java/lang/IllegalStateException") (List.mem_of_getElem? (i := 3) rfl)) (va_Nw.use rfl hKX.2.2.2.2.2.2.2.2.2.1) hce hcv hcl ?_
      refine lv_astore (lv' := [(4, .ref q9), (0, .ref (E 0)), (1, .int a1), (2, .int a2), (3, .ref o)]) hx hb dL_land_21 hl (by decide) rfl (fun ls hl => ?_)
      refine lv_iconst (v := 3) hx hb dL_land_23 (by decide) ?_
      refine W.widen (k := 4) (n := 79) (Nat.le_of_ble_eq_true rfl) (Nat.le_of_ble_eq_true rfl) ?_
      exact W.iret hx hb hr (fun t ht hW9 => ⟨⟨rfl, by rw [ht]; exact ⟨⟨E, rfl, hW⟩, fj, hO, fun h9 => absurd h9 c3⟩⟩, tc_F hS ht⟩) hS.2.2 dL_land_24
  · subst c3
    have hO := hO.kept (o1 o hO.lt ho)
    obtain ⟨E9, hE9, hW⟩ := hW
    refine lv_i2l hx hb dL_land_8 rfl ?_
    refine tc_last hx hb hKL.1 hO hS (Or.inr rfl) 0 rfl (by decide) dL_land_9 (fun H locs hO z2 o2 hS => ?_)
    have hW := hW.kept2 (fun j9 hj9 => o2 _ (fun h9 => ho (by rw [← h9]; exact hW.own hj9)))
    refine lv_goto (tgt := 25) hx hb dL_land_10 (by decide) ?_
    refine lv_iconst (v := 0) hx hb dL_land_25 (by decide) ?_
    refine W.widen (k := 4) (n := 79) (Nat.le_of_ble_eq_true rfl) (Nat.le_of_ble_eq_true rfl) ?_
    exact W.iret hx hb hr (fun t ht hW9 => ⟨⟨rfl, by rw [ht]; exact ⟨⟨E9, hE9, hW⟩, _, hO, fun _ => rfl⟩⟩, tc_F hS ht⟩) hS.2.2 dL_land_26
set_option maxHeartbeats 4000000 in
set_option maxRecDepth 100000 in
theorem mt_L_build (l : Launch) (hst : l.stackTraces = false) (D : va_G) (cU cO cI cJ : ClassId) (e0 : Nat) (A : Nat → Prop) (E : Nat → Nat) (x : tc_X) (o : Nat) (fj : Nat → Int64) (a1 a2 a3 a4 : Int32) (k : Nat) (r : Int32) (z : tc_X) (ho : ¬ A o) (hwf : tc_wf x) (hk : k ≤ 3) (hzx : k ≠ 0 → z = x) (hF : f_X2_build x a1 a2 a3 a4 = some (k, r, z)) : Met l yL_build wsL_build ({ frames := 8, cells := 4, slots := 80, locals := 181 } : Room) (va_Pc [.ref (E 0), .int a1, .int a2, .int a3, .int a4, .ref o] (fun U => tc_WC D cU cO e0 A E x U.heap ∧ tc_KX D cU cO cI e0 A U ∧ tc_KL D cJ U ∧ va_at D vwCl (o, .inl (cJ, 1, .inr (.inl fj))) U.heap)) (tc_Qw (some (.int (tc_c3 k))) (fun H9 => (∃ E9 : Nat → Nat, E9 0 = E 0 ∧ tc_WC D cU cO e0 A E9 z H9) ∧ ∃ fj9 : Nat → Int64, va_at D vwCl (o, .inl (cJ, 1, .inr (.inl fj9))) H9 ∧ (k = 0 → fj9 0 = r.toInt64)) (fun z9 => A z9 ∨ z9 = o)) 4 80 (fun z9 => A z9 ∨ z9 = o) := by
  refine va_MetW (cc := cL_build) (maxL := 7) (ret := (some .int)) (by decide) rfl ?_
  intro p e s m args below meth c s₁ B hml hv
  obtain ⟨rfl, hW, hKX, hKL, hO⟩ := hv
  have hx := B.exec
  have hb := B.bytes
  have hr := B.returns
  have hts := atoms_spec (ws := wsL_build) B.pre
  have hown : s.vm.findClass RL = some m.cls := findClass_of_methodNamed B.named
  have hlocks := B.notSynchronized
  have htab := vx_table (x := yL_build) B (hts _ List.mem_cons_self)
  have hK := hKX.1.1
  have hS0 : va_S A s.heap s.heap [] := va_S.rf
  have hS : va_S (fun z9 => A z9 ∨ z9 = o) s.heap s.heap [] := va_S.rf
  have hl := lv_entry ([.ref (E 0), .int a1, .int a2, .int a3, .int a4, .ref o]) (n := 7) (Nat.le_of_ble_eq_true rfl)
  rw [lg_entry_eq]
  generalize (lg_sl ([.ref (E 0), .int a1, .int a2, .int a3, .int a4, .ref o]) ++ List.replicate (7 - (lg_sl ([.ref (E 0), .int a1, .int a2, .int a3, .int a4, .ref o])).length) Slot.unset).toArray = ls at hl ⊢
  have hl : lv_has ls 7 [(0, .ref (E 0)), (1, .int a1), (2, .int a2), (3, .int a3), (4, .int a4), (5, .ref o)] := hl
  refine lv_aload hx hb dL_build_0 (lv_at hl 5 rfl) ?_
  refine lv_iconst (v := 0) hx hb dL_build_2 (by decide) ?_
  refine lv_aload_n hx hb dL_build_3 rfl (lv_at hl 0 rfl) ?_
  refine lv_iload_n hx hb dL_build_4 rfl (lv_at hl 1 rfl) ?_
  refine lv_iload_n hx hb dL_build_5 rfl (lv_at hl 2 rfl) ?_
  refine lv_iload_n hx hb dL_build_6 rfl (lv_at hl 3 rfl) ?_
  refine lv_iload hx hb dL_build_7 (lv_at hl 4 rfl) ?_
  refine tc_cx (vx_runV (As := [.int a1, .int a2, .int a3, .int a4]) (rest := [.int 0, .ref o]) ⟨hx, hb, hml, hown, hts⟩ (mt_X2_build l hst D cU cO cI e0 A E x a1 a2 a3 a4 k r z hwf hF) (cwV 4 hts gL_build_X2_build rfl rfl rfl (by decide +kernel) ⟨Nat.le_of_ble_eq_true rfl, Nat.le_of_ble_eq_true rfl⟩) ⟨fun a U g mk q => ⟨q.1, q.2.1, q.2.2.call⟩, tc_rcv hW.o hK rfl, fun U hU hW9 => ⟨rfl, by rw [hU]; exact hW, hKX.go hS0 hU hW9⟩⟩ rfl rfl hl.1 rfl (lv_room (Nat.le_of_ble_eq_true rfl)) dL_build_9 ⟨Nat.le_of_ble_eq_true rfl, Nat.le_of_ble_eq_true rfl⟩) hS (fun _ _ h => Or.inl h) (fun _ h => Or.inl h) (fun _ _ h => Or.inl h) (fun ce q9 H locs c3 hW z1 o1 hS hce hcv hcl => ?_) (fun H locs c3 hW z1 o1 hS => ?_)
  · have hO := hO.kept (o1 o hO.lt ho)
    have hW : tc_WC D cU cO e0 A E z H := by rw [hzx c3]; exact hW
    rcases (show k = 1 ∨ k = 2 ∨ k = 3 by omega) with rfl | rfl | rfl
    · refine vx_catch (own := RL) (name := "java/lang/IndexOutOfBoundsException") (E := "java/lang/IndexOutOfBoundsException") hown [] ⟨0, 14, 17, 13⟩ [⟨0, 14, 21, 15⟩, ⟨0, 14, 25, 17⟩] htab (fun z9 h9 => absurd h9 List.not_mem_nil) (by decide) (by decide) (hts (.classLink RL 13 "java/lang/IndexOutOfBoundsException") (List.mem_of_getElem? (i := 1) rfl)) (va_Nw.use rfl hKX.2.2.2.2.2.2.2.1) hce hcv hcl ?_
      refine lv_astore (lv' := [(6, .ref q9), (0, .ref (E 0)), (1, .int a1), (2, .int a2), (3, .int a3), (4, .int a4), (5, .ref o)]) hx hb dL_build_17 hl (by decide) rfl (fun ls hl => ?_)
      refine lv_iconst (v := 1) hx hb dL_build_19 (by decide) ?_
      refine W.widen (k := 4) (n := 80) (Nat.le_of_ble_eq_true rfl) (Nat.le_of_ble_eq_true rfl) ?_
      exact W.iret hx hb hr (fun t ht hW9 => ⟨⟨rfl, by rw [ht]; exact ⟨⟨E, rfl, hW⟩, fj, hO, fun h9 => absurd h9 c3⟩⟩, tc_F hS ht⟩) hS.2.2 dL_build_20
    · refine vx_catch (own := RL) (name := "java/lang/IllegalArgumentException") (E := "java/lang/IllegalArgumentException") hown [⟨0, 14, 17, 13⟩] ⟨0, 14, 21, 15⟩ [⟨0, 14, 25, 17⟩] htab (fun z9 h9 => by rw [List.mem_singleton.mp h9]; exact Or.inr ⟨by decide, "java/lang/IndexOutOfBoundsException", (hts (.classLink RL 13 "java/lang/IndexOutOfBoundsException") (List.mem_of_getElem? (i := 1) rfl)), hKL.2.1⟩) (by decide) (by decide) (hts (.classLink RL 15 "java/lang/IllegalArgumentException") (List.mem_of_getElem? (i := 2) rfl)) (va_Nw.use rfl hKX.2.2.2.2.2.2.2.2.1) hce hcv hcl ?_
      refine lv_astore (lv' := [(6, .ref q9), (0, .ref (E 0)), (1, .int a1), (2, .int a2), (3, .int a3), (4, .int a4), (5, .ref o)]) hx hb dL_build_21 hl (by decide) rfl (fun ls hl => ?_)
      refine lv_iconst (v := 2) hx hb dL_build_23 (by decide) ?_
      refine W.widen (k := 4) (n := 80) (Nat.le_of_ble_eq_true rfl) (Nat.le_of_ble_eq_true rfl) ?_
      exact W.iret hx hb hr (fun t ht hW9 => ⟨⟨rfl, by rw [ht]; exact ⟨⟨E, rfl, hW⟩, fj, hO, fun h9 => absurd h9 c3⟩⟩, tc_F hS ht⟩) hS.2.2 dL_build_24
    · refine vx_catch (own := RL) (name := "java/lang/IllegalStateException") (E := "java/lang/IllegalStateException") hown [⟨0, 14, 17, 13⟩, ⟨0, 14, 21, 15⟩] ⟨0, 14, 25, 17⟩ [] htab (fun z9 h9 => (List.mem_cons.mp h9).elim (fun h9 => by rw [h9]; exact Or.inr ⟨by decide, "java/lang/IndexOutOfBoundsException", (hts (.classLink RL 13 "java/lang/IndexOutOfBoundsException") (List.mem_of_getElem? (i := 1) rfl)), hKL.2.2.1⟩) (fun h9 => by rw [List.mem_singleton.mp h9]; exact Or.inr ⟨by decide, "java/lang/IllegalArgumentException", (hts (.classLink RL 15 "java/lang/IllegalArgumentException") (List.mem_of_getElem? (i := 2) rfl)), hKL.2.2.2⟩)) (by decide) (by decide) (hts (.classLink RL 17 "java/lang/IllegalStateException") (List.mem_of_getElem? (i := 3) rfl)) (va_Nw.use rfl hKX.2.2.2.2.2.2.2.2.2.1) hce hcv hcl ?_
      refine lv_astore (lv' := [(6, .ref q9), (0, .ref (E 0)), (1, .int a1), (2, .int a2), (3, .int a3), (4, .int a4), (5, .ref o)]) hx hb dL_build_25 hl (by decide) rfl (fun ls hl => ?_)
      refine lv_iconst (v := 3) hx hb dL_build_27 (by decide) ?_
      refine W.widen (k := 4) (n := 80) (Nat.le_of_ble_eq_true rfl) (Nat.le_of_ble_eq_true rfl) ?_
      exact W.iret hx hb hr (fun t ht hW9 => ⟨⟨rfl, by rw [ht]; exact ⟨⟨E, rfl, hW⟩, fj, hO, fun h9 => absurd h9 c3⟩⟩, tc_F hS ht⟩) hS.2.2 dL_build_28
  · subst c3
    have hO := hO.kept (o1 o hO.lt ho)
    obtain ⟨E9, hE9, hW⟩ := hW
    refine lv_i2l hx hb dL_build_12 rfl ?_
    refine tc_last hx hb hKL.1 hO hS (Or.inr rfl) 0 rfl (by decide) dL_build_13 (fun H locs hO z2 o2 hS => ?_)
    have hW := hW.kept2 (fun j9 hj9 => o2 _ (fun h9 => ho (by rw [← h9]; exact hW.own hj9)))
    refine lv_goto (tgt := 29) hx hb dL_build_14 (by decide) ?_
    refine lv_iconst (v := 0) hx hb dL_build_29 (by decide) ?_
    refine W.widen (k := 4) (n := 80) (Nat.le_of_ble_eq_true rfl) (Nat.le_of_ble_eq_true rfl) ?_
    exact W.iret hx hb hr (fun t ht hW9 => ⟨⟨rfl, by rw [ht]; exact ⟨⟨E9, hE9, hW⟩, _, hO, fun _ => rfl⟩⟩, tc_F hS ht⟩) hS.2.2 dL_build_30
set_option maxHeartbeats 4000000 in
set_option maxRecDepth 100000 in
theorem mt_L_man (l : Launch) (hst : l.stackTraces = false) (D : va_G) (cU cO cI cJ : ClassId) (e0 : Nat) (A : Nat → Prop) (E : Nat → Nat) (x : tc_X) (o : Nat) (fj : Nat → Int64) (a1 a2 : Int32) (k : Nat) (r : Int32) (z : tc_X) (ho : ¬ A o) (hk : k ≤ 2) (hzx : k ≠ 0 → z = x) (hF : f_X2_man x a1 a2 = some (k, r, z)) : Met l yL_man wsL_man ({ frames := 8, cells := 2, slots := 12, locals := 127 } : Room) (va_Pc [.ref (E 0), .int a1, .int a2, .ref o] (fun U => tc_WC D cU cO e0 A E x U.heap ∧ tc_KX D cU cO cI e0 A U ∧ tc_KL D cJ U ∧ va_at D vwCl (o, .inl (cJ, 1, .inr (.inl fj))) U.heap)) (tc_Qw (some (.int (tc_c3 k))) (fun H9 => (∃ E9 : Nat → Nat, E9 0 = E 0 ∧ tc_WC D cU cO e0 A E9 z H9) ∧ ∃ fj9 : Nat → Int64, va_at D vwCl (o, .inl (cJ, 1, .inr (.inl fj9))) H9 ∧ (k = 0 → fj9 0 = r.toInt64)) (fun z9 => A z9 ∨ z9 = o)) 2 12 (fun z9 => A z9 ∨ z9 = o) := by
  refine va_MetW (cc := cL_man) (maxL := 5) (ret := (some .int)) (by decide) rfl ?_
  intro p e s m args below meth c s₁ B hml hv
  obtain ⟨rfl, hW, hKX, hKL, hO⟩ := hv
  have hx := B.exec
  have hb := B.bytes
  have hr := B.returns
  have hts := atoms_spec (ws := wsL_man) B.pre
  have hown : s.vm.findClass RL = some m.cls := findClass_of_methodNamed B.named
  have hlocks := B.notSynchronized
  have htab := vx_table (x := yL_man) B (hts _ List.mem_cons_self)
  have hK := hKX.1.1
  have hS0 : va_S A s.heap s.heap [] := va_S.rf
  have hS : va_S (fun z9 => A z9 ∨ z9 = o) s.heap s.heap [] := va_S.rf
  have hl := lv_entry ([.ref (E 0), .int a1, .int a2, .ref o]) (n := 5) (Nat.le_of_ble_eq_true rfl)
  rw [lg_entry_eq]
  generalize (lg_sl ([.ref (E 0), .int a1, .int a2, .ref o]) ++ List.replicate (5 - (lg_sl ([.ref (E 0), .int a1, .int a2, .ref o])).length) Slot.unset).toArray = ls at hl ⊢
  have hl : lv_has ls 5 [(0, .ref (E 0)), (1, .int a1), (2, .int a2), (3, .ref o)] := hl
  refine lv_aload_n hx hb dL_man_0 rfl (lv_at hl 3 rfl) ?_
  refine lv_iconst (v := 0) hx hb dL_man_1 (by decide) ?_
  refine lv_aload_n hx hb dL_man_2 rfl (lv_at hl 0 rfl) ?_
  refine lv_iload_n hx hb dL_man_3 rfl (lv_at hl 1 rfl) ?_
  refine lv_iload_n hx hb dL_man_4 rfl (lv_at hl 2 rfl) ?_
  refine tc_cx (vx_runV (As := [.int a1, .int a2]) (rest := [.int 0, .ref o]) ⟨hx, hb, hml, hown, hts⟩ (mt_X2_man l hst D cU cO cI e0 A E x a1 a2 k r z hF) (cwV 2 hts gL_man_X2_man rfl rfl rfl (by decide +kernel) ⟨Nat.le_of_ble_eq_true rfl, Nat.le_of_ble_eq_true rfl⟩) ⟨fun a U g mk q => ⟨q.1, q.2.1, q.2.2.call⟩, tc_rcv hW.o hK rfl, fun U hU hW9 => ⟨rfl, by rw [hU]; exact hW, hKX.go hS0 hU hW9⟩⟩ rfl rfl hl.1 rfl (lv_room (Nat.le_of_ble_eq_true rfl)) dL_man_5 ⟨Nat.le_of_ble_eq_true rfl, Nat.le_of_ble_eq_true rfl⟩) hS (fun _ _ h => Or.inl h) (fun _ h => Or.inl h) (fun _ _ h => Or.inl h) (fun ce q9 H locs c3 hW z1 o1 hS hce hcv hcl => ?_) (fun H locs c3 hW z1 o1 hS => ?_)
  · have hO := hO.kept (o1 o hO.lt ho)
    have hW : tc_WC D cU cO e0 A E z H := by rw [hzx c3]; exact hW
    rcases (show k = 1 ∨ k = 2 by omega) with rfl | rfl
    · refine vx_catch (own := RL) (name := "java/lang/IndexOutOfBoundsException") (E := "java/lang/IndexOutOfBoundsException") hown [] ⟨0, 10, 13, 13⟩ [⟨0, 10, 17, 15⟩] htab (fun z9 h9 => absurd h9 List.not_mem_nil) (by decide) (by decide) (hts (.classLink RL 13 "java/lang/IndexOutOfBoundsException") (List.mem_of_getElem? (i := 1) rfl)) (va_Nw.use rfl hKX.2.2.2.2.2.2.2.1) hce hcv hcl ?_
      refine lv_astore (lv' := [(4, .ref q9), (0, .ref (E 0)), (1, .int a1), (2, .int a2), (3, .ref o)]) hx hb dL_man_13 hl (by decide) rfl (fun ls hl => ?_)
      refine lv_iconst (v := 1) hx hb dL_man_15 (by decide) ?_
      refine W.widen (k := 2) (n := 12) (Nat.le_of_ble_eq_true rfl) (Nat.le_of_ble_eq_true rfl) ?_
      exact W.iret hx hb hr (fun t ht hW9 => ⟨⟨rfl, by rw [ht]; exact ⟨⟨E, rfl, hW⟩, fj, hO, fun h9 => absurd h9 c3⟩⟩, tc_F hS ht⟩) hS.2.2 dL_man_16
    · refine vx_catch (own := RL) (name := "java/lang/IllegalArgumentException") (E := "java/lang/IllegalArgumentException") hown [⟨0, 10, 13, 13⟩] ⟨0, 10, 17, 15⟩ [] htab (fun z9 h9 => by rw [List.mem_singleton.mp h9]; exact Or.inr ⟨by decide, "java/lang/IndexOutOfBoundsException", (hts (.classLink RL 13 "java/lang/IndexOutOfBoundsException") (List.mem_of_getElem? (i := 1) rfl)), hKL.2.1⟩) (by decide) (by decide) (hts (.classLink RL 15 "java/lang/IllegalArgumentException") (List.mem_of_getElem? (i := 2) rfl)) (va_Nw.use rfl hKX.2.2.2.2.2.2.2.2.1) hce hcv hcl ?_
      refine lv_astore (lv' := [(4, .ref q9), (0, .ref (E 0)), (1, .int a1), (2, .int a2), (3, .ref o)]) hx hb dL_man_17 hl (by decide) rfl (fun ls hl => ?_)
      refine lv_iconst (v := 2) hx hb dL_man_19 (by decide) ?_
      refine W.widen (k := 2) (n := 12) (Nat.le_of_ble_eq_true rfl) (Nat.le_of_ble_eq_true rfl) ?_
      exact W.iret hx hb hr (fun t ht hW9 => ⟨⟨rfl, by rw [ht]; exact ⟨⟨E, rfl, hW⟩, fj, hO, fun h9 => absurd h9 c3⟩⟩, tc_F hS ht⟩) hS.2.2 dL_man_20
  · subst c3
    have hO := hO.kept (o1 o hO.lt ho)
    obtain ⟨E9, hE9, hW⟩ : ∃ E9 : Nat → Nat, E9 0 = E 0 ∧ tc_WC D cU cO e0 A E9 z H := ⟨E, rfl, hW⟩
    refine lv_i2l hx hb dL_man_8 rfl ?_
    refine tc_last hx hb hKL.1 hO hS (Or.inr rfl) 0 rfl (by decide) dL_man_9 (fun H locs hO z2 o2 hS => ?_)
    have hW := hW.kept2 (fun j9 hj9 => o2 _ (fun h9 => ho (by rw [← h9]; exact hW.own hj9)))
    refine lv_goto (tgt := 21) hx hb dL_man_10 (by decide) ?_
    refine lv_iconst (v := 0) hx hb dL_man_21 (by decide) ?_
    refine W.widen (k := 2) (n := 12) (Nat.le_of_ble_eq_true rfl) (Nat.le_of_ble_eq_true rfl) ?_
    exact W.iret hx hb hr (fun t ht hW9 => ⟨⟨rfl, by rw [ht]; exact ⟨⟨E9, hE9, hW⟩, _, hO, fun _ => rfl⟩⟩, tc_F hS ht⟩) hS.2.2 dL_man_22
set_option maxHeartbeats 4000000 in
set_option maxRecDepth 100000 in
theorem mt_L_mend (l : Launch) (hst : l.stackTraces = false) (D : va_G) (cU cO cI cJ : ClassId) (e0 : Nat) (A : Nat → Prop) (E : Nat → Nat) (x : tc_X) (o : Nat) (fj : Nat → Int64) (a1 : Int32) (k : Nat) (r : Int32) (z : tc_X) (ho : ¬ A o) (hk : k ≤ 1) (hzx : k ≠ 0 → z = x) (hF : f_X2_mend x a1 = some (k, r, z)) : Met l yL_mend wsL_mend ({ frames := 8, cells := 1, slots := 6, locals := 126 } : Room) (va_Pc [.ref (E 0), .int a1, .ref o] (fun U => tc_WC D cU cO e0 A E x U.heap ∧ tc_KX D cU cO cI e0 A U ∧ tc_KL D cJ U ∧ va_at D vwCl (o, .inl (cJ, 1, .inr (.inl fj))) U.heap)) (tc_Qw (some (.int (tc_c3 k))) (fun H9 => (∃ E9 : Nat → Nat, E9 0 = E 0 ∧ tc_WC D cU cO e0 A E9 z H9) ∧ ∃ fj9 : Nat → Int64, va_at D vwCl (o, .inl (cJ, 1, .inr (.inl fj9))) H9 ∧ (k = 0 → fj9 0 = r.toInt64)) (fun z9 => A z9 ∨ z9 = o)) 1 6 (fun z9 => A z9 ∨ z9 = o) := by
  refine va_MetW (cc := cL_mend) (maxL := 4) (ret := (some .int)) (by decide) rfl ?_
  intro p e s m args below meth c s₁ B hml hv
  obtain ⟨rfl, hW, hKX, hKL, hO⟩ := hv
  have hx := B.exec
  have hb := B.bytes
  have hr := B.returns
  have hts := atoms_spec (ws := wsL_mend) B.pre
  have hown : s.vm.findClass RL = some m.cls := findClass_of_methodNamed B.named
  have hlocks := B.notSynchronized
  have htab := vx_table (x := yL_mend) B (hts _ List.mem_cons_self)
  have hK := hKX.1.1
  have hS0 : va_S A s.heap s.heap [] := va_S.rf
  have hS : va_S (fun z9 => A z9 ∨ z9 = o) s.heap s.heap [] := va_S.rf
  have hl := lv_entry ([.ref (E 0), .int a1, .ref o]) (n := 4) (Nat.le_of_ble_eq_true rfl)
  rw [lg_entry_eq]
  generalize (lg_sl ([.ref (E 0), .int a1, .ref o]) ++ List.replicate (4 - (lg_sl ([.ref (E 0), .int a1, .ref o])).length) Slot.unset).toArray = ls at hl ⊢
  have hl : lv_has ls 4 [(0, .ref (E 0)), (1, .int a1), (2, .ref o)] := hl
  refine lv_aload_n hx hb dL_mend_0 rfl (lv_at hl 2 rfl) ?_
  refine lv_iconst (v := 0) hx hb dL_mend_1 (by decide) ?_
  refine lv_aload_n hx hb dL_mend_2 rfl (lv_at hl 0 rfl) ?_
  refine lv_iload_n hx hb dL_mend_3 rfl (lv_at hl 1 rfl) ?_
  refine tc_cx (vx_runV (As := [.int a1]) (rest := [.int 0, .ref o]) ⟨hx, hb, hml, hown, hts⟩ (mt_X2_mend l hst D cU cO cI e0 A E x a1 k r z hF) (cwV 1 hts gL_mend_X2_mend rfl rfl rfl (by decide +kernel) ⟨Nat.le_of_ble_eq_true rfl, Nat.le_of_ble_eq_true rfl⟩) ⟨fun a U g mk q => ⟨q.1, q.2.1, q.2.2.call⟩, tc_rcv hW.o hK rfl, fun U hU hW9 => ⟨rfl, by rw [hU]; exact hW, hKX.go hS0 hU hW9⟩⟩ rfl rfl hl.1 rfl (lv_room (Nat.le_of_ble_eq_true rfl)) dL_mend_4 ⟨Nat.le_of_ble_eq_true rfl, Nat.le_of_ble_eq_true rfl⟩) hS (fun _ _ h => Or.inl h) (fun _ h => Or.inl h) (fun _ _ h => Or.inl h) (fun ce q9 H locs c3 hW z1 o1 hS hce hcv hcl => ?_) (fun H locs c3 hW z1 o1 hS => ?_)
  · have hO := hO.kept (o1 o hO.lt ho)
    have hW : tc_WC D cU cO e0 A E z H := by rw [hzx c3]; exact hW
    rcases (show k = 1 by omega) with rfl
    refine vx_catch (own := RL) (name := "java/lang/IndexOutOfBoundsException") (E := "java/lang/IndexOutOfBoundsException") hown [] ⟨0, 9, 12, 13⟩ [] htab (fun z9 h9 => absurd h9 List.not_mem_nil) (by decide) (by decide) (hts (.classLink RL 13 "java/lang/IndexOutOfBoundsException") (List.mem_of_getElem? (i := 1) rfl)) (va_Nw.use rfl hKX.2.2.2.2.2.2.2.1) hce hcv hcl ?_
    refine lv_astore_n (lv' := [(3, .ref q9), (0, .ref (E 0)), (1, .int a1), (2, .ref o)]) hx hb dL_mend_12 rfl hl (by decide) rfl (fun ls hl => ?_)
    refine lv_iconst (v := 1) hx hb dL_mend_13 (by decide) ?_
    refine W.widen (k := 1) (n := 6) (Nat.le_of_ble_eq_true rfl) (Nat.le_of_ble_eq_true rfl) ?_
    exact W.iret hx hb hr (fun t ht hW9 => ⟨⟨rfl, by rw [ht]; exact ⟨⟨E, rfl, hW⟩, fj, hO, fun h9 => absurd h9 c3⟩⟩, tc_F hS ht⟩) hS.2.2 dL_mend_14
  · subst c3
    have hO := hO.kept (o1 o hO.lt ho)
    obtain ⟨E9, hE9, hW⟩ : ∃ E9 : Nat → Nat, E9 0 = E 0 ∧ tc_WC D cU cO e0 A E9 z H := ⟨E, rfl, hW⟩
    refine lv_i2l hx hb dL_mend_7 rfl ?_
    refine tc_last hx hb hKL.1 hO hS (Or.inr rfl) 0 rfl (by decide) dL_mend_8 (fun H locs hO z2 o2 hS => ?_)
    have hW := hW.kept2 (fun j9 hj9 => o2 _ (fun h9 => ho (by rw [← h9]; exact hW.own hj9)))
    refine lv_goto (tgt := 15) hx hb dL_mend_9 (by decide) ?_
    refine lv_iconst (v := 0) hx hb dL_mend_15 (by decide) ?_
    refine W.widen (k := 1) (n := 6) (Nat.le_of_ble_eq_true rfl) (Nat.le_of_ble_eq_true rfl) ?_
    exact W.iret hx hb hr (fun t ht hW9 => ⟨⟨rfl, by rw [ht]; exact ⟨⟨E9, hE9, hW⟩, _, hO, fun _ => rfl⟩⟩, tc_F hS ht⟩) hS.2.2 dL_mend_16
set_option maxHeartbeats 4000000 in
set_option maxRecDepth 100000 in
theorem mt_L_turn (l : Launch) (hst : l.stackTraces = false) (D : va_G) (cU cO cI cJ : ClassId) (e0 : Nat) (A : Nat → Prop) (E : Nat → Nat) (x : tc_X) (o : Nat) (fj : Nat → Int64) (a1 a2 : Int32) (k : Nat) (r : Int32) (z : tc_X) (ho : ¬ A o) (hk : k = 0 ∨ k = 1 ∨ k = 3) (hzx : k ≠ 0 → z = x) (hF : f_X2_turn x a1 a2 = some (k, r, z)) : Met l yL_turn wsL_turn ({ frames := 8, cells := 3, slots := 18, locals := 133 } : Room) (va_Pc [.ref (E 0), .int a1, .int a2, .ref o] (fun U => tc_WC D cU cO e0 A E x U.heap ∧ tc_KX D cU cO cI e0 A U ∧ tc_KL D cJ U ∧ va_at D vwCl (o, .inl (cJ, 1, .inr (.inl fj))) U.heap)) (tc_Qw (some (.int (tc_c13 k))) (fun H9 => (∃ E9 : Nat → Nat, E9 0 = E 0 ∧ tc_WC D cU cO e0 A E9 z H9) ∧ ∃ fj9 : Nat → Int64, va_at D vwCl (o, .inl (cJ, 1, .inr (.inl fj9))) H9 ∧ (k = 0 → fj9 0 = r.toInt64)) (fun z9 => A z9 ∨ z9 = o)) 3 18 (fun z9 => A z9 ∨ z9 = o) := by
  refine va_MetW (cc := cL_turn) (maxL := 5) (ret := (some .int)) (by decide) rfl ?_
  intro p e s m args below meth c s₁ B hml hv
  obtain ⟨rfl, hW, hKX, hKL, hO⟩ := hv
  have hx := B.exec
  have hb := B.bytes
  have hr := B.returns
  have hts := atoms_spec (ws := wsL_turn) B.pre
  have hown : s.vm.findClass RL = some m.cls := findClass_of_methodNamed B.named
  have hlocks := B.notSynchronized
  have htab := vx_table (x := yL_turn) B (hts _ List.mem_cons_self)
  have hK := hKX.1.1
  have hS0 : va_S A s.heap s.heap [] := va_S.rf
  have hS : va_S (fun z9 => A z9 ∨ z9 = o) s.heap s.heap [] := va_S.rf
  have hl := lv_entry ([.ref (E 0), .int a1, .int a2, .ref o]) (n := 5) (Nat.le_of_ble_eq_true rfl)
  rw [lg_entry_eq]
  generalize (lg_sl ([.ref (E 0), .int a1, .int a2, .ref o]) ++ List.replicate (5 - (lg_sl ([.ref (E 0), .int a1, .int a2, .ref o])).length) Slot.unset).toArray = ls at hl ⊢
  have hl : lv_has ls 5 [(0, .ref (E 0)), (1, .int a1), (2, .int a2), (3, .ref o)] := hl
  refine lv_aload_n hx hb dL_turn_0 rfl (lv_at hl 3 rfl) ?_
  refine lv_iconst (v := 0) hx hb dL_turn_1 (by decide) ?_
  refine lv_aload_n hx hb dL_turn_2 rfl (lv_at hl 0 rfl) ?_
  refine lv_iload_n hx hb dL_turn_3 rfl (lv_at hl 1 rfl) ?_
  refine lv_iload_n hx hb dL_turn_4 rfl (lv_at hl 2 rfl) ?_
  refine tc_cx (vx_runV (As := [.int a1, .int a2]) (rest := [.int 0, .ref o]) ⟨hx, hb, hml, hown, hts⟩ (mt_X2_turn l hst D cU cO cI e0 A E x a1 a2 k r z hF) (cwV 2 hts gL_turn_X2_turn rfl rfl rfl (by decide +kernel) ⟨Nat.le_of_ble_eq_true rfl, Nat.le_of_ble_eq_true rfl⟩) ⟨fun a U g mk q => ⟨q.1, q.2.1, q.2.2.call⟩, tc_rcv hW.o hK rfl, fun U hU hW9 => ⟨rfl, by rw [hU]; exact hW, hKX.go hS0 hU hW9⟩⟩ rfl rfl hl.1 rfl (lv_room (Nat.le_of_ble_eq_true rfl)) dL_turn_5 ⟨Nat.le_of_ble_eq_true rfl, Nat.le_of_ble_eq_true rfl⟩) hS (fun _ _ h => Or.inl h) (fun _ h => Or.inl h) (fun _ _ h => Or.inl h) (fun ce q9 H locs c3 hW z1 o1 hS hce hcv hcl => ?_) (fun H locs c3 hW z1 o1 hS => ?_)
  · have hO := hO.kept (o1 o hO.lt ho)
    have hW : tc_WC D cU cO e0 A E z H := by rw [hzx c3]; exact hW
    rcases (show k = 1 ∨ k = 3 by omega) with rfl | rfl
    · refine vx_catch (own := RL) (name := "java/lang/IndexOutOfBoundsException") (E := "java/lang/IndexOutOfBoundsException") hown [] ⟨0, 10, 13, 13⟩ [⟨0, 10, 17, 17⟩] htab (fun z9 h9 => absurd h9 List.not_mem_nil) (by decide) (by decide) (hts (.classLink RL 13 "java/lang/IndexOutOfBoundsException") (List.mem_of_getElem? (i := 1) rfl)) (va_Nw.use rfl hKX.2.2.2.2.2.2.2.1) hce hcv hcl ?_
      refine lv_astore (lv' := [(4, .ref q9), (0, .ref (E 0)), (1, .int a1), (2, .int a2), (3, .ref o)]) hx hb dL_turn_13 hl (by decide) rfl (fun ls hl => ?_)
      refine lv_iconst (v := 1) hx hb dL_turn_15 (by decide) ?_
      refine W.widen (k := 3) (n := 18) (Nat.le_of_ble_eq_true rfl) (Nat.le_of_ble_eq_true rfl) ?_
      exact W.iret hx hb hr (fun t ht hW9 => ⟨⟨rfl, by rw [ht]; exact ⟨⟨E, rfl, hW⟩, fj, hO, fun h9 => absurd h9 c3⟩⟩, tc_F hS ht⟩) hS.2.2 dL_turn_16
    · refine vx_catch (own := RL) (name := "java/lang/IllegalStateException") (E := "java/lang/IllegalStateException") hown [⟨0, 10, 13, 13⟩] ⟨0, 10, 17, 17⟩ [] htab (fun z9 h9 => by rw [List.mem_singleton.mp h9]; exact Or.inr ⟨by decide, "java/lang/IndexOutOfBoundsException", (hts (.classLink RL 13 "java/lang/IndexOutOfBoundsException") (List.mem_of_getElem? (i := 1) rfl)), hKL.2.2.1⟩) (by decide) (by decide) (hts (.classLink RL 17 "java/lang/IllegalStateException") (List.mem_of_getElem? (i := 2) rfl)) (va_Nw.use rfl hKX.2.2.2.2.2.2.2.2.2.1) hce hcv hcl ?_
      refine lv_astore (lv' := [(4, .ref q9), (0, .ref (E 0)), (1, .int a1), (2, .int a2), (3, .ref o)]) hx hb dL_turn_17 hl (by decide) rfl (fun ls hl => ?_)
      refine lv_iconst (v := 2) hx hb dL_turn_19 (by decide) ?_
      refine W.widen (k := 3) (n := 18) (Nat.le_of_ble_eq_true rfl) (Nat.le_of_ble_eq_true rfl) ?_
      exact W.iret hx hb hr (fun t ht hW9 => ⟨⟨rfl, by rw [ht]; exact ⟨⟨E, rfl, hW⟩, fj, hO, fun h9 => absurd h9 c3⟩⟩, tc_F hS ht⟩) hS.2.2 dL_turn_20
  · subst c3
    have hO := hO.kept (o1 o hO.lt ho)
    obtain ⟨E9, hE9, hW⟩ : ∃ E9 : Nat → Nat, E9 0 = E 0 ∧ tc_WC D cU cO e0 A E9 z H := ⟨E, rfl, hW⟩
    refine lv_i2l hx hb dL_turn_8 rfl ?_
    refine tc_last hx hb hKL.1 hO hS (Or.inr rfl) 0 rfl (by decide) dL_turn_9 (fun H locs hO z2 o2 hS => ?_)
    have hW := hW.kept2 (fun j9 hj9 => o2 _ (fun h9 => ho (by rw [← h9]; exact hW.own hj9)))
    refine lv_goto (tgt := 21) hx hb dL_turn_10 (by decide) ?_
    refine lv_iconst (v := 0) hx hb dL_turn_21 (by decide) ?_
    refine W.widen (k := 3) (n := 18) (Nat.le_of_ble_eq_true rfl) (Nat.le_of_ble_eq_true rfl) ?_
    exact W.iret hx hb hr (fun t ht hW9 => ⟨⟨rfl, by rw [ht]; exact ⟨⟨E9, hE9, hW⟩, _, hO, fun _ => rfl⟩⟩, tc_F hS ht⟩) hS.2.2 dL_turn_22
set_option maxHeartbeats 4000000 in
set_option maxRecDepth 100000 in
theorem mt_L_hoist (l : Launch) (hst : l.stackTraces = false) (D : va_G) (cU cO cI cJ : ClassId) (e0 : Nat) (A : Nat → Prop) (E : Nat → Nat) (x : tc_X) (o : Nat) (fj : Nat → Int64) (a1 a2 : Int32) (k : Nat) (r : Int32) (z : tc_X) (ho : ¬ A o) (hk : k ≤ 3) (hzx : k ≠ 0 → z = x) (hF : f_X2_hoist x a1 a2 = some (k, r, z)) : Met l yL_hoist wsL_hoist ({ frames := 8, cells := 2, slots := 12, locals := 127 } : Room) (va_Pc [.ref (E 0), .int a1, .int a2, .ref o] (fun U => tc_WC D cU cO e0 A E x U.heap ∧ tc_KX D cU cO cI e0 A U ∧ tc_KL D cJ U ∧ va_at D vwCl (o, .inl (cJ, 1, .inr (.inl fj))) U.heap)) (tc_Qw (some (.int (tc_c3 k))) (fun H9 => (∃ E9 : Nat → Nat, E9 0 = E 0 ∧ tc_WC D cU cO e0 A E9 z H9) ∧ ∃ fj9 : Nat → Int64, va_at D vwCl (o, .inl (cJ, 1, .inr (.inl fj9))) H9 ∧ (k = 0 → fj9 0 = r.toInt64)) (fun z9 => A z9 ∨ z9 = o)) 2 12 (fun z9 => A z9 ∨ z9 = o) := by
  refine va_MetW (cc := cL_hoist) (maxL := 5) (ret := (some .int)) (by decide) rfl ?_
  intro p e s m args below meth c s₁ B hml hv
  obtain ⟨rfl, hW, hKX, hKL, hO⟩ := hv
  have hx := B.exec
  have hb := B.bytes
  have hr := B.returns
  have hts := atoms_spec (ws := wsL_hoist) B.pre
  have hown : s.vm.findClass RL = some m.cls := findClass_of_methodNamed B.named
  have hlocks := B.notSynchronized
  have htab := vx_table (x := yL_hoist) B (hts _ List.mem_cons_self)
  have hK := hKX.1.1
  have hS0 : va_S A s.heap s.heap [] := va_S.rf
  have hS : va_S (fun z9 => A z9 ∨ z9 = o) s.heap s.heap [] := va_S.rf
  have hl := lv_entry ([.ref (E 0), .int a1, .int a2, .ref o]) (n := 5) (Nat.le_of_ble_eq_true rfl)
  rw [lg_entry_eq]
  generalize (lg_sl ([.ref (E 0), .int a1, .int a2, .ref o]) ++ List.replicate (5 - (lg_sl ([.ref (E 0), .int a1, .int a2, .ref o])).length) Slot.unset).toArray = ls at hl ⊢
  have hl : lv_has ls 5 [(0, .ref (E 0)), (1, .int a1), (2, .int a2), (3, .ref o)] := hl
  refine lv_aload_n hx hb dL_hoist_0 rfl (lv_at hl 3 rfl) ?_
  refine lv_iconst (v := 0) hx hb dL_hoist_1 (by decide) ?_
  refine lv_aload_n hx hb dL_hoist_2 rfl (lv_at hl 0 rfl) ?_
  refine lv_iload_n hx hb dL_hoist_3 rfl (lv_at hl 1 rfl) ?_
  refine lv_iload_n hx hb dL_hoist_4 rfl (lv_at hl 2 rfl) ?_
  refine tc_cx (vx_runV (As := [.int a1, .int a2]) (rest := [.int 0, .ref o]) ⟨hx, hb, hml, hown, hts⟩ (mt_X2_hoist l hst D cU cO cI e0 A E x a1 a2 k r z hF) (cwV 2 hts gL_hoist_X2_hoist rfl rfl rfl (by decide +kernel) ⟨Nat.le_of_ble_eq_true rfl, Nat.le_of_ble_eq_true rfl⟩) ⟨fun a U g mk q => ⟨q.1, q.2.1, q.2.2.call⟩, tc_rcv hW.o hK rfl, fun U hU hW9 => ⟨rfl, by rw [hU]; exact hW, hKX.go hS0 hU hW9⟩⟩ rfl rfl hl.1 rfl (lv_room (Nat.le_of_ble_eq_true rfl)) dL_hoist_5 ⟨Nat.le_of_ble_eq_true rfl, Nat.le_of_ble_eq_true rfl⟩) hS (fun _ _ h => Or.inl h) (fun _ h => Or.inl h) (fun _ _ h => Or.inl h) (fun ce q9 H locs c3 hW z1 o1 hS hce hcv hcl => ?_) (fun H locs c3 hW z1 o1 hS => ?_)
  · have hO := hO.kept (o1 o hO.lt ho)
    have hW : tc_WC D cU cO e0 A E z H := by rw [hzx c3]; exact hW
    rcases (show k = 1 ∨ k = 2 ∨ k = 3 by omega) with rfl | rfl | rfl
    · refine vx_catch (own := RL) (name := "java/lang/IndexOutOfBoundsException") (E := "java/lang/IndexOutOfBoundsException") hown [] ⟨0, 10, 13, 13⟩ [⟨0, 10, 17, 15⟩, ⟨0, 10, 21, 17⟩] htab (fun z9 h9 => absurd h9 List.not_mem_nil) (by decide) (by decide) (hts (.classLink RL 13 "java/lang/IndexOutOfBoundsException") (List.mem_of_getElem? (i := 1) rfl)) (va_Nw.use rfl hKX.2.2.2.2.2.2.2.1) hce hcv hcl ?_
      refine lv_astore (lv' := [(4, .ref q9), (0, .ref (E 0)), (1, .int a1), (2, .int a2), (3, .ref o)]) hx hb dL_hoist_13 hl (by decide) rfl (fun ls hl => ?_)
      refine lv_iconst (v := 1) hx hb dL_hoist_15 (by decide) ?_
      refine W.widen (k := 2) (n := 12) (Nat.le_of_ble_eq_true rfl) (Nat.le_of_ble_eq_true rfl) ?_
      exact W.iret hx hb hr (fun t ht hW9 => ⟨⟨rfl, by rw [ht]; exact ⟨⟨E, rfl, hW⟩, fj, hO, fun h9 => absurd h9 c3⟩⟩, tc_F hS ht⟩) hS.2.2 dL_hoist_16
    · refine vx_catch (own := RL) (name := "java/lang/IllegalArgumentException") (E := "java/lang/IllegalArgumentException") hown [⟨0, 10, 13, 13⟩] ⟨0, 10, 17, 15⟩ [⟨0, 10, 21, 17⟩] htab (fun z9 h9 => by rw [List.mem_singleton.mp h9]; exact Or.inr ⟨by decide, "java/lang/IndexOutOfBoundsException", (hts (.classLink RL 13 "java/lang/IndexOutOfBoundsException") (List.mem_of_getElem? (i := 1) rfl)), hKL.2.1⟩) (by decide) (by decide) (hts (.classLink RL 15 "java/lang/IllegalArgumentException") (List.mem_of_getElem? (i := 2) rfl)) (va_Nw.use rfl hKX.2.2.2.2.2.2.2.2.1) hce hcv hcl ?_
      refine lv_astore (lv' := [(4, .ref q9), (0, .ref (E 0)), (1, .int a1), (2, .int a2), (3, .ref o)]) hx hb dL_hoist_17 hl (by decide) rfl (fun ls hl => ?_)
      refine lv_iconst (v := 2) hx hb dL_hoist_19 (by decide) ?_
      refine W.widen (k := 2) (n := 12) (Nat.le_of_ble_eq_true rfl) (Nat.le_of_ble_eq_true rfl) ?_
      exact W.iret hx hb hr (fun t ht hW9 => ⟨⟨rfl, by rw [ht]; exact ⟨⟨E, rfl, hW⟩, fj, hO, fun h9 => absurd h9 c3⟩⟩, tc_F hS ht⟩) hS.2.2 dL_hoist_20
    · refine vx_catch (own := RL) (name := "java/lang/IllegalStateException") (E := "java/lang/IllegalStateException") hown [⟨0, 10, 13, 13⟩, ⟨0, 10, 17, 15⟩] ⟨0, 10, 21, 17⟩ [] htab (fun z9 h9 => (List.mem_cons.mp h9).elim (fun h9 => by rw [h9]; exact Or.inr ⟨by decide, "java/lang/IndexOutOfBoundsException", (hts (.classLink RL 13 "java/lang/IndexOutOfBoundsException") (List.mem_of_getElem? (i := 1) rfl)), hKL.2.2.1⟩) (fun h9 => by rw [List.mem_singleton.mp h9]; exact Or.inr ⟨by decide, "java/lang/IllegalArgumentException", (hts (.classLink RL 15 "java/lang/IllegalArgumentException") (List.mem_of_getElem? (i := 2) rfl)), hKL.2.2.2⟩)) (by decide) (by decide) (hts (.classLink RL 17 "java/lang/IllegalStateException") (List.mem_of_getElem? (i := 3) rfl)) (va_Nw.use rfl hKX.2.2.2.2.2.2.2.2.2.1) hce hcv hcl ?_
      refine lv_astore (lv' := [(4, .ref q9), (0, .ref (E 0)), (1, .int a1), (2, .int a2), (3, .ref o)]) hx hb dL_hoist_21 hl (by decide) rfl (fun ls hl => ?_)
      refine lv_iconst (v := 3) hx hb dL_hoist_23 (by decide) ?_
      refine W.widen (k := 2) (n := 12) (Nat.le_of_ble_eq_true rfl) (Nat.le_of_ble_eq_true rfl) ?_
      exact W.iret hx hb hr (fun t ht hW9 => ⟨⟨rfl, by rw [ht]; exact ⟨⟨E, rfl, hW⟩, fj, hO, fun h9 => absurd h9 c3⟩⟩, tc_F hS ht⟩) hS.2.2 dL_hoist_24
  · subst c3
    have hO := hO.kept (o1 o hO.lt ho)
    obtain ⟨E9, hE9, hW⟩ : ∃ E9 : Nat → Nat, E9 0 = E 0 ∧ tc_WC D cU cO e0 A E9 z H := ⟨E, rfl, hW⟩
    refine lv_i2l hx hb dL_hoist_8 rfl ?_
    refine tc_last hx hb hKL.1 hO hS (Or.inr rfl) 0 rfl (by decide) dL_hoist_9 (fun H locs hO z2 o2 hS => ?_)
    have hW := hW.kept2 (fun j9 hj9 => o2 _ (fun h9 => ho (by rw [← h9]; exact hW.own hj9)))
    refine lv_goto (tgt := 25) hx hb dL_hoist_10 (by decide) ?_
    refine lv_iconst (v := 0) hx hb dL_hoist_25 (by decide) ?_
    refine W.widen (k := 2) (n := 12) (Nat.le_of_ble_eq_true rfl) (Nat.le_of_ble_eq_true rfl) ?_
    exact W.iret hx hb hr (fun t ht hW9 => ⟨⟨rfl, by rw [ht]; exact ⟨⟨E9, hE9, hW⟩, _, hO, fun _ => rfl⟩⟩, tc_F hS ht⟩) hS.2.2 dL_hoist_26
set_option maxHeartbeats 4000000 in
set_option maxRecDepth 100000 in
theorem mt_L_take (l : Launch) (hst : l.stackTraces = false) (D : va_G) (cU cO cI cJ : ClassId) (e0 : Nat) (A : Nat → Prop) (E : Nat → Nat) (x : tc_X) (o : Nat) (fj : Nat → Int64) (a1 : Int32) (k : Nat) (r : Int32) (z : tc_X) (ho : ¬ A o) (hk : k = 0 ∨ k = 1 ∨ k = 3) (hzx : k ≠ 0 → z = x) (hF : f_X2_take x a1 = some (k, r, z)) : Met l yL_take wsL_take ({ frames := 8, cells := 2, slots := 12, locals := 126 } : Room) (va_Pc [.ref (E 0), .int a1, .ref o] (fun U => tc_WC D cU cO e0 A E x U.heap ∧ tc_KX D cU cO cI e0 A U ∧ tc_KL D cJ U ∧ va_at D vwCl (o, .inl (cJ, 1, .inr (.inl fj))) U.heap)) (tc_Qw (some (.int (tc_c13 k))) (fun H9 => (∃ E9 : Nat → Nat, E9 0 = E 0 ∧ tc_WC D cU cO e0 A E9 z H9) ∧ ∃ fj9 : Nat → Int64, va_at D vwCl (o, .inl (cJ, 1, .inr (.inl fj9))) H9 ∧ (k = 0 → fj9 0 = r.toInt64)) (fun z9 => A z9 ∨ z9 = o)) 2 12 (fun z9 => A z9 ∨ z9 = o) := by
  refine va_MetW (cc := cL_take) (maxL := 4) (ret := (some .int)) (by decide) rfl ?_
  intro p e s m args below meth c s₁ B hml hv
  obtain ⟨rfl, hW, hKX, hKL, hO⟩ := hv
  have hx := B.exec
  have hb := B.bytes
  have hr := B.returns
  have hts := atoms_spec (ws := wsL_take) B.pre
  have hown : s.vm.findClass RL = some m.cls := findClass_of_methodNamed B.named
  have hlocks := B.notSynchronized
  have htab := vx_table (x := yL_take) B (hts _ List.mem_cons_self)
  have hK := hKX.1.1
  have hS0 : va_S A s.heap s.heap [] := va_S.rf
  have hS : va_S (fun z9 => A z9 ∨ z9 = o) s.heap s.heap [] := va_S.rf
  have hl := lv_entry ([.ref (E 0), .int a1, .ref o]) (n := 4) (Nat.le_of_ble_eq_true rfl)
  rw [lg_entry_eq]
  generalize (lg_sl ([.ref (E 0), .int a1, .ref o]) ++ List.replicate (4 - (lg_sl ([.ref (E 0), .int a1, .ref o])).length) Slot.unset).toArray = ls at hl ⊢
  have hl : lv_has ls 4 [(0, .ref (E 0)), (1, .int a1), (2, .ref o)] := hl
  refine lv_aload_n hx hb dL_take_0 rfl (lv_at hl 2 rfl) ?_
  refine lv_iconst (v := 0) hx hb dL_take_1 (by decide) ?_
  refine lv_aload_n hx hb dL_take_2 rfl (lv_at hl 0 rfl) ?_
  refine lv_iload_n hx hb dL_take_3 rfl (lv_at hl 1 rfl) ?_
  refine tc_cx (vx_runV (As := [.int a1]) (rest := [.int 0, .ref o]) ⟨hx, hb, hml, hown, hts⟩ (mt_X2_take l hst D cU cO cI e0 A E x a1 k r z hF) (cwV 1 hts gL_take_X2_take rfl rfl rfl (by decide +kernel) ⟨Nat.le_of_ble_eq_true rfl, Nat.le_of_ble_eq_true rfl⟩) ⟨fun a U g mk q => ⟨q.1, q.2.1, q.2.2.call⟩, tc_rcv hW.o hK rfl, fun U hU hW9 => ⟨rfl, by rw [hU]; exact hW, hKX.go hS0 hU hW9⟩⟩ rfl rfl hl.1 rfl (lv_room (Nat.le_of_ble_eq_true rfl)) dL_take_4 ⟨Nat.le_of_ble_eq_true rfl, Nat.le_of_ble_eq_true rfl⟩) hS (fun _ _ h => Or.inl h) (fun _ h => Or.inl h) (fun _ _ h => Or.inl h) (fun ce q9 H locs c3 hW z1 o1 hS hce hcv hcl => ?_) (fun H locs c3 hW z1 o1 hS => ?_)
  · have hO := hO.kept (o1 o hO.lt ho)
    have hW : tc_WC D cU cO e0 A E z H := by rw [hzx c3]; exact hW
    rcases (show k = 1 ∨ k = 3 by omega) with rfl | rfl
    · refine vx_catch (own := RL) (name := "java/lang/IndexOutOfBoundsException") (E := "java/lang/IndexOutOfBoundsException") hown [] ⟨0, 9, 12, 13⟩ [⟨0, 9, 15, 17⟩] htab (fun z9 h9 => absurd h9 List.not_mem_nil) (by decide) (by decide) (hts (.classLink RL 13 "java/lang/IndexOutOfBoundsException") (List.mem_of_getElem? (i := 1) rfl)) (va_Nw.use rfl hKX.2.2.2.2.2.2.2.1) hce hcv hcl ?_
      refine lv_astore_n (lv' := [(3, .ref q9), (0, .ref (E 0)), (1, .int a1), (2, .ref o)]) hx hb dL_take_12 rfl hl (by decide) rfl (fun ls hl => ?_)
      refine lv_iconst (v := 1) hx hb dL_take_13 (by decide) ?_
      refine W.widen (k := 2) (n := 12) (Nat.le_of_ble_eq_true rfl) (Nat.le_of_ble_eq_true rfl) ?_
      exact W.iret hx hb hr (fun t ht hW9 => ⟨⟨rfl, by rw [ht]; exact ⟨⟨E, rfl, hW⟩, fj, hO, fun h9 => absurd h9 c3⟩⟩, tc_F hS ht⟩) hS.2.2 dL_take_14
    · refine vx_catch (own := RL) (name := "java/lang/IllegalStateException") (E := "java/lang/IllegalStateException") hown [⟨0, 9, 12, 13⟩] ⟨0, 9, 15, 17⟩ [] htab (fun z9 h9 => by rw [List.mem_singleton.mp h9]; exact Or.inr ⟨by decide, "java/lang/IndexOutOfBoundsException", (hts (.classLink RL 13 "java/lang/IndexOutOfBoundsException") (List.mem_of_getElem? (i := 1) rfl)), hKL.2.2.1⟩) (by decide) (by decide) (hts (.classLink RL 17 "java/lang/IllegalStateException") (List.mem_of_getElem? (i := 2) rfl)) (va_Nw.use rfl hKX.2.2.2.2.2.2.2.2.2.1) hce hcv hcl ?_
      refine lv_astore_n (lv' := [(3, .ref q9), (0, .ref (E 0)), (1, .int a1), (2, .ref o)]) hx hb dL_take_15 rfl hl (by decide) rfl (fun ls hl => ?_)
      refine lv_iconst (v := 2) hx hb dL_take_16 (by decide) ?_
      refine W.widen (k := 2) (n := 12) (Nat.le_of_ble_eq_true rfl) (Nat.le_of_ble_eq_true rfl) ?_
      exact W.iret hx hb hr (fun t ht hW9 => ⟨⟨rfl, by rw [ht]; exact ⟨⟨E, rfl, hW⟩, fj, hO, fun h9 => absurd h9 c3⟩⟩, tc_F hS ht⟩) hS.2.2 dL_take_17
  · subst c3
    have hO := hO.kept (o1 o hO.lt ho)
    obtain ⟨E9, hE9, hW⟩ : ∃ E9 : Nat → Nat, E9 0 = E 0 ∧ tc_WC D cU cO e0 A E9 z H := ⟨E, rfl, hW⟩
    refine lv_i2l hx hb dL_take_7 rfl ?_
    refine tc_last hx hb hKL.1 hO hS (Or.inr rfl) 0 rfl (by decide) dL_take_8 (fun H locs hO z2 o2 hS => ?_)
    have hW := hW.kept2 (fun j9 hj9 => o2 _ (fun h9 => ho (by rw [← h9]; exact hW.own hj9)))
    refine lv_goto (tgt := 18) hx hb dL_take_9 (by decide) ?_
    refine lv_iconst (v := 0) hx hb dL_take_18 (by decide) ?_
    refine W.widen (k := 2) (n := 12) (Nat.le_of_ble_eq_true rfl) (Nat.le_of_ble_eq_true rfl) ?_
    exact W.iret hx hb hr (fun t ht hW9 => ⟨⟨rfl, by rw [ht]; exact ⟨⟨E9, hE9, hW⟩, _, hO, fun _ => rfl⟩⟩, tc_F hS ht⟩) hS.2.2 dL_take_19
set_option maxHeartbeats 4000000 in
set_option maxRecDepth 100000 in
theorem mt_L_lay (l : Launch) (hst : l.stackTraces = false) (D : va_G) (cU cO cI cJ : ClassId) (e0 : Nat) (A : Nat → Prop) (E : Nat → Nat) (x : tc_X) (o : Nat) (fj : Nat → Int64) (a1 : Int32) (k : Nat) (r : Int32) (z : tc_X) (ho : ¬ A o) (hk : k = 0 ∨ k = 1 ∨ k = 3) (hzx : k ≠ 0 → z = x) (hF : f_X2_lay x a1 = some (k, r, z)) : Met l yL_lay wsL_lay ({ frames := 8, cells := 2, slots := 12, locals := 131 } : Room) (va_Pc [.ref (E 0), .int a1, .ref o] (fun U => tc_WC D cU cO e0 A E x U.heap ∧ tc_KX D cU cO cI e0 A U ∧ tc_KL D cJ U ∧ va_at D vwCl (o, .inl (cJ, 1, .inr (.inl fj))) U.heap)) (tc_Qw (some (.int (tc_c13 k))) (fun H9 => (∃ E9 : Nat → Nat, E9 0 = E 0 ∧ tc_WC D cU cO e0 A E9 z H9) ∧ ∃ fj9 : Nat → Int64, va_at D vwCl (o, .inl (cJ, 1, .inr (.inl fj9))) H9 ∧ (k = 0 → fj9 0 = r.toInt64)) (fun z9 => A z9 ∨ z9 = o)) 2 12 (fun z9 => A z9 ∨ z9 = o) := by
  refine va_MetW (cc := cL_lay) (maxL := 4) (ret := (some .int)) (by decide) rfl ?_
  intro p e s m args below meth c s₁ B hml hv
  obtain ⟨rfl, hW, hKX, hKL, hO⟩ := hv
  have hx := B.exec
  have hb := B.bytes
  have hr := B.returns
  have hts := atoms_spec (ws := wsL_lay) B.pre
  have hown : s.vm.findClass RL = some m.cls := findClass_of_methodNamed B.named
  have hlocks := B.notSynchronized
  have htab := vx_table (x := yL_lay) B (hts _ List.mem_cons_self)
  have hK := hKX.1.1
  have hS0 : va_S A s.heap s.heap [] := va_S.rf
  have hS : va_S (fun z9 => A z9 ∨ z9 = o) s.heap s.heap [] := va_S.rf
  have hl := lv_entry ([.ref (E 0), .int a1, .ref o]) (n := 4) (Nat.le_of_ble_eq_true rfl)
  rw [lg_entry_eq]
  generalize (lg_sl ([.ref (E 0), .int a1, .ref o]) ++ List.replicate (4 - (lg_sl ([.ref (E 0), .int a1, .ref o])).length) Slot.unset).toArray = ls at hl ⊢
  have hl : lv_has ls 4 [(0, .ref (E 0)), (1, .int a1), (2, .ref o)] := hl
  refine lv_aload_n hx hb dL_lay_0 rfl (lv_at hl 2 rfl) ?_
  refine lv_iconst (v := 0) hx hb dL_lay_1 (by decide) ?_
  refine lv_aload_n hx hb dL_lay_2 rfl (lv_at hl 0 rfl) ?_
  refine lv_iload_n hx hb dL_lay_3 rfl (lv_at hl 1 rfl) ?_
  refine tc_cx (vx_runV (As := [.int a1]) (rest := [.int 0, .ref o]) ⟨hx, hb, hml, hown, hts⟩ (mt_X2_lay l hst D cU cO cI e0 A E x a1 k r z hF) (cwV 1 hts gL_lay_X2_lay rfl rfl rfl (by decide +kernel) ⟨Nat.le_of_ble_eq_true rfl, Nat.le_of_ble_eq_true rfl⟩) ⟨fun a U g mk q => ⟨q.1, q.2.1, q.2.2.call⟩, tc_rcv hW.o hK rfl, fun U hU hW9 => ⟨rfl, by rw [hU]; exact hW, hKX.go hS0 hU hW9⟩⟩ rfl rfl hl.1 rfl (lv_room (Nat.le_of_ble_eq_true rfl)) dL_lay_4 ⟨Nat.le_of_ble_eq_true rfl, Nat.le_of_ble_eq_true rfl⟩) hS (fun _ _ h => Or.inl h) (fun _ h => Or.inl h) (fun _ _ h => Or.inl h) (fun ce q9 H locs c3 hW z1 o1 hS hce hcv hcl => ?_) (fun H locs c3 hW z1 o1 hS => ?_)
  · have hO := hO.kept (o1 o hO.lt ho)
    have hW : tc_WC D cU cO e0 A E z H := by rw [hzx c3]; exact hW
    rcases (show k = 1 ∨ k = 3 by omega) with rfl | rfl
    · refine vx_catch (own := RL) (name := "java/lang/IndexOutOfBoundsException") (E := "java/lang/IndexOutOfBoundsException") hown [] ⟨0, 9, 12, 13⟩ [⟨0, 9, 15, 17⟩] htab (fun z9 h9 => absurd h9 List.not_mem_nil) (by decide) (by decide) (hts (.classLink RL 13 "java/lang/IndexOutOfBoundsException") (List.mem_of_getElem? (i := 1) rfl)) (va_Nw.use rfl hKX.2.2.2.2.2.2.2.1) hce hcv hcl ?_
      refine lv_astore_n (lv' := [(3, .ref q9), (0, .ref (E 0)), (1, .int a1), (2, .ref o)]) hx hb dL_lay_12 rfl hl (by decide) rfl (fun ls hl => ?_)
      refine lv_iconst (v := 1) hx hb dL_lay_13 (by decide) ?_
      refine W.widen (k := 2) (n := 12) (Nat.le_of_ble_eq_true rfl) (Nat.le_of_ble_eq_true rfl) ?_
      exact W.iret hx hb hr (fun t ht hW9 => ⟨⟨rfl, by rw [ht]; exact ⟨⟨E, rfl, hW⟩, fj, hO, fun h9 => absurd h9 c3⟩⟩, tc_F hS ht⟩) hS.2.2 dL_lay_14
    · refine vx_catch (own := RL) (name := "java/lang/IllegalStateException") (E := "java/lang/IllegalStateException") hown [⟨0, 9, 12, 13⟩] ⟨0, 9, 15, 17⟩ [] htab (fun z9 h9 => by rw [List.mem_singleton.mp h9]; exact Or.inr ⟨by decide, "java/lang/IndexOutOfBoundsException", (hts (.classLink RL 13 "java/lang/IndexOutOfBoundsException") (List.mem_of_getElem? (i := 1) rfl)), hKL.2.2.1⟩) (by decide) (by decide) (hts (.classLink RL 17 "java/lang/IllegalStateException") (List.mem_of_getElem? (i := 2) rfl)) (va_Nw.use rfl hKX.2.2.2.2.2.2.2.2.2.1) hce hcv hcl ?_
      refine lv_astore_n (lv' := [(3, .ref q9), (0, .ref (E 0)), (1, .int a1), (2, .ref o)]) hx hb dL_lay_15 rfl hl (by decide) rfl (fun ls hl => ?_)
      refine lv_iconst (v := 2) hx hb dL_lay_16 (by decide) ?_
      refine W.widen (k := 2) (n := 12) (Nat.le_of_ble_eq_true rfl) (Nat.le_of_ble_eq_true rfl) ?_
      exact W.iret hx hb hr (fun t ht hW9 => ⟨⟨rfl, by rw [ht]; exact ⟨⟨E, rfl, hW⟩, fj, hO, fun h9 => absurd h9 c3⟩⟩, tc_F hS ht⟩) hS.2.2 dL_lay_17
  · subst c3
    have hO := hO.kept (o1 o hO.lt ho)
    obtain ⟨E9, hE9, hW⟩ : ∃ E9 : Nat → Nat, E9 0 = E 0 ∧ tc_WC D cU cO e0 A E9 z H := ⟨E, rfl, hW⟩
    refine lv_i2l hx hb dL_lay_7 rfl ?_
    refine tc_last hx hb hKL.1 hO hS (Or.inr rfl) 0 rfl (by decide) dL_lay_8 (fun H locs hO z2 o2 hS => ?_)
    have hW := hW.kept2 (fun j9 hj9 => o2 _ (fun h9 => ho (by rw [← h9]; exact hW.own hj9)))
    refine lv_goto (tgt := 18) hx hb dL_lay_9 (by decide) ?_
    refine lv_iconst (v := 0) hx hb dL_lay_18 (by decide) ?_
    refine W.widen (k := 2) (n := 12) (Nat.le_of_ble_eq_true rfl) (Nat.le_of_ble_eq_true rfl) ?_
    exact W.iret hx hb hr (fun t ht hW9 => ⟨⟨rfl, by rw [ht]; exact ⟨⟨E9, hE9, hW⟩, _, hO, fun _ => rfl⟩⟩, tc_F hS ht⟩) hS.2.2 dL_lay_19
set_option maxHeartbeats 4000000 in
set_option maxRecDepth 100000 in
theorem mt_L_place (l : Launch) (hst : l.stackTraces = false) (D : va_G) (cU cO cI cJ : ClassId) (e0 : Nat) (A : Nat → Prop) (E : Nat → Nat) (x : tc_X) (o : Nat) (fj : Nat → Int64) (a1 a2 : Int32) (k : Nat) (r : Int32) (ho : ¬ A o) (hk : k ≤ 1) (hF : f_X2_place x a1 a2 = some (k, r)) : Met l yL_place wsL_place ({ frames := 8, cells := 2, slots := 12, locals := 134 } : Room) (va_Pc [.ref (E 0), .int a1, .int a2, .ref o] (fun U => tc_WC D cU cO e0 A E x U.heap ∧ tc_KX D cU cO cI e0 A U ∧ tc_KL D cJ U ∧ va_at D vwCl (o, .inl (cJ, 1, .inr (.inl fj))) U.heap)) (tc_Qw (some (.int (tc_c3 k))) (fun H9 => (∃ E9 : Nat → Nat, E9 0 = E 0 ∧ tc_WC D cU cO e0 A E9 x H9) ∧ ∃ fj9 : Nat → Int64, va_at D vwCl (o, .inl (cJ, 1, .inr (.inl fj9))) H9 ∧ (k = 0 → fj9 0 = r.toInt64)) (fun z9 => A z9 ∨ z9 = o)) 2 12 (fun z9 => A z9 ∨ z9 = o) := by
  refine va_MetW (cc := cL_place) (maxL := 5) (ret := (some .int)) (by decide) rfl ?_
  intro p e s m args below meth c s₁ B hml hv
  obtain ⟨rfl, hW, hKX, hKL, hO⟩ := hv
  have hx := B.exec
  have hb := B.bytes
  have hr := B.returns
  have hts := atoms_spec (ws := wsL_place) B.pre
  have hown : s.vm.findClass RL = some m.cls := findClass_of_methodNamed B.named
  have hlocks := B.notSynchronized
  have htab := vx_table (x := yL_place) B (hts _ List.mem_cons_self)
  have hK := hKX.1.1
  have hS0 : va_S A s.heap s.heap [] := va_S.rf
  have hS : va_S (fun z9 => A z9 ∨ z9 = o) s.heap s.heap [] := va_S.rf
  have hl := lv_entry ([.ref (E 0), .int a1, .int a2, .ref o]) (n := 5) (Nat.le_of_ble_eq_true rfl)
  rw [lg_entry_eq]
  generalize (lg_sl ([.ref (E 0), .int a1, .int a2, .ref o]) ++ List.replicate (5 - (lg_sl ([.ref (E 0), .int a1, .int a2, .ref o])).length) Slot.unset).toArray = ls at hl ⊢
  have hl : lv_has ls 5 [(0, .ref (E 0)), (1, .int a1), (2, .int a2), (3, .ref o)] := hl
  refine lv_aload_n hx hb dL_place_0 rfl (lv_at hl 3 rfl) ?_
  refine lv_iconst (v := 0) hx hb dL_place_1 (by decide) ?_
  refine lv_aload_n hx hb dL_place_2 rfl (lv_at hl 0 rfl) ?_
  refine lv_iload_n hx hb dL_place_3 rfl (lv_at hl 1 rfl) ?_
  refine lv_iload_n hx hb dL_place_4 rfl (lv_at hl 2 rfl) ?_
  refine tc_cx (vx_runV (As := [.int a1, .int a2]) (rest := [.int 0, .ref o]) ⟨hx, hb, hml, hown, hts⟩ (mt_X2_place l hst D cU cO cI e0 A E x a1 a2 k r hF) (cwV 2 hts gL_place_X2_place rfl rfl rfl (by decide +kernel) ⟨Nat.le_of_ble_eq_true rfl, Nat.le_of_ble_eq_true rfl⟩) ⟨fun a U g mk q => ⟨q.1, q.2.1, q.2.2.call⟩, tc_rcv hW.o hK rfl, fun U hU hW9 => ⟨rfl, by rw [hU]; exact hW, hKX.go hS0 hU hW9⟩⟩ rfl rfl hl.1 rfl (lv_room (Nat.le_of_ble_eq_true rfl)) dL_place_5 ⟨Nat.le_of_ble_eq_true rfl, Nat.le_of_ble_eq_true rfl⟩) hS (fun _ _ h => Or.inl h) (fun _ h => Or.inl h) (fun _ _ h => Or.inl h) (fun ce q9 H locs c3 hW z1 o1 hS hce hcv hcl => ?_) (fun H locs c3 hW z1 o1 hS => ?_)
  · have hO := hO.kept (o1 o hO.lt ho)
    have hW : tc_WC D cU cO e0 A E x H := by exact hW
    rcases (show k = 1 by omega) with rfl
    refine vx_catch (own := RL) (name := "java/lang/IndexOutOfBoundsException") (E := "java/lang/IndexOutOfBoundsException") hown [] ⟨0, 10, 13, 13⟩ [] htab (fun z9 h9 => absurd h9 List.not_mem_nil) (by decide) (by decide) (hts (.classLink RL 13 "java/lang/IndexOutOfBoundsException") (List.mem_of_getElem? (i := 1) rfl)) (va_Nw.use rfl hKX.2.2.2.2.2.2.2.1) hce hcv hcl ?_
    refine lv_astore (lv' := [(4, .ref q9), (0, .ref (E 0)), (1, .int a1), (2, .int a2), (3, .ref o)]) hx hb dL_place_13 hl (by decide) rfl (fun ls hl => ?_)
    refine lv_iconst (v := 1) hx hb dL_place_15 (by decide) ?_
    refine W.widen (k := 2) (n := 12) (Nat.le_of_ble_eq_true rfl) (Nat.le_of_ble_eq_true rfl) ?_
    exact W.iret hx hb hr (fun t ht hW9 => ⟨⟨rfl, by rw [ht]; exact ⟨⟨E, rfl, hW⟩, fj, hO, fun h9 => absurd h9 c3⟩⟩, tc_F hS ht⟩) hS.2.2 dL_place_16
  · subst c3
    have hO := hO.kept (o1 o hO.lt ho)
    obtain ⟨E9, hE9, hW⟩ : ∃ E9 : Nat → Nat, E9 0 = E 0 ∧ tc_WC D cU cO e0 A E9 x H := ⟨E, rfl, hW⟩
    refine lv_i2l hx hb dL_place_8 rfl ?_
    refine tc_last hx hb hKL.1 hO hS (Or.inr rfl) 0 rfl (by decide) dL_place_9 (fun H locs hO z2 o2 hS => ?_)
    have hW := hW.kept2 (fun j9 hj9 => o2 _ (fun h9 => ho (by rw [← h9]; exact hW.own hj9)))
    refine lv_goto (tgt := 17) hx hb dL_place_10 (by decide) ?_
    refine lv_iconst (v := 0) hx hb dL_place_17 (by decide) ?_
    refine W.widen (k := 2) (n := 12) (Nat.le_of_ble_eq_true rfl) (Nat.le_of_ble_eq_true rfl) ?_
    exact W.iret hx hb hr (fun t ht hW9 => ⟨⟨rfl, by rw [ht]; exact ⟨⟨E9, hE9, hW⟩, _, hO, fun _ => rfl⟩⟩, tc_F hS ht⟩) hS.2.2 dL_place_18
set_option maxHeartbeats 4000000 in
set_option maxRecDepth 100000 in
theorem mt_L_barrel (l : Launch) (hst : l.stackTraces = false) (D : va_G) (cU cO cI cJ : ClassId) (e0 : Nat) (A : Nat → Prop) (E : Nat → Nat) (x : tc_X) (o : Nat) (fj : Nat → Int64) (a1 a2 : Int32) (k : Nat) (r : Int32) (ho : ¬ A o) (hk : k ≤ 1) (hF : f_X2_barrel x a1 a2 = some (k, r)) : Met l yL_barrel wsL_barrel ({ frames := 8, cells := 1, slots := 6, locals := 129 } : Room) (va_Pc [.ref (E 0), .int a1, .int a2, .ref o] (fun U => tc_WC D cU cO e0 A E x U.heap ∧ tc_KX D cU cO cI e0 A U ∧ tc_KL D cJ U ∧ va_at D vwCl (o, .inl (cJ, 1, .inr (.inl fj))) U.heap)) (tc_Qw (some (.int (tc_c3 k))) (fun H9 => (∃ E9 : Nat → Nat, E9 0 = E 0 ∧ tc_WC D cU cO e0 A E9 x H9) ∧ ∃ fj9 : Nat → Int64, va_at D vwCl (o, .inl (cJ, 1, .inr (.inl fj9))) H9 ∧ (k = 0 → fj9 0 = r.toInt64)) (fun z9 => A z9 ∨ z9 = o)) 1 6 (fun z9 => A z9 ∨ z9 = o) := by
  refine va_MetW (cc := cL_barrel) (maxL := 5) (ret := (some .int)) (by decide) rfl ?_
  intro p e s m args below meth c s₁ B hml hv
  obtain ⟨rfl, hW, hKX, hKL, hO⟩ := hv
  have hx := B.exec
  have hb := B.bytes
  have hr := B.returns
  have hts := atoms_spec (ws := wsL_barrel) B.pre
  have hown : s.vm.findClass RL = some m.cls := findClass_of_methodNamed B.named
  have hlocks := B.notSynchronized
  have htab := vx_table (x := yL_barrel) B (hts _ List.mem_cons_self)
  have hK := hKX.1.1
  have hS0 : va_S A s.heap s.heap [] := va_S.rf
  have hS : va_S (fun z9 => A z9 ∨ z9 = o) s.heap s.heap [] := va_S.rf
  have hl := lv_entry ([.ref (E 0), .int a1, .int a2, .ref o]) (n := 5) (Nat.le_of_ble_eq_true rfl)
  rw [lg_entry_eq]
  generalize (lg_sl ([.ref (E 0), .int a1, .int a2, .ref o]) ++ List.replicate (5 - (lg_sl ([.ref (E 0), .int a1, .int a2, .ref o])).length) Slot.unset).toArray = ls at hl ⊢
  have hl : lv_has ls 5 [(0, .ref (E 0)), (1, .int a1), (2, .int a2), (3, .ref o)] := hl
  refine lv_aload_n hx hb dL_barrel_0 rfl (lv_at hl 3 rfl) ?_
  refine lv_iconst (v := 0) hx hb dL_barrel_1 (by decide) ?_
  refine lv_aload_n hx hb dL_barrel_2 rfl (lv_at hl 0 rfl) ?_
  refine lv_iload_n hx hb dL_barrel_3 rfl (lv_at hl 1 rfl) ?_
  refine lv_iload_n hx hb dL_barrel_4 rfl (lv_at hl 2 rfl) ?_
  refine tc_cx (vx_runV (As := [.int a1, .int a2]) (rest := [.int 0, .ref o]) ⟨hx, hb, hml, hown, hts⟩ (mt_X2_barrel l hst D cU cO cI e0 A E x a1 a2 k r hF) (cwV 2 hts gL_barrel_X2_barrel rfl rfl rfl (by decide +kernel) ⟨Nat.le_of_ble_eq_true rfl, Nat.le_of_ble_eq_true rfl⟩) ⟨fun a U g mk q => ⟨q.1, q.2.1, q.2.2.call⟩, tc_rcv hW.o hK rfl, fun U hU hW9 => ⟨rfl, by rw [hU]; exact hW, hKX.go hS0 hU hW9⟩⟩ rfl rfl hl.1 rfl (lv_room (Nat.le_of_ble_eq_true rfl)) dL_barrel_5 ⟨Nat.le_of_ble_eq_true rfl, Nat.le_of_ble_eq_true rfl⟩) hS (fun _ _ h => Or.inl h) (fun _ h => Or.inl h) (fun _ _ h => Or.inl h) (fun ce q9 H locs c3 hW z1 o1 hS hce hcv hcl => ?_) (fun H locs c3 hW z1 o1 hS => ?_)
  · have hO := hO.kept (o1 o hO.lt ho)
    have hW : tc_WC D cU cO e0 A E x H := by exact hW
    rcases (show k = 1 by omega) with rfl
    refine vx_catch (own := RL) (name := "java/lang/IndexOutOfBoundsException") (E := "java/lang/IndexOutOfBoundsException") hown [] ⟨0, 10, 13, 13⟩ [] htab (fun z9 h9 => absurd h9 List.not_mem_nil) (by decide) (by decide) (hts (.classLink RL 13 "java/lang/IndexOutOfBoundsException") (List.mem_of_getElem? (i := 1) rfl)) (va_Nw.use rfl hKX.2.2.2.2.2.2.2.1) hce hcv hcl ?_
    refine lv_astore (lv' := [(4, .ref q9), (0, .ref (E 0)), (1, .int a1), (2, .int a2), (3, .ref o)]) hx hb dL_barrel_13 hl (by decide) rfl (fun ls hl => ?_)
    refine lv_iconst (v := 1) hx hb dL_barrel_15 (by decide) ?_
    refine W.widen (k := 1) (n := 6) (Nat.le_of_ble_eq_true rfl) (Nat.le_of_ble_eq_true rfl) ?_
    exact W.iret hx hb hr (fun t ht hW9 => ⟨⟨rfl, by rw [ht]; exact ⟨⟨E, rfl, hW⟩, fj, hO, fun h9 => absurd h9 c3⟩⟩, tc_F hS ht⟩) hS.2.2 dL_barrel_16
  · subst c3
    have hO := hO.kept (o1 o hO.lt ho)
    obtain ⟨E9, hE9, hW⟩ : ∃ E9 : Nat → Nat, E9 0 = E 0 ∧ tc_WC D cU cO e0 A E9 x H := ⟨E, rfl, hW⟩
    refine lv_i2l hx hb dL_barrel_8 rfl ?_
    refine tc_last hx hb hKL.1 hO hS (Or.inr rfl) 0 rfl (by decide) dL_barrel_9 (fun H locs hO z2 o2 hS => ?_)
    have hW := hW.kept2 (fun j9 hj9 => o2 _ (fun h9 => ho (by rw [← h9]; exact hW.own hj9)))
    refine lv_goto (tgt := 17) hx hb dL_barrel_10 (by decide) ?_
    refine lv_iconst (v := 0) hx hb dL_barrel_17 (by decide) ?_
    refine W.widen (k := 1) (n := 6) (Nat.le_of_ble_eq_true rfl) (Nat.le_of_ble_eq_true rfl) ?_
    exact W.iret hx hb hr (fun t ht hW9 => ⟨⟨rfl, by rw [ht]; exact ⟨⟨E9, hE9, hW⟩, _, hO, fun _ => rfl⟩⟩, tc_F hS ht⟩) hS.2.2 dL_barrel_18
set_option maxHeartbeats 4000000 in
set_option maxRecDepth 100000 in
theorem mt_L_crane (l : Launch) (hst : l.stackTraces = false) (D : va_G) (cU cO cI cJ : ClassId) (e0 : Nat) (A : Nat → Prop) (E : Nat → Nat) (x : tc_X) (o : Nat) (fj : Nat → Int64) (a1 a2 : Int32) (k : Nat) (r : Int32) (ho : ¬ A o) (hk : k ≤ 1) (hF : f_X2_crane x a1 a2 = some (k, r)) : Met l yL_crane wsL_crane ({ frames := 8, cells := 2, slots := 12, locals := 125 } : Room) (va_Pc [.ref (E 0), .int a1, .int a2, .ref o] (fun U => tc_WC D cU cO e0 A E x U.heap ∧ tc_KX D cU cO cI e0 A U ∧ tc_KL D cJ U ∧ va_at D vwCl (o, .inl (cJ, 1, .inr (.inl fj))) U.heap)) (tc_Qw (some (.int (tc_c3 k))) (fun H9 => (∃ E9 : Nat → Nat, E9 0 = E 0 ∧ tc_WC D cU cO e0 A E9 x H9) ∧ ∃ fj9 : Nat → Int64, va_at D vwCl (o, .inl (cJ, 1, .inr (.inl fj9))) H9 ∧ (k = 0 → fj9 0 = r.toInt64)) (fun z9 => A z9 ∨ z9 = o)) 2 12 (fun z9 => A z9 ∨ z9 = o) := by
  refine va_MetW (cc := cL_crane) (maxL := 5) (ret := (some .int)) (by decide) rfl ?_
  intro p e s m args below meth c s₁ B hml hv
  obtain ⟨rfl, hW, hKX, hKL, hO⟩ := hv
  have hx := B.exec
  have hb := B.bytes
  have hr := B.returns
  have hts := atoms_spec (ws := wsL_crane) B.pre
  have hown : s.vm.findClass RL = some m.cls := findClass_of_methodNamed B.named
  have hlocks := B.notSynchronized
  have htab := vx_table (x := yL_crane) B (hts _ List.mem_cons_self)
  have hK := hKX.1.1
  have hS0 : va_S A s.heap s.heap [] := va_S.rf
  have hS : va_S (fun z9 => A z9 ∨ z9 = o) s.heap s.heap [] := va_S.rf
  have hl := lv_entry ([.ref (E 0), .int a1, .int a2, .ref o]) (n := 5) (Nat.le_of_ble_eq_true rfl)
  rw [lg_entry_eq]
  generalize (lg_sl ([.ref (E 0), .int a1, .int a2, .ref o]) ++ List.replicate (5 - (lg_sl ([.ref (E 0), .int a1, .int a2, .ref o])).length) Slot.unset).toArray = ls at hl ⊢
  have hl : lv_has ls 5 [(0, .ref (E 0)), (1, .int a1), (2, .int a2), (3, .ref o)] := hl
  refine lv_aload_n hx hb dL_crane_0 rfl (lv_at hl 3 rfl) ?_
  refine lv_iconst (v := 0) hx hb dL_crane_1 (by decide) ?_
  refine lv_aload_n hx hb dL_crane_2 rfl (lv_at hl 0 rfl) ?_
  refine lv_iload_n hx hb dL_crane_3 rfl (lv_at hl 1 rfl) ?_
  refine lv_iload_n hx hb dL_crane_4 rfl (lv_at hl 2 rfl) ?_
  refine tc_cx (vx_runV (As := [.int a1, .int a2]) (rest := [.int 0, .ref o]) ⟨hx, hb, hml, hown, hts⟩ (mt_X2_crane l hst D cU cO cI e0 A E x a1 a2 k r hF) (cwV 2 hts gL_crane_X2_crane rfl rfl rfl (by decide +kernel) ⟨Nat.le_of_ble_eq_true rfl, Nat.le_of_ble_eq_true rfl⟩) ⟨fun a U g mk q => ⟨q.1, q.2.1, q.2.2.call⟩, tc_rcv hW.o hK rfl, fun U hU hW9 => ⟨rfl, by rw [hU]; exact hW, hKX.go hS0 hU hW9⟩⟩ rfl rfl hl.1 rfl (lv_room (Nat.le_of_ble_eq_true rfl)) dL_crane_5 ⟨Nat.le_of_ble_eq_true rfl, Nat.le_of_ble_eq_true rfl⟩) hS (fun _ _ h => Or.inl h) (fun _ h => Or.inl h) (fun _ _ h => Or.inl h) (fun ce q9 H locs c3 hW z1 o1 hS hce hcv hcl => ?_) (fun H locs c3 hW z1 o1 hS => ?_)
  · have hO := hO.kept (o1 o hO.lt ho)
    have hW : tc_WC D cU cO e0 A E x H := by exact hW
    rcases (show k = 1 by omega) with rfl
    refine vx_catch (own := RL) (name := "java/lang/IndexOutOfBoundsException") (E := "java/lang/IndexOutOfBoundsException") hown [] ⟨0, 10, 13, 13⟩ [] htab (fun z9 h9 => absurd h9 List.not_mem_nil) (by decide) (by decide) (hts (.classLink RL 13 "java/lang/IndexOutOfBoundsException") (List.mem_of_getElem? (i := 1) rfl)) (va_Nw.use rfl hKX.2.2.2.2.2.2.2.1) hce hcv hcl ?_
    refine lv_astore (lv' := [(4, .ref q9), (0, .ref (E 0)), (1, .int a1), (2, .int a2), (3, .ref o)]) hx hb dL_crane_13 hl (by decide) rfl (fun ls hl => ?_)
    refine lv_iconst (v := 1) hx hb dL_crane_15 (by decide) ?_
    refine W.widen (k := 2) (n := 12) (Nat.le_of_ble_eq_true rfl) (Nat.le_of_ble_eq_true rfl) ?_
    exact W.iret hx hb hr (fun t ht hW9 => ⟨⟨rfl, by rw [ht]; exact ⟨⟨E, rfl, hW⟩, fj, hO, fun h9 => absurd h9 c3⟩⟩, tc_F hS ht⟩) hS.2.2 dL_crane_16
  · subst c3
    have hO := hO.kept (o1 o hO.lt ho)
    obtain ⟨E9, hE9, hW⟩ : ∃ E9 : Nat → Nat, E9 0 = E 0 ∧ tc_WC D cU cO e0 A E9 x H := ⟨E, rfl, hW⟩
    refine lv_i2l hx hb dL_crane_8 rfl ?_
    refine tc_last hx hb hKL.1 hO hS (Or.inr rfl) 0 rfl (by decide) dL_crane_9 (fun H locs hO z2 o2 hS => ?_)
    have hW := hW.kept2 (fun j9 hj9 => o2 _ (fun h9 => ho (by rw [← h9]; exact hW.own hj9)))
    refine lv_goto (tgt := 17) hx hb dL_crane_10 (by decide) ?_
    refine lv_iconst (v := 0) hx hb dL_crane_17 (by decide) ?_
    refine W.widen (k := 2) (n := 12) (Nat.le_of_ble_eq_true rfl) (Nat.le_of_ble_eq_true rfl) ?_
    exact W.iret hx hb hr (fun t ht hW9 => ⟨⟨rfl, by rw [ht]; exact ⟨⟨E9, hE9, hW⟩, _, hO, fun _ => rfl⟩⟩, tc_F hS ht⟩) hS.2.2 dL_crane_18
set_option maxHeartbeats 4000000 in
set_option maxRecDepth 100000 in
theorem mt_L_count (l : Launch) (hst : l.stackTraces = false) (D : va_G) (cU cO cI cJ : ClassId) (e0 : Nat) (A : Nat → Prop) (E : Nat → Nat) (x : tc_X) (o : Nat) (fj : Nat → Int64) (a1 : Int32) (k : Nat) (r : Int32) (ho : ¬ A o) (hk : k ≤ 1) (hF : f_X2_count x a1 = some (k, r)) : Met l yL_count wsL_count ({ frames := 8, cells := 1, slots := 6, locals := 151 } : Room) (va_Pc [.ref (E 0), .int a1, .ref o] (fun U => tc_WC D cU cO e0 A E x U.heap ∧ tc_KX D cU cO cI e0 A U ∧ tc_KL D cJ U ∧ va_at D vwCl (o, .inl (cJ, 1, .inr (.inl fj))) U.heap)) (tc_Qw (some (.int (tc_c3 k))) (fun H9 => (∃ E9 : Nat → Nat, E9 0 = E 0 ∧ tc_WC D cU cO e0 A E9 x H9) ∧ ∃ fj9 : Nat → Int64, va_at D vwCl (o, .inl (cJ, 1, .inr (.inl fj9))) H9 ∧ (k = 0 → fj9 0 = r.toInt64)) (fun z9 => A z9 ∨ z9 = o)) 1 6 (fun z9 => A z9 ∨ z9 = o) := by
  refine va_MetW (cc := cL_count) (maxL := 4) (ret := (some .int)) (by decide) rfl ?_
  intro p e s m args below meth c s₁ B hml hv
  obtain ⟨rfl, hW, hKX, hKL, hO⟩ := hv
  have hx := B.exec
  have hb := B.bytes
  have hr := B.returns
  have hts := atoms_spec (ws := wsL_count) B.pre
  have hown : s.vm.findClass RL = some m.cls := findClass_of_methodNamed B.named
  have hlocks := B.notSynchronized
  have htab := vx_table (x := yL_count) B (hts _ List.mem_cons_self)
  have hK := hKX.1.1
  have hS0 : va_S A s.heap s.heap [] := va_S.rf
  have hS : va_S (fun z9 => A z9 ∨ z9 = o) s.heap s.heap [] := va_S.rf
  have hl := lv_entry ([.ref (E 0), .int a1, .ref o]) (n := 4) (Nat.le_of_ble_eq_true rfl)
  rw [lg_entry_eq]
  generalize (lg_sl ([.ref (E 0), .int a1, .ref o]) ++ List.replicate (4 - (lg_sl ([.ref (E 0), .int a1, .ref o])).length) Slot.unset).toArray = ls at hl ⊢
  have hl : lv_has ls 4 [(0, .ref (E 0)), (1, .int a1), (2, .ref o)] := hl
  refine lv_aload_n hx hb dL_count_0 rfl (lv_at hl 2 rfl) ?_
  refine lv_iconst (v := 0) hx hb dL_count_1 (by decide) ?_
  refine lv_aload_n hx hb dL_count_2 rfl (lv_at hl 0 rfl) ?_
  refine lv_iload_n hx hb dL_count_3 rfl (lv_at hl 1 rfl) ?_
  refine tc_cx (vx_runV (As := [.int a1]) (rest := [.int 0, .ref o]) ⟨hx, hb, hml, hown, hts⟩ (mt_X2_count l hst D cU cO cI e0 A E x a1 k r hF) (cwV 1 hts gL_count_X2_count rfl rfl rfl (by decide +kernel) ⟨Nat.le_of_ble_eq_true rfl, Nat.le_of_ble_eq_true rfl⟩) ⟨fun a U g mk q => ⟨q.1, q.2.1, q.2.2.call⟩, tc_rcv hW.o hK rfl, fun U hU hW9 => ⟨rfl, by rw [hU]; exact hW, hKX.go hS0 hU hW9⟩⟩ rfl rfl hl.1 rfl (lv_room (Nat.le_of_ble_eq_true rfl)) dL_count_4 ⟨Nat.le_of_ble_eq_true rfl, Nat.le_of_ble_eq_true rfl⟩) hS (fun _ _ h => Or.inl h) (fun _ h => Or.inl h) (fun _ _ h => Or.inl h) (fun ce q9 H locs c3 hW z1 o1 hS hce hcv hcl => ?_) (fun H locs c3 hW z1 o1 hS => ?_)
  · have hO := hO.kept (o1 o hO.lt ho)
    have hW : tc_WC D cU cO e0 A E x H := by exact hW
    rcases (show k = 1 by omega) with rfl
    refine vx_catch (own := RL) (name := "java/lang/IndexOutOfBoundsException") (E := "java/lang/IndexOutOfBoundsException") hown [] ⟨0, 9, 12, 13⟩ [] htab (fun z9 h9 => absurd h9 List.not_mem_nil) (by decide) (by decide) (hts (.classLink RL 13 "java/lang/IndexOutOfBoundsException") (List.mem_of_getElem? (i := 1) rfl)) (va_Nw.use rfl hKX.2.2.2.2.2.2.2.1) hce hcv hcl ?_
    refine lv_astore_n (lv' := [(3, .ref q9), (0, .ref (E 0)), (1, .int a1), (2, .ref o)]) hx hb dL_count_12 rfl hl (by decide) rfl (fun ls hl => ?_)
    refine lv_iconst (v := 1) hx hb dL_count_13 (by decide) ?_
    refine W.widen (k := 1) (n := 6) (Nat.le_of_ble_eq_true rfl) (Nat.le_of_ble_eq_true rfl) ?_
    exact W.iret hx hb hr (fun t ht hW9 => ⟨⟨rfl, by rw [ht]; exact ⟨⟨E, rfl, hW⟩, fj, hO, fun h9 => absurd h9 c3⟩⟩, tc_F hS ht⟩) hS.2.2 dL_count_14
  · subst c3
    have hO := hO.kept (o1 o hO.lt ho)
    obtain ⟨E9, hE9, hW⟩ : ∃ E9 : Nat → Nat, E9 0 = E 0 ∧ tc_WC D cU cO e0 A E9 x H := ⟨E, rfl, hW⟩
    refine lv_i2l hx hb dL_count_7 rfl ?_
    refine tc_last hx hb hKL.1 hO hS (Or.inr rfl) 0 rfl (by decide) dL_count_8 (fun H locs hO z2 o2 hS => ?_)
    have hW := hW.kept2 (fun j9 hj9 => o2 _ (fun h9 => ho (by rw [← h9]; exact hW.own hj9)))
    refine lv_goto (tgt := 15) hx hb dL_count_9 (by decide) ?_
    refine lv_iconst (v := 0) hx hb dL_count_15 (by decide) ?_
    refine W.widen (k := 1) (n := 6) (Nat.le_of_ble_eq_true rfl) (Nat.le_of_ble_eq_true rfl) ?_
    exact W.iret hx hb hr (fun t ht hW9 => ⟨⟨rfl, by rw [ht]; exact ⟨⟨E9, hE9, hW⟩, _, hO, fun _ => rfl⟩⟩, tc_F hS ht⟩) hS.2.2 dL_count_16
set_option maxHeartbeats 4000000 in
set_option maxRecDepth 100000 in
theorem mt_L_move (l : Launch) (hst : l.stackTraces = false) (D : va_G) (cU cO cI cJ : ClassId) (e0 : Nat) (A : Nat → Prop) (E : Nat → Nat) (x : tc_X) (o : Nat) (fj : Nat → Int64) (a1 a2 a3 : Int32) (k : Nat) (r : Int32) (ho : ¬ A o) (hk : k ≤ 1) (hF : f_X2_move x a1 a2 a3 = some (k, r)) : Met l yL_move wsL_move ({ frames := 8, cells := 3, slots := 18, locals := 162 } : Room) (va_Pc [.ref (E 0), .int a1, .int a2, .int a3, .ref o] (fun U => tc_WC D cU cO e0 A E x U.heap ∧ tc_KX D cU cO cI e0 A U ∧ tc_KL D cJ U ∧ va_at D vwCl (o, .inl (cJ, 1, .inr (.inl fj))) U.heap)) (tc_Qw (some (.int (tc_c3 k))) (fun H9 => (∃ E9 : Nat → Nat, E9 0 = E 0 ∧ tc_WC D cU cO e0 A E9 x H9) ∧ ∃ fj9 : Nat → Int64, va_at D vwCl (o, .inl (cJ, 1, .inr (.inl fj9))) H9 ∧ (k = 0 → fj9 0 = r.toInt64)) (fun z9 => A z9 ∨ z9 = o)) 3 18 (fun z9 => A z9 ∨ z9 = o) := by
  refine va_MetW (cc := cL_move) (maxL := 6) (ret := (some .int)) (by decide) rfl ?_
  intro p e s m args below meth c s₁ B hml hv
  obtain ⟨rfl, hW, hKX, hKL, hO⟩ := hv
  have hx := B.exec
  have hb := B.bytes
  have hr := B.returns
  have hts := atoms_spec (ws := wsL_move) B.pre
  have hown : s.vm.findClass RL = some m.cls := findClass_of_methodNamed B.named
  have hlocks := B.notSynchronized
  have htab := vx_table (x := yL_move) B (hts _ List.mem_cons_self)
  have hK := hKX.1.1
  have hS0 : va_S A s.heap s.heap [] := va_S.rf
  have hS : va_S (fun z9 => A z9 ∨ z9 = o) s.heap s.heap [] := va_S.rf
  have hl := lv_entry ([.ref (E 0), .int a1, .int a2, .int a3, .ref o]) (n := 6) (Nat.le_of_ble_eq_true rfl)
  rw [lg_entry_eq]
  generalize (lg_sl ([.ref (E 0), .int a1, .int a2, .int a3, .ref o]) ++ List.replicate (6 - (lg_sl ([.ref (E 0), .int a1, .int a2, .int a3, .ref o])).length) Slot.unset).toArray = ls at hl ⊢
  have hl : lv_has ls 6 [(0, .ref (E 0)), (1, .int a1), (2, .int a2), (3, .int a3), (4, .ref o)] := hl
  refine lv_aload hx hb dL_move_0 (lv_at hl 4 rfl) ?_
  refine lv_iconst (v := 0) hx hb dL_move_2 (by decide) ?_
  refine lv_aload_n hx hb dL_move_3 rfl (lv_at hl 0 rfl) ?_
  refine lv_iload_n hx hb dL_move_4 rfl (lv_at hl 1 rfl) ?_
  refine lv_iload_n hx hb dL_move_5 rfl (lv_at hl 2 rfl) ?_
  refine lv_iload_n hx hb dL_move_6 rfl (lv_at hl 3 rfl) ?_
  refine tc_cx (vx_runV (As := [.int a1, .int a2, .int a3]) (rest := [.int 0, .ref o]) ⟨hx, hb, hml, hown, hts⟩ (mt_X2_move l hst D cU cO cI e0 A E x a1 a2 a3 k r hF) (cwV 3 hts gL_move_X2_move rfl rfl rfl (by decide +kernel) ⟨Nat.le_of_ble_eq_true rfl, Nat.le_of_ble_eq_true rfl⟩) ⟨fun a U g mk q => ⟨q.1, q.2.1, q.2.2.call⟩, tc_rcv hW.o hK rfl, fun U hU hW9 => ⟨rfl, by rw [hU]; exact hW, hKX.go hS0 hU hW9⟩⟩ rfl rfl hl.1 rfl (lv_room (Nat.le_of_ble_eq_true rfl)) dL_move_7 ⟨Nat.le_of_ble_eq_true rfl, Nat.le_of_ble_eq_true rfl⟩) hS (fun _ _ h => Or.inl h) (fun _ h => Or.inl h) (fun _ _ h => Or.inl h) (fun ce q9 H locs c3 hW z1 o1 hS hce hcv hcl => ?_) (fun H locs c3 hW z1 o1 hS => ?_)
  · have hO := hO.kept (o1 o hO.lt ho)
    have hW : tc_WC D cU cO e0 A E x H := by exact hW
    rcases (show k = 1 by omega) with rfl
    refine vx_catch (own := RL) (name := "java/lang/IndexOutOfBoundsException") (E := "java/lang/IndexOutOfBoundsException") hown [] ⟨0, 12, 15, 13⟩ [] htab (fun z9 h9 => absurd h9 List.not_mem_nil) (by decide) (by decide) (hts (.classLink RL 13 "java/lang/IndexOutOfBoundsException") (List.mem_of_getElem? (i := 1) rfl)) (va_Nw.use rfl hKX.2.2.2.2.2.2.2.1) hce hcv hcl ?_
    refine lv_astore (lv' := [(5, .ref q9), (0, .ref (E 0)), (1, .int a1), (2, .int a2), (3, .int a3), (4, .ref o)]) hx hb dL_move_15 hl (by decide) rfl (fun ls hl => ?_)
    refine lv_iconst (v := 1) hx hb dL_move_17 (by decide) ?_
    refine W.widen (k := 3) (n := 18) (Nat.le_of_ble_eq_true rfl) (Nat.le_of_ble_eq_true rfl) ?_
    exact W.iret hx hb hr (fun t ht hW9 => ⟨⟨rfl, by rw [ht]; exact ⟨⟨E, rfl, hW⟩, fj, hO, fun h9 => absurd h9 c3⟩⟩, tc_F hS ht⟩) hS.2.2 dL_move_18
  · subst c3
    have hO := hO.kept (o1 o hO.lt ho)
    obtain ⟨E9, hE9, hW⟩ : ∃ E9 : Nat → Nat, E9 0 = E 0 ∧ tc_WC D cU cO e0 A E9 x H := ⟨E, rfl, hW⟩
    refine lv_i2l hx hb dL_move_10 rfl ?_
    refine tc_last hx hb hKL.1 hO hS (Or.inr rfl) 0 rfl (by decide) dL_move_11 (fun H locs hO z2 o2 hS => ?_)
    have hW := hW.kept2 (fun j9 hj9 => o2 _ (fun h9 => ho (by rw [← h9]; exact hW.own hj9)))
    refine lv_goto (tgt := 19) hx hb dL_move_12 (by decide) ?_
    refine lv_iconst (v := 0) hx hb dL_move_19 (by decide) ?_
    refine W.widen (k := 3) (n := 18) (Nat.le_of_ble_eq_true rfl) (Nat.le_of_ble_eq_true rfl) ?_
    exact W.iret hx hb hr (fun t ht hW9 => ⟨⟨rfl, by rw [ht]; exact ⟨⟨E9, hE9, hW⟩, _, hO, fun _ => rfl⟩⟩, tc_F hS ht⟩) hS.2.2 dL_move_20
set_option maxHeartbeats 4000000 in
set_option maxRecDepth 100000 in
theorem mt_L_best (l : Launch) (hst : l.stackTraces = false) (D : va_G) (cU cO cI cJ : ClassId) (e0 : Nat) (A : Nat → Prop) (E : Nat → Nat) (x : tc_X) (o : Nat) (fj : Nat → Int64) (a1 a2 : Int32) (k : Nat) (r : Int32) (ho : ¬ A o) (hk : k ≤ 1) (hF : f_X2_best x a1 a2 = some (k, r)) : Met l yL_best wsL_best ({ frames := 8, cells := 2, slots := 12, locals := 165 } : Room) (va_Pc [.ref (E 0), .int a1, .int a2, .ref o] (fun U => tc_WC D cU cO e0 A E x U.heap ∧ tc_KX D cU cO cI e0 A U ∧ tc_KL D cJ U ∧ va_at D vwCl (o, .inl (cJ, 1, .inr (.inl fj))) U.heap)) (tc_Qw (some (.int (tc_c3 k))) (fun H9 => (∃ E9 : Nat → Nat, E9 0 = E 0 ∧ tc_WC D cU cO e0 A E9 x H9) ∧ ∃ fj9 : Nat → Int64, va_at D vwCl (o, .inl (cJ, 1, .inr (.inl fj9))) H9 ∧ (k = 0 → fj9 0 = r.toInt64)) (fun z9 => A z9 ∨ z9 = o)) 2 12 (fun z9 => A z9 ∨ z9 = o) := by
  refine va_MetW (cc := cL_best) (maxL := 5) (ret := (some .int)) (by decide) rfl ?_
  intro p e s m args below meth c s₁ B hml hv
  obtain ⟨rfl, hW, hKX, hKL, hO⟩ := hv
  have hx := B.exec
  have hb := B.bytes
  have hr := B.returns
  have hts := atoms_spec (ws := wsL_best) B.pre
  have hown : s.vm.findClass RL = some m.cls := findClass_of_methodNamed B.named
  have hlocks := B.notSynchronized
  have htab := vx_table (x := yL_best) B (hts _ List.mem_cons_self)
  have hK := hKX.1.1
  have hS0 : va_S A s.heap s.heap [] := va_S.rf
  have hS : va_S (fun z9 => A z9 ∨ z9 = o) s.heap s.heap [] := va_S.rf
  have hl := lv_entry ([.ref (E 0), .int a1, .int a2, .ref o]) (n := 5) (Nat.le_of_ble_eq_true rfl)
  rw [lg_entry_eq]
  generalize (lg_sl ([.ref (E 0), .int a1, .int a2, .ref o]) ++ List.replicate (5 - (lg_sl ([.ref (E 0), .int a1, .int a2, .ref o])).length) Slot.unset).toArray = ls at hl ⊢
  have hl : lv_has ls 5 [(0, .ref (E 0)), (1, .int a1), (2, .int a2), (3, .ref o)] := hl
  refine lv_aload_n hx hb dL_best_0 rfl (lv_at hl 3 rfl) ?_
  refine lv_iconst (v := 0) hx hb dL_best_1 (by decide) ?_
  refine lv_aload_n hx hb dL_best_2 rfl (lv_at hl 0 rfl) ?_
  refine lv_iload_n hx hb dL_best_3 rfl (lv_at hl 1 rfl) ?_
  refine lv_iload_n hx hb dL_best_4 rfl (lv_at hl 2 rfl) ?_
  refine tc_cx (vx_runV (As := [.int a1, .int a2]) (rest := [.int 0, .ref o]) ⟨hx, hb, hml, hown, hts⟩ (mt_X2_best l hst D cU cO cI e0 A E x a1 a2 k r hF) (cwV 2 hts gL_best_X2_best rfl rfl rfl (by decide +kernel) ⟨Nat.le_of_ble_eq_true rfl, Nat.le_of_ble_eq_true rfl⟩) ⟨fun a U g mk q => ⟨q.1, q.2.1, q.2.2.call⟩, tc_rcv hW.o hK rfl, fun U hU hW9 => ⟨rfl, by rw [hU]; exact hW, hKX.go hS0 hU hW9⟩⟩ rfl rfl hl.1 rfl (lv_room (Nat.le_of_ble_eq_true rfl)) dL_best_5 ⟨Nat.le_of_ble_eq_true rfl, Nat.le_of_ble_eq_true rfl⟩) hS (fun _ _ h => Or.inl h) (fun _ h => Or.inl h) (fun _ _ h => Or.inl h) (fun ce q9 H locs c3 hW z1 o1 hS hce hcv hcl => ?_) (fun H locs c3 hW z1 o1 hS => ?_)
  · have hO := hO.kept (o1 o hO.lt ho)
    have hW : tc_WC D cU cO e0 A E x H := by exact hW
    rcases (show k = 1 by omega) with rfl
    refine vx_catch (own := RL) (name := "java/lang/IndexOutOfBoundsException") (E := "java/lang/IndexOutOfBoundsException") hown [] ⟨0, 10, 13, 13⟩ [] htab (fun z9 h9 => absurd h9 List.not_mem_nil) (by decide) (by decide) (hts (.classLink RL 13 "java/lang/IndexOutOfBoundsException") (List.mem_of_getElem? (i := 1) rfl)) (va_Nw.use rfl hKX.2.2.2.2.2.2.2.1) hce hcv hcl ?_
    refine lv_astore (lv' := [(4, .ref q9), (0, .ref (E 0)), (1, .int a1), (2, .int a2), (3, .ref o)]) hx hb dL_best_13 hl (by decide) rfl (fun ls hl => ?_)
    refine lv_iconst (v := 1) hx hb dL_best_15 (by decide) ?_
    refine W.widen (k := 2) (n := 12) (Nat.le_of_ble_eq_true rfl) (Nat.le_of_ble_eq_true rfl) ?_
    exact W.iret hx hb hr (fun t ht hW9 => ⟨⟨rfl, by rw [ht]; exact ⟨⟨E, rfl, hW⟩, fj, hO, fun h9 => absurd h9 c3⟩⟩, tc_F hS ht⟩) hS.2.2 dL_best_16
  · subst c3
    have hO := hO.kept (o1 o hO.lt ho)
    obtain ⟨E9, hE9, hW⟩ : ∃ E9 : Nat → Nat, E9 0 = E 0 ∧ tc_WC D cU cO e0 A E9 x H := ⟨E, rfl, hW⟩
    refine lv_i2l hx hb dL_best_8 rfl ?_
    refine tc_last hx hb hKL.1 hO hS (Or.inr rfl) 0 rfl (by decide) dL_best_9 (fun H locs hO z2 o2 hS => ?_)
    have hW := hW.kept2 (fun j9 hj9 => o2 _ (fun h9 => ho (by rw [← h9]; exact hW.own hj9)))
    refine lv_goto (tgt := 17) hx hb dL_best_10 (by decide) ?_
    refine lv_iconst (v := 0) hx hb dL_best_17 (by decide) ?_
    refine W.widen (k := 2) (n := 12) (Nat.le_of_ble_eq_true rfl) (Nat.le_of_ble_eq_true rfl) ?_
    exact W.iret hx hb hr (fun t ht hW9 => ⟨⟨rfl, by rw [ht]; exact ⟨⟨E9, hE9, hW⟩, _, hO, fun _ => rfl⟩⟩, tc_F hS ht⟩) hS.2.2 dL_best_18
set_option maxHeartbeats 4000000 in
set_option maxRecDepth 100000 in
theorem mt_L_lasts (l : Launch) (hst : l.stackTraces = false) (D : va_G) (cU cO cI cJ : ClassId) (e0 : Nat) (A : Nat → Prop) (E : Nat → Nat) (x : tc_X) (o : Nat) (fj : Nat → Int64) (a1 a2 : Int32) (k : Nat) (r : Int32) (ho : ¬ A o) (hk : k ≤ 2) (hF : f_X2_lasts x a1 a2 = some (k, r)) : Met l yL_lasts wsL_lasts ({ frames := 8, cells := 2, slots := 12, locals := 126 } : Room) (va_Pc [.ref (E 0), .int a1, .int a2, .ref o] (fun U => tc_WC D cU cO e0 A E x U.heap ∧ tc_KX D cU cO cI e0 A U ∧ tc_KL D cJ U ∧ va_at D vwCl (o, .inl (cJ, 1, .inr (.inl fj))) U.heap)) (tc_Qw (some (.int (tc_c3 k))) (fun H9 => (∃ E9 : Nat → Nat, E9 0 = E 0 ∧ tc_WC D cU cO e0 A E9 x H9) ∧ ∃ fj9 : Nat → Int64, va_at D vwCl (o, .inl (cJ, 1, .inr (.inl fj9))) H9 ∧ (k = 0 → fj9 0 = r.toInt64)) (fun z9 => A z9 ∨ z9 = o)) 2 12 (fun z9 => A z9 ∨ z9 = o) := by
  refine va_MetW (cc := cL_lasts) (maxL := 5) (ret := (some .int)) (by decide) rfl ?_
  intro p e s m args below meth c s₁ B hml hv
  obtain ⟨rfl, hW, hKX, hKL, hO⟩ := hv
  have hx := B.exec
  have hb := B.bytes
  have hr := B.returns
  have hts := atoms_spec (ws := wsL_lasts) B.pre
  have hown : s.vm.findClass RL = some m.cls := findClass_of_methodNamed B.named
  have hlocks := B.notSynchronized
  have htab := vx_table (x := yL_lasts) B (hts _ List.mem_cons_self)
  have hK := hKX.1.1
  have hS0 : va_S A s.heap s.heap [] := va_S.rf
  have hS : va_S (fun z9 => A z9 ∨ z9 = o) s.heap s.heap [] := va_S.rf
  have hl := lv_entry ([.ref (E 0), .int a1, .int a2, .ref o]) (n := 5) (Nat.le_of_ble_eq_true rfl)
  rw [lg_entry_eq]
  generalize (lg_sl ([.ref (E 0), .int a1, .int a2, .ref o]) ++ List.replicate (5 - (lg_sl ([.ref (E 0), .int a1, .int a2, .ref o])).length) Slot.unset).toArray = ls at hl ⊢
  have hl : lv_has ls 5 [(0, .ref (E 0)), (1, .int a1), (2, .int a2), (3, .ref o)] := hl
  refine lv_aload_n hx hb dL_lasts_0 rfl (lv_at hl 3 rfl) ?_
  refine lv_iconst (v := 0) hx hb dL_lasts_1 (by decide) ?_
  refine lv_aload_n hx hb dL_lasts_2 rfl (lv_at hl 0 rfl) ?_
  refine lv_iload_n hx hb dL_lasts_3 rfl (lv_at hl 1 rfl) ?_
  refine lv_iload_n hx hb dL_lasts_4 rfl (lv_at hl 2 rfl) ?_
  refine tc_cx (vx_runV (As := [.int a1, .int a2]) (rest := [.int 0, .ref o]) ⟨hx, hb, hml, hown, hts⟩ (mt_X2_lasts l hst D cU cO cI e0 A E x a1 a2 k r hF) (cwV 2 hts gL_lasts_X2_lasts rfl rfl rfl (by decide +kernel) ⟨Nat.le_of_ble_eq_true rfl, Nat.le_of_ble_eq_true rfl⟩) ⟨fun a U g mk q => ⟨q.1, q.2.1, q.2.2.call⟩, tc_rcv hW.o hK rfl, fun U hU hW9 => ⟨rfl, by rw [hU]; exact hW, hKX.go hS0 hU hW9⟩⟩ rfl rfl hl.1 rfl (lv_room (Nat.le_of_ble_eq_true rfl)) dL_lasts_5 ⟨Nat.le_of_ble_eq_true rfl, Nat.le_of_ble_eq_true rfl⟩) hS (fun _ _ h => Or.inl h) (fun _ h => Or.inl h) (fun _ _ h => Or.inl h) (fun ce q9 H locs c3 hW z1 o1 hS hce hcv hcl => ?_) (fun H locs c3 hW z1 o1 hS => ?_)
  · have hO := hO.kept (o1 o hO.lt ho)
    have hW : tc_WC D cU cO e0 A E x H := by exact hW
    rcases (show k = 1 ∨ k = 2 by omega) with rfl | rfl
    · refine vx_catch (own := RL) (name := "java/lang/IndexOutOfBoundsException") (E := "java/lang/IndexOutOfBoundsException") hown [] ⟨0, 10, 13, 13⟩ [⟨0, 10, 17, 15⟩] htab (fun z9 h9 => absurd h9 List.not_mem_nil) (by decide) (by decide) (hts (.classLink RL 13 "java/lang/IndexOutOfBoundsException") (List.mem_of_getElem? (i := 1) rfl)) (va_Nw.use rfl hKX.2.2.2.2.2.2.2.1) hce hcv hcl ?_
      refine lv_astore (lv' := [(4, .ref q9), (0, .ref (E 0)), (1, .int a1), (2, .int a2), (3, .ref o)]) hx hb dL_lasts_13 hl (by decide) rfl (fun ls hl => ?_)
      refine lv_iconst (v := 1) hx hb dL_lasts_15 (by decide) ?_
      refine W.widen (k := 2) (n := 12) (Nat.le_of_ble_eq_true rfl) (Nat.le_of_ble_eq_true rfl) ?_
      exact W.iret hx hb hr (fun t ht hW9 => ⟨⟨rfl, by rw [ht]; exact ⟨⟨E, rfl, hW⟩, fj, hO, fun h9 => absurd h9 c3⟩⟩, tc_F hS ht⟩) hS.2.2 dL_lasts_16
    · refine vx_catch (own := RL) (name := "java/lang/IllegalArgumentException") (E := "java/lang/IllegalArgumentException") hown [⟨0, 10, 13, 13⟩] ⟨0, 10, 17, 15⟩ [] htab (fun z9 h9 => by rw [List.mem_singleton.mp h9]; exact Or.inr ⟨by decide, "java/lang/IndexOutOfBoundsException", (hts (.classLink RL 13 "java/lang/IndexOutOfBoundsException") (List.mem_of_getElem? (i := 1) rfl)), hKL.2.1⟩) (by decide) (by decide) (hts (.classLink RL 15 "java/lang/IllegalArgumentException") (List.mem_of_getElem? (i := 2) rfl)) (va_Nw.use rfl hKX.2.2.2.2.2.2.2.2.1) hce hcv hcl ?_
      refine lv_astore (lv' := [(4, .ref q9), (0, .ref (E 0)), (1, .int a1), (2, .int a2), (3, .ref o)]) hx hb dL_lasts_17 hl (by decide) rfl (fun ls hl => ?_)
      refine lv_iconst (v := 2) hx hb dL_lasts_19 (by decide) ?_
      refine W.widen (k := 2) (n := 12) (Nat.le_of_ble_eq_true rfl) (Nat.le_of_ble_eq_true rfl) ?_
      exact W.iret hx hb hr (fun t ht hW9 => ⟨⟨rfl, by rw [ht]; exact ⟨⟨E, rfl, hW⟩, fj, hO, fun h9 => absurd h9 c3⟩⟩, tc_F hS ht⟩) hS.2.2 dL_lasts_20
  · subst c3
    have hO := hO.kept (o1 o hO.lt ho)
    obtain ⟨E9, hE9, hW⟩ : ∃ E9 : Nat → Nat, E9 0 = E 0 ∧ tc_WC D cU cO e0 A E9 x H := ⟨E, rfl, hW⟩
    refine lv_i2l hx hb dL_lasts_8 rfl ?_
    refine tc_last hx hb hKL.1 hO hS (Or.inr rfl) 0 rfl (by decide) dL_lasts_9 (fun H locs hO z2 o2 hS => ?_)
    have hW := hW.kept2 (fun j9 hj9 => o2 _ (fun h9 => ho (by rw [← h9]; exact hW.own hj9)))
    refine lv_goto (tgt := 21) hx hb dL_lasts_10 (by decide) ?_
    refine lv_iconst (v := 0) hx hb dL_lasts_21 (by decide) ?_
    refine W.widen (k := 2) (n := 12) (Nat.le_of_ble_eq_true rfl) (Nat.le_of_ble_eq_true rfl) ?_
    exact W.iret hx hb hr (fun t ht hW9 => ⟨⟨rfl, by rw [ht]; exact ⟨⟨E9, hE9, hW⟩, _, hO, fun _ => rfl⟩⟩, tc_F hS ht⟩) hS.2.2 dL_lasts_22
set_option maxHeartbeats 4000000 in
set_option maxRecDepth 100000 in
theorem mt_L_within (l : Launch) (hst : l.stackTraces = false) (D : va_G) (cU cO cI cJ : ClassId) (e0 : Nat) (A : Nat → Prop) (E : Nat → Nat) (x : tc_X) (o : Nat) (fj : Nat → Int64) (a1 : Int32) (k : Nat) (r : Int32) (ho : ¬ A o) (hk : k ≤ 1) (hF : f_X2_within x a1 = some (k, r)) : Met l yL_within wsL_within ({ frames := 8, cells := 1, slots := 6, locals := 128 } : Room) (va_Pc [.ref (E 0), .int a1, .ref o] (fun U => tc_WC D cU cO e0 A E x U.heap ∧ tc_KX D cU cO cI e0 A U ∧ tc_KL D cJ U ∧ va_at D vwCl (o, .inl (cJ, 1, .inr (.inl fj))) U.heap)) (tc_Qw (some (.int (tc_c3 k))) (fun H9 => (∃ E9 : Nat → Nat, E9 0 = E 0 ∧ tc_WC D cU cO e0 A E9 x H9) ∧ ∃ fj9 : Nat → Int64, va_at D vwCl (o, .inl (cJ, 1, .inr (.inl fj9))) H9 ∧ (k = 0 → fj9 0 = r.toInt64)) (fun z9 => A z9 ∨ z9 = o)) 1 6 (fun z9 => A z9 ∨ z9 = o) := by
  refine va_MetW (cc := cL_within) (maxL := 4) (ret := (some .int)) (by decide) rfl ?_
  intro p e s m args below meth c s₁ B hml hv
  obtain ⟨rfl, hW, hKX, hKL, hO⟩ := hv
  have hx := B.exec
  have hb := B.bytes
  have hr := B.returns
  have hts := atoms_spec (ws := wsL_within) B.pre
  have hown : s.vm.findClass RL = some m.cls := findClass_of_methodNamed B.named
  have hlocks := B.notSynchronized
  have htab := vx_table (x := yL_within) B (hts _ List.mem_cons_self)
  have hK := hKX.1.1
  have hS0 : va_S A s.heap s.heap [] := va_S.rf
  have hS : va_S (fun z9 => A z9 ∨ z9 = o) s.heap s.heap [] := va_S.rf
  have hl := lv_entry ([.ref (E 0), .int a1, .ref o]) (n := 4) (Nat.le_of_ble_eq_true rfl)
  rw [lg_entry_eq]
  generalize (lg_sl ([.ref (E 0), .int a1, .ref o]) ++ List.replicate (4 - (lg_sl ([.ref (E 0), .int a1, .ref o])).length) Slot.unset).toArray = ls at hl ⊢
  have hl : lv_has ls 4 [(0, .ref (E 0)), (1, .int a1), (2, .ref o)] := hl
  refine lv_aload_n hx hb dL_within_0 rfl (lv_at hl 2 rfl) ?_
  refine lv_iconst (v := 0) hx hb dL_within_1 (by decide) ?_
  refine lv_aload_n hx hb dL_within_2 rfl (lv_at hl 0 rfl) ?_
  refine lv_iload_n hx hb dL_within_3 rfl (lv_at hl 1 rfl) ?_
  refine tc_cx (vx_runV (As := [.int a1]) (rest := [.int 0, .ref o]) ⟨hx, hb, hml, hown, hts⟩ (mt_X2_within l hst D cU cO cI e0 A E x a1 k r hF) (cwV 1 hts gL_within_X2_within rfl rfl rfl (by decide +kernel) ⟨Nat.le_of_ble_eq_true rfl, Nat.le_of_ble_eq_true rfl⟩) ⟨fun a U g mk q => ⟨q.1, q.2.1, q.2.2.call⟩, tc_rcv hW.o hK rfl, fun U hU hW9 => ⟨rfl, by rw [hU]; exact hW, hKX.go hS0 hU hW9⟩⟩ rfl rfl hl.1 rfl (lv_room (Nat.le_of_ble_eq_true rfl)) dL_within_4 ⟨Nat.le_of_ble_eq_true rfl, Nat.le_of_ble_eq_true rfl⟩) hS (fun _ _ h => Or.inl h) (fun _ h => Or.inl h) (fun _ _ h => Or.inl h) (fun ce q9 H locs c3 hW z1 o1 hS hce hcv hcl => ?_) (fun H locs c3 hW z1 o1 hS => ?_)
  · have hO := hO.kept (o1 o hO.lt ho)
    have hW : tc_WC D cU cO e0 A E x H := by exact hW
    rcases (show k = 1 by omega) with rfl
    refine vx_catch (own := RL) (name := "java/lang/IndexOutOfBoundsException") (E := "java/lang/IndexOutOfBoundsException") hown [] ⟨0, 9, 12, 13⟩ [] htab (fun z9 h9 => absurd h9 List.not_mem_nil) (by decide) (by decide) (hts (.classLink RL 13 "java/lang/IndexOutOfBoundsException") (List.mem_of_getElem? (i := 1) rfl)) (va_Nw.use rfl hKX.2.2.2.2.2.2.2.1) hce hcv hcl ?_
    refine lv_astore_n (lv' := [(3, .ref q9), (0, .ref (E 0)), (1, .int a1), (2, .ref o)]) hx hb dL_within_12 rfl hl (by decide) rfl (fun ls hl => ?_)
    refine lv_iconst (v := 1) hx hb dL_within_13 (by decide) ?_
    refine W.widen (k := 1) (n := 6) (Nat.le_of_ble_eq_true rfl) (Nat.le_of_ble_eq_true rfl) ?_
    exact W.iret hx hb hr (fun t ht hW9 => ⟨⟨rfl, by rw [ht]; exact ⟨⟨E, rfl, hW⟩, fj, hO, fun h9 => absurd h9 c3⟩⟩, tc_F hS ht⟩) hS.2.2 dL_within_14
  · subst c3
    have hO := hO.kept (o1 o hO.lt ho)
    obtain ⟨E9, hE9, hW⟩ : ∃ E9 : Nat → Nat, E9 0 = E 0 ∧ tc_WC D cU cO e0 A E9 x H := ⟨E, rfl, hW⟩
    refine lv_i2l hx hb dL_within_7 rfl ?_
    refine tc_last hx hb hKL.1 hO hS (Or.inr rfl) 0 rfl (by decide) dL_within_8 (fun H locs hO z2 o2 hS => ?_)
    have hW := hW.kept2 (fun j9 hj9 => o2 _ (fun h9 => ho (by rw [← h9]; exact hW.own hj9)))
    refine lv_goto (tgt := 15) hx hb dL_within_9 (by decide) ?_
    refine lv_iconst (v := 0) hx hb dL_within_15 (by decide) ?_
    refine W.widen (k := 1) (n := 6) (Nat.le_of_ble_eq_true rfl) (Nat.le_of_ble_eq_true rfl) ?_
    exact W.iret hx hb hr (fun t ht hW9 => ⟨⟨rfl, by rw [ht]; exact ⟨⟨E9, hE9, hW⟩, _, hO, fun _ => rfl⟩⟩, tc_F hS ht⟩) hS.2.2 dL_within_16
