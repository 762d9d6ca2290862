/-! The script's cell; the constructor of the law's own wharf (written by wip/p21/hand47.py). -/
noncomputable def tc_wif {α : Type} (x : tc_X) (a : Option α) : Option α := @ite _ (tc_wf x) (Classical.propDecidable _) a none
theorem tc_wix {α : Type} {x : tc_X} {a : Option α} {r : α} (h : tc_wif x a = some r) : tc_wf x ∧ a = some r := by
  unfold tc_wif at h
  by_cases c : tc_wf x
  · rw [if_pos c] at h; exact ⟨c, h⟩
  · rw [if_neg c] at h; cases h
theorem tc_wiy {α : Type} {x : tc_X} {a : Option α} (h : tc_wf x) : tc_wif x a = a := by unfold tc_wif; rw [if_pos h]
def tc_Qe (B : Value → Heap → Prop) (A : Nat → Prop) : Array Value → State → Outcome → State → Prop := fun _ st oc t => (∃ r, oc = .returned (some r) ∧ B r t.heap) ∧ va_F A st t
section TC4
variable {p : Program} {l : Launch} {e : Env} {R : Room} {s : State} {m : MethodId} {args : Array Value} {below : List Frame} {meth : Method} {c : Code} {H : Heap} {locs : List Loc} {cells slots : Nat} {Q : State → Prop}
variable {pc : Nat} {ls : Array Slot} {rest st0 : List Value} {A0 A1 : Nat → Prop} {H0 : Heap} {mc ms : Nat} {free : Addr → Prop} {a : Array Value}
theorem tc_ce {B : Value → Heap → Prop} (hr : va_Run p l e R s m args below meth c H locs cells slots mc ms (F0 m pc ls st0) rest (tc_Qe B A1 a) free) (hS : va_S A0 H0 H locs) (hA : ∀ q, q < H.size → A1 q → A0 q) (hf : ∀ q, free q → A0 q)
    (kk : ∀ (r : Value) (H1 : Heap) (locs1 : List Loc), B r H1 → H.size ≤ H1.size → (∀ q : Nat, q < H.size → ¬ A1 q → H1[q]? = H[q]?) → va_S A0 H0 H1 locs1 → W p l e R s m args below meth c H1 locs1 (cells + mc) (slots + ms) Q (F0 m (pc + 3) ls (r :: rest))) : W p l e R s m args below meth c H locs cells slots Q (F0 m pc ls st0) := by
  intro T hT X
  obtain ⟨v, st₀, t, T', L, h0, X', hL, e1, e2, ⟨⟨r, hv, hb⟩, hF⟩, st⟩ := hr T hT X
  cases hv
  obtain ⟨k1, k2, k3⟩ := vx_keep h0 e1 hS hA hf hL hF
  obtain ⟨t2, a1, b1⟩ := kk r T'.heap (locs ++ L) (by rw [e1]; exact hb) k1 k2 k3 T' rfl X'
  exact ⟨t2, st t2 a1, b1⟩
theorem tc_cwD {cs : List Choice} {r : Value} {B : Heap → Prop} {d0 : Drawn} (hd0 : s.drawn.sameBut d0 cs) (hr : va_RunD cs p l e R (s.setDrawn d0) m args below meth c H locs cells slots mc ms (F0 m pc ls st0) rest (tc_Qw (some r) B A1 a) free) (hS : va_S A0 H0 H locs) (hA : ∀ q, q < H.size → A1 q → A0 q) (hf : ∀ q, free q → A0 q)
    (kk : ∀ (H1 : Heap) (locs1 : List Loc), B H1 → H.size ≤ H1.size → (∀ q : Nat, q < H.size → ¬ A1 q → H1[q]? = H[q]?) → va_S A0 H0 H1 locs1 → ∀ d' : Drawn, s.drawn.sameBut d' cs → W p l e R (s.setDrawn d') m args below meth c H1 locs1 (cells + mc) (slots + ms) Q (F0 m (pc + 3) ls (r :: rest))) : W p l e R (s.setDrawn d0) m args below meth c H locs cells slots Q (F0 m pc ls st0) := by
  intro T hT X
  obtain ⟨v, st₀, t, T', L, d', hd', h0, X', hL, e1, e2, ⟨⟨hv, hb⟩, hF⟩, st⟩ := hr T hT X
  cases hv
  obtain ⟨k1, k2, k3⟩ := vx_keep h0 e1 hS hA hf hL hF
  obtain ⟨t2, a1, b1⟩ := kk T'.heap (locs ++ L) (by rw [e1]; exact hb) k1 k2 k3 d' (hd0.trans hd') T' rfl X'
  exact ⟨t2, st t2 a1, b1⟩
end TC4
def f_L_cell (xs : Nat → Int32) (L : Nat) (k : Int32) : Option Int32 := if nI L ≤ k then some (790386105 * (k + 3)) else if ¬ k < 0 ∧ k.toNatClampNeg < L then some (xs k.toNatClampNeg) else none
set_option maxHeartbeats 4000000 in
set_option maxRecDepth 100000 in
theorem mt_L_cell (l : Launch) (b : Nat) (xs : Nat → Int32) (L : Nat) (k : Int32) (r : Int32) (hF : f_L_cell xs L k = some r) : Met l yL_cell wsL_cell ({ frames := 0, cells := 0, slots := 0, locals := 0 } : Room) (va_Pc [.ref b, .int k] (fun U => va_X b L xs U U.heap)) (k2_QcV (.int r)) 0 0 (fun _ => False) := by
  refine Met.ofW (cc := cL_cell) (maxL := 2) (ret := (some .int)) (by decide) rfl ?_
  intro p e s m args below meth c s₁ B hml hv
  obtain ⟨rfl, hX⟩ := hv
  have hx := B.exec
  have hb := B.bytes
  have hr := B.returns
  have hts := atoms_spec (ws := wsL_cell) B.pre
  have hown : s.vm.findClass RL = some m.cls := findClass_of_methodNamed B.named
  have hlocks := B.notSynchronized
  have hbl : b < s.heap.size := by
    obtain ⟨scr, h1, -⟩ := id hX
    exact (Array.getElem?_eq_some_iff.mp h1).1
  have hS : va_S (fun _ : Nat => False) s.heap s.heap [] := va_S.rf
  have hl := lv_entry ([.ref b, .int k]) (n := 2) (Nat.le_of_ble_eq_true rfl)
  rw [lg_entry_eq]
  generalize (lg_sl ([.ref b, .int k]) ++ List.replicate (2 - (lg_sl ([.ref b, .int k])).length) Slot.unset).toArray = ls at hl ⊢
  have hl : lv_has ls 2 [(0, .ref b), (1, .int k)] := hl
  unfold f_L_cell at hF
  refine lv_iload_n hx hb dL_cell_0 rfl (lv_at hl 1 rfl) ?_
  refine lv_aload_n hx hb dL_cell_1 rfl (lv_at hl 0 rfl) ?_
  refine va_slen hx hb hX hbl (fun h => h) hS dL_cell_2 ?_
  refine lv_icmp_ge (tgt := 12) hx hb dL_cell_3 (by decide) (fun c1 => ?_) (fun c1 => ?_)
  · have hF := tc_it hF c1
    refine lv_ldc (v := 790386105) hx hb hown (hts (.constant RL 8 (790386105)) (List.mem_of_getElem? (i := 1) rfl)) dL_cell_12 ?_
    refine lv_iload_n hx hb dL_cell_14 rfl (lv_at hl 1 rfl) ?_
    refine lv_iconst (v := 3) hx hb dL_cell_15 (by decide) ?_
    refine lv_iadd hx hb dL_cell_16 ?_
    refine lv_imul hx hb dL_cell_17 ?_
    have h91 := Option.some.inj hF
    exact W.iret hx hb hr (fun t ht hW9 => ⟨by rw [← h91], ht⟩) (fun q h => absurd h List.not_mem_nil) dL_cell_18
  · have hF := tc_if hF c1
    obtain ⟨g1, hF⟩ := tc_ob hF
    refine lv_aload_n hx hb dL_cell_6 rfl (lv_at hl 0 rfl) ?_
    refine lv_iload_n hx hb dL_cell_7 rfl (lv_at hl 1 rfl) ?_
    refine va_sld hx hb hX hbl (fun h => h) hS (tc_ix_in g1) dL_cell_8 ?_
    refine lv_goto (tgt := 18) hx hb dL_cell_9 (by decide) ?_
    have h91 := Option.some.inj hF
    exact W.iret hx hb hr (fun t ht hW9 => ⟨by rw [← h91], ht⟩) (fun q h => absurd h List.not_mem_nil) dL_cell_18
def tc_z0 : tc_Z := (fun _ => 0, fun _ => 0, fun _ _ => 0, 0)
set_option maxHeartbeats 4000000 in
set_option maxRecDepth 100000 in
theorem mt_X3_init (l : Launch) (D : va_G) (cU cO cI cII cZ : ClassId) (A : Nat → Prop) (q : Nat) (hq : A q) : Met l yX3_init wsX3_init ({ frames := 1, cells := 20, slots := 56, locals := 20 } : Room) (va_Pc [.ref q] (fun U => va_at D vwCl (q, .inr (4, [.int 0, .int 0, .null, .null, .null, .null])) U.heap ∧ va_K D vwCl (tc_ty cU cO cI) U ∧ tc_KS D cI cII cZ U ∧ ∀ z, U.heap.size ≤ z → A z)) (tc_Qw none (fun H9 => ∃ F : Nat → Nat, F 0 = q ∧ tc_WS D cI cII cZ A F tc_z0 H9) A) 20 56 A := by
  refine Met.ofW (cc := cX3_init) (maxL := 1) (ret := none) (by decide) rfl ?_
  intro p e s m args below meth c s₁ B hml hv
  obtain ⟨rfl, e0, hK, hKF, hA⟩ := hv
  have hx := B.exec
  have hb := B.bytes
  have hr := B.returns
  have hts := atoms_spec (ws := wsX3_init) B.pre
  have hown : s.vm.findClass RX3 = some m.cls := findClass_of_methodNamed B.named
  have hlocks := B.notSynchronized
  have hin : meth.name = "<init>" := (name_of_methodNamed B.named B.method).1
  have hin3 : ∀ w ∈ wsX30, w ∈ wsX3_init := fun w9 h9 => List.mem_cons_of_mem _ (List.mem_append_right _ h9)
  have hS : va_S A s.heap s.heap [] := va_S.rf
  have hl := lv_entry ([.ref q]) (n := 1) (Nat.le_of_ble_eq_true rfl)
  rw [lg_entry_eq]
  generalize (lg_sl ([.ref q]) ++ List.replicate (1 - (lg_sl ([.ref q])).length) Slot.unset).toArray = ls at hl ⊢
  have hl : lv_has ls 1 [(0, .ref q)] := hl
  refine lv_aload_n hx hb dX3_init_0 rfl (lv_at hl 0 rfl) ?_
  refine W.objInit hx hb hown (hts (.methodLink RX3 1 objectInit) (List.mem_of_getElem? (i := 1) rfl)) (hts (.instanceMethod objectInit) (List.mem_of_getElem? (i := 2) rfl)) (hts (.code objectInit ⟨#[0xb1]⟩ 1 none) (List.mem_of_getElem? (i := 3) rfl)) rfl (by rw [hml]; exact hl.1) rfl dX3_init_1 (Nat.le_of_ble_eq_true rfl) (Nat.le_of_ble_eq_true rfl) ?_
  refine W.eq (g2 := F0 m 4 ls []) rfl ?_
  refine lv_aload_n hx hb dX3_init_4 rfl (lv_at hl 0 rfl) ?_
  refine lv_bipush (v := 16) hx hb dX3_init_5 (by decide) ?_
  refine lv_iconst (v := 0) hx hb dX3_init_7 (by decide) ?_
  refine tc_mna (n := 16) (k := 0) (N := 16) (M := 0) hx hb hown (hts (.classLink RX3 7 "[[I") (List.mem_of_getElem? (i := 4) rfl)) (hts (.arrayClass .int) (List.mem_of_getElem? (i := 5) rfl)) hK 2 rfl hKF hS hA (by decide) (by decide) (by decide) (by decide) (Nat.le_of_ble_eq_true rfl) (Nat.le_of_ble_eq_true rfl) (Nat.le_of_ble_eq_true rfl) (Nat.le_of_ble_eq_true rfl) (Nat.le_of_ble_eq_true rfl) dX3_init_8 (fun q1 r H hq1 hA1 hr1 hri et1 er1 o1 hS => ?_)
  have hq1q : q1 ≠ q := fun h9 => absurd e0.lt (Nat.not_lt.mpr (by rw [← h9]; exact hq1))
  have hrq : ∀ j, r j ≠ q := fun j h9 => absurd e0.lt (Nat.not_lt.mpr (by rw [← h9]; exact (hr1 j).1))
  have e0 := e0.kept (o1 _ e0.lt)
  refine tc_put (v := .ref q1) (ty := .array (.array .int)) hx hb hts hin3 tyX3 tyX3_ok nmX3 hown hK e0 hS hq (C := RX3) (T := TX3) (N := 6) rfl 2 (by decide) (hts (.fieldLink RX3 9 "TreadCranesLaw$Sim" "quay" "[[I") (List.mem_of_getElem? (i := 6) rfl)) (fun _ h9 => h9) rfl (by decide +kernel) rfl rfl (Nat.le_of_ble_eq_true rfl) dX3_init_12 (fun H locs e0 z1 o1 hS => ?_)
  have et1 := et1.kept (o1 _ hq1q)
  have er1 := fun j hj => (er1 j hj).kept (o1 _ (hrq j))
  refine lv_aload_n hx hb dX3_init_15 rfl (lv_at hl 0 rfl) ?_
  refine lv_iconst (v := 0) hx hb dX3_init_16 (by decide) ?_
  refine tc_newI (n := 0) (N := 0) hx hb (hts (.arrayClass .int) (List.mem_of_getElem? (i := 5) rfl)) hS hK hA (by decide) (by decide) (Nat.le_of_ble_eq_true rfl) (Nat.le_of_ble_eq_true rfl) (Nat.le_of_ble_eq_true rfl) dX3_init_17 2 rfl (fun q2 H hq2 hA2 et2 z2 o2 hS => ?_)
  have h2q : q2 ≠ q := fun h9 => absurd e0.lt (Nat.not_lt.mpr (by rw [← h9]; exact hq2))
  have h21 : q2 ≠ q1 := fun h9 => absurd et1.lt (Nat.not_lt.mpr (by rw [← h9]; exact hq2))
  have h2r : ∀ j, j < 16 → q2 ≠ r j := fun j hj h9 => absurd (er1 j hj).lt (Nat.not_lt.mpr (by rw [← h9]; exact hq2))
  have e0 := e0.kept (o2 _ e0.lt)
  have et1 := et1.kept (o2 _ et1.lt)
  have er1 := fun j hj => (er1 j hj).kept (o2 _ (er1 j hj).lt)
  refine tc_put (v := .ref q2) (ty := .array .int) hx hb hts hin3 tyX3 tyX3_ok nmX3 hown hK e0 hS hq (C := RX3) (T := TX3) (N := 6) rfl 3 (by decide) (hts (.fieldLink RX3 14 "TreadCranesLaw$Sim" "weights" "[I") (List.mem_of_getElem? (i := 7) rfl)) (fun _ h9 => h9) rfl (by decide +kernel) rfl rfl (Nat.le_of_ble_eq_true rfl) dX3_init_19 (fun H locs e0 z1 o1 hS => ?_)
  have et1 := et1.kept (o1 _ hq1q)
  have er1 := fun j hj => (er1 j hj).kept (o1 _ (hrq j))
  have et2 := et2.kept (o1 _ h2q)
  refine lv_aload_n hx hb dX3_init_22 rfl (lv_at hl 0 rfl) ?_
  refine lv_iconst (v := 0) hx hb dX3_init_23 (by decide) ?_
  refine tc_newAA (cl := vwCl) (n := 0) (N := 0) hx hb hown (hts (.classLink RX3 18 "[I") (List.mem_of_getElem? (i := 8) rfl)) hKF hS hA (by decide) (by decide) (Nat.le_of_ble_eq_true rfl) (Nat.le_of_ble_eq_true rfl) (Nat.le_of_ble_eq_true rfl) dX3_init_24 (fun q3 H hq3 hA3 et3 z2 o2 hS => ?_)
  have h3q : q3 ≠ q := fun h9 => absurd e0.lt (Nat.not_lt.mpr (by rw [← h9]; exact hq3))
  have h31 : q3 ≠ q1 := fun h9 => absurd et1.lt (Nat.not_lt.mpr (by rw [← h9]; exact hq3))
  have h32 : q3 ≠ q2 := fun h9 => absurd et2.lt (Nat.not_lt.mpr (by rw [← h9]; exact hq3))
  have h3r : ∀ j, j < 16 → q3 ≠ r j := fun j hj h9 => absurd (er1 j hj).lt (Nat.not_lt.mpr (by rw [← h9]; exact hq3))
  have e0 := e0.kept (o2 _ e0.lt)
  have et1 := et1.kept (o2 _ et1.lt)
  have er1 := fun j hj => (er1 j hj).kept (o2 _ (er1 j hj).lt)
  have et2 := et2.kept (o2 _ et2.lt)
  refine tc_put (v := .ref q3) (ty := .array (.array .int)) hx hb hts hin3 tyX3 tyX3_ok nmX3 hown hK e0 hS hq (C := RX3) (T := TX3) (N := 6) rfl 4 (by decide) (hts (.fieldLink RX3 19 "TreadCranesLaw$Sim" "cranes" "[[I") (List.mem_of_getElem? (i := 9) rfl)) (fun _ h9 => h9) rfl (by decide +kernel) rfl rfl (Nat.le_of_ble_eq_true rfl) dX3_init_27 (fun H locs e0 z1 o1 hS => ?_)
  have et1 := et1.kept (o1 _ hq1q)
  have er1 := fun j hj => (er1 j hj).kept (o1 _ (hrq j))
  have et2 := et2.kept (o1 _ h2q)
  have et3 := et3.kept (o1 _ h3q)
  refine lv_aload_n hx hb dX3_init_30 rfl (lv_at hl 0 rfl) ?_
  refine lv_bipush (v := 40) hx hb dX3_init_31 (by decide) ?_
  refine tc_newZ (n := 40) (N := 40) hx hb (hts (.arrayClass .boolean) (List.mem_of_getElem? (i := 10) rfl)) hS hKF.1 hA (by decide) (by decide) (Nat.le_of_ble_eq_true rfl) (Nat.le_of_ble_eq_true rfl) (Nat.le_of_ble_eq_true rfl) dX3_init_33 1 rfl (fun q4 H hq4 hA4 et4 z2 o2 hS => ?_)
  have h4q : q4 ≠ q := fun h9 => absurd e0.lt (Nat.not_lt.mpr (by rw [← h9]; exact hq4))
  have h41 : q4 ≠ q1 := fun h9 => absurd et1.lt (Nat.not_lt.mpr (by rw [← h9]; exact hq4))
  have h42 : q4 ≠ q2 := fun h9 => absurd et2.lt (Nat.not_lt.mpr (by rw [← h9]; exact hq4))
  have h43 : q4 ≠ q3 := fun h9 => absurd et3.lt (Nat.not_lt.mpr (by rw [← h9]; exact hq4))
  have h4r : ∀ j, j < 16 → q4 ≠ r j := fun j hj h9 => absurd (er1 j hj).lt (Nat.not_lt.mpr (by rw [← h9]; exact hq4))
  have e0 := e0.kept (o2 _ e0.lt)
  have et1 := et1.kept (o2 _ et1.lt)
  have er1 := fun j hj => (er1 j hj).kept (o2 _ (er1 j hj).lt)
  have et2 := et2.kept (o2 _ et2.lt)
  have et3 := et3.kept (o2 _ et3.lt)
  refine tc_put (v := .ref q4) (ty := .array .boolean) hx hb hts hin3 tyX3 tyX3_ok nmX3 hown hK e0 hS hq (C := RX3) (T := TX3) (N := 6) rfl 5 (by decide) (hts (.fieldLink RX3 22 "TreadCranesLaw$Sim" "isBroken" "[Z") (List.mem_of_getElem? (i := 11) rfl)) (fun _ h9 => h9) rfl (by decide +kernel) rfl rfl (Nat.le_of_ble_eq_true rfl) dX3_init_35 (fun H locs e0 z1 o1 hS => ?_)
  have et1 := et1.kept (o1 _ hq1q)
  have er1 := fun j hj => (er1 j hj).kept (o1 _ (hrq j))
  have et2 := et2.kept (o1 _ h2q)
  have et3 := et3.kept (o1 _ h3q)
  have et4 := et4.kept (o1 _ h4q)
  refine W.widen (k := 20) (n := 56) (Nat.le_of_ble_eq_true rfl) (Nat.le_of_ble_eq_true rfl) ?_
  refine W.vret hx hb hr (fun t ht hW9 => ⟨⟨rfl, ?_⟩, tc_F hS ht⟩) hS.2.2 dX3_init_38
  rw [ht]
  obtain ⟨F, eF⟩ : ∃ F : Nat → Nat, F = fun i => if i = 0 then q else if i = 1 then q1 else if i = 2 then q2 else if i = 3 then q3 else if i = 4 then q4 else r (i - 5) := ⟨_, rfl⟩
  have f0 : F 0 = q := by rw [eF]; rfl
  have f1 : F 1 = q1 := by rw [eF]; rfl
  have f2 : F 2 = q2 := by rw [eF]; rfl
  have f3 : F 3 = q3 := by rw [eF]; rfl
  have f4 : F 4 = q4 := by rw [eF]; rfl
  have fr : ∀ j, F (5 + j) = r j := fun j => by
    rw [eF]
    show (if 5 + j = 0 then q else if 5 + j = 1 then q1 else if 5 + j = 2 then q2 else if 5 + j = 3 then q3 else if 5 + j = 4 then q4 else r (5 + j - 5)) = r j
    rw [if_neg (by omega), if_neg (by omega), if_neg (by omega), if_neg (by omega), if_neg (by omega), Nat.add_sub_cancel_left]
  refine ⟨F, f0, ?_, ?_, ?_, ?_, fun i hi => ?_, fun i j hi hj e => ?_, fun i hi => ?_, Nat.zero_le _⟩
  · unfold tc_oS; rw [f0, f1, f2, f3, f4]; exact e0
  · rw [f1]
    have ef : (fun p => some (F (5 + p))) = fun j => some (r j) := by funext p9; rw [fr]
    show va_at D vwCl (q1, .inl (cII, 16, .inr (.inr (.inr (.inr (fun p => some (F (5 + p)))))))) _
    rw [ef]; exact et1
  · rw [f3]
    have k3 : _ = some (vp_cell cII (0, .inr (.inr (.inr (.inr (fun _ : Nat => none)))))) := et3
    refine Eq.trans k3 ?_
    rw [vp_cell_q]
    show _ = some (vp_cell cII (0, .inr (.inr (.inr (.inr (fun k => some (F (21 + k))))))))
    rw [vp_cell_q]
    rfl
  · rw [f4]; exact et4
  · have hi' : i = 2 ∨ (5 ≤ i ∧ i < 21 + 0) := hi
    rcases hi' with hi' | hi'
    · subst hi'; rw [f2]; exact et2
    · obtain ⟨j, rfl⟩ : ∃ j, i = 5 + j := ⟨i - 5, by omega⟩
      rw [fr]
      exact er1 j (by omega)
  · have hi : i < 21 + 0 := hi
    have hj : j < 21 + 0 := hj
    have cs : ∀ i, i < 21 + 0 → (i = 0 ∧ F i = q) ∨ (i = 1 ∧ F i = q1) ∨ (i = 2 ∧ F i = q2) ∨ (i = 3 ∧ F i = q3) ∨ (i = 4 ∧ F i = q4) ∨ ∃ k, k < 16 ∧ i = 5 + k ∧ F i = r k := fun i hi => by
      rcases (show i = 0 ∨ i = 1 ∨ i = 2 ∨ i = 3 ∨ i = 4 ∨ 5 ≤ i by omega) with rfl | rfl | rfl | rfl | rfl | h5
      · exact Or.inl ⟨rfl, f0⟩
      · exact Or.inr (Or.inl ⟨rfl, f1⟩)
      · exact Or.inr (Or.inr (Or.inl ⟨rfl, f2⟩))
      · exact Or.inr (Or.inr (Or.inr (Or.inl ⟨rfl, f3⟩)))
      · exact Or.inr (Or.inr (Or.inr (Or.inr (Or.inl ⟨rfl, f4⟩))))
      · exact Or.inr (Or.inr (Or.inr (Or.inr (Or.inr ⟨i - 5, by omega, by omega, by have := fr (i - 5); rw [show 5 + (i - 5) = i by omega] at this; exact this⟩))))
    rcases cs i hi with ⟨a1, b1⟩ | ⟨a1, b1⟩ | ⟨a1, b1⟩ | ⟨a1, b1⟩ | ⟨a1, b1⟩ | ⟨k, hk, a1, b1⟩ <;> rcases cs j hj with ⟨a2, b2⟩ | ⟨a2, b2⟩ | ⟨a2, b2⟩ | ⟨a2, b2⟩ | ⟨a2, b2⟩ | ⟨k2, hk2, a2, b2⟩ <;> rw [b1, b2] at e
    · omega
    · exact absurd e.symm hq1q
    · exact absurd e.symm h2q
    · exact absurd e.symm h3q
    · exact absurd e.symm h4q
    · exact absurd e.symm (hrq k2)
    · exact absurd e hq1q
    · omega
    · exact absurd e.symm h21
    · exact absurd e.symm h31
    · exact absurd e.symm h41
    · exact absurd e.symm (hr1 k2).2.2
    · exact absurd e h2q
    · exact absurd e h21
    · omega
    · exact absurd e.symm h32
    · exact absurd e.symm h42
    · exact absurd e (h2r k2 hk2)
    · exact absurd e h3q
    · exact absurd e h31
    · exact absurd e h32
    · omega
    · exact absurd e.symm h43
    · exact absurd e (h3r k2 hk2)
    · exact absurd e h4q
    · exact absurd e h41
    · exact absurd e h42
    · exact absurd e h43
    · omega
    · exact absurd e (h4r k2 hk2)
    · exact absurd e (hrq k)
    · exact absurd e (hr1 k).2.2
    · exact absurd e.symm (h2r k hk)
    · exact absurd e.symm (h3r k hk)
    · exact absurd e.symm (h4r k hk)
    · have := hri _ _ e; omega
  · have hi : i < 21 + 0 := hi
    rcases (show i = 0 ∨ i = 1 ∨ i = 2 ∨ i = 3 ∨ i = 4 ∨ 5 ≤ i by omega) with rfl | rfl | rfl | rfl | rfl | h5
    · rw [f0]; exact hq
    · rw [f1]; exact hA1
    · rw [f2]; exact hA2
    · rw [f3]; exact hA3
    · rw [f4]; exact hA4
    · have := fr (i - 5); rw [show 5 + (i - 5) = i by omega] at this; rw [this]; exact (hr1 _).2.1
theorem tc_simNew {D : va_G} {cU cO cI cII cZ : ClassId} {e0 : Nat} {A : Nat → Prop} {E F : Nat → Nat} {x : tc_X} {q n : Nat} {H H1 : Heap} (hWC : tc_WC D cU cO e0 A E x H) (hn : ∀ j, tc_lv x j → E j ≠ q) (hnn : ∀ j, tc_lv x j → E j < n) (hAq : A q) (hAn : ∀ z, n ≤ z → A z) (he : ¬ A e0) (hWS : tc_WS D cI cII cZ (fun z9 => z9 = q ∨ n ≤ z9) F tc_z0 H1) (o : ∀ z : Nat, z < H.size → ¬ (z = q ∨ n ≤ z) → H1[z]? = H[z]?) : tc_WL D cU cO cI cII cZ e0 A E F x tc_z0 H1 :=
  ⟨(hWC.kept2 (fun j hj => o _ (hWC.lt hj) (fun h => h.elim (hn j hj) (fun h => absurd (hnn j hj) (Nat.not_lt.mpr h))))).reA (fun j hj => ⟨hWC.own hj, fun i hi h9 => (hWS.own hi).elim (fun h8 => hn j hj (h9.trans h8)) (fun h8 => absurd (hnn j hj) (Nat.not_lt.mpr (by rw [h9]; exact h8)))⟩) (fun h => he h.1), hWS.reA (fun i hi => (hWS.own hi).elim (fun h => by rw [h]; exact hAq) (hAn _)), he⟩
