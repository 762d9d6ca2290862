/-! One crane more in the law's own wharf (written by wip/p21/hand44.py). -/
theorem tc_WL.off {D : va_G} {cU cO cI cII cZ : ClassId} {e0 : Nat} {A : Nat → Prop} {E F : Nat → Nat} {x : tc_X} {z : tc_Z} {H H1 : Heap} (h : tc_WL D cU cO cI cII cZ e0 A E F x z H) {q : Nat} (hc : ∀ j, tc_lv x j → E j ≠ q) (hf : ∀ i, tc_sl z i → F i ≠ q) (o : ∀ a, a ≠ q → H1[a]? = H[a]?) : tc_WL D cU cO cI cII cZ e0 A E F x z H1 :=
  ⟨h.1.kept2 (fun j hj => o _ (hc j hj)), h.2.1.kept (fun i hi => o _ (hf i hi)), h.2.2⟩
set_option maxHeartbeats 4000000 in
set_option maxRecDepth 100000 in
theorem tc_addcrane {p : Program} {l : Launch} {e : Env} {R : Room} {s : State} {m : MethodId} {args : Array Value} {below : List Frame} {meth : Method} {c : Code} {H : Heap} {locs : List Loc} {cells slots : Nat} {Q : State → Prop} {ls : Array Slot} {D : va_G} {cU cO cI cII cZ : ClassId} {e0 : Nat} {A : Nat → Prop} {E F : Nat → Nat} {x : tc_X} {z : tc_Z} (hx : p.tables.exec = Jvm.exec) (hb : c.code = cL_act) (hown : s.vm.findClass RL = some m.cls) (hts : ∀ w ∈ wsL_act, w.before args s = true) (hK : va_K D vwCl (tc_ty cU cO cI) s) (hKF : tc_KS D cI cII cZ s) (hW : tc_WL D cU cO cI cII cZ e0 A E F x z H) (hS : va_S A s.heap H locs) (hA0 : ∀ q, s.heap.size ≤ q → A q) {q : Nat} {f : Nat → Int32} (hq : A q) (hqc : ∀ j, tc_lv x j → E j ≠ q) (hqf : ∀ i, tc_sl z i → F i ≠ q) (et : va_at D vwCl (q, .inl (cI, 8, .inl f)) H) (h5 : tc_zn z < 5) (hl : lv_has ls 13 [(8, .int (nI (tc_zn z))), (7, .ref q), (1, .ref (F 0))]) (hcells : cells + 1 ≤ R.cells) (hslots : slots + 6 ≤ R.slots)
    (kk : ∀ (H1 : Heap) (locs1 : List Loc) (ls1 : Array Slot) (g : Nat), tc_WL D cU cO cI cII cZ e0 A E (va_up (va_up F 3 g) (21 + tc_zn z) q) x (tc_zC z f) H1 → va_S A s.heap H1 locs1 → lv_has ls1 13 [(1, .ref (F 0))] → W p l e R s m args below meth c H1 locs1 (cells + 1) (slots + 6) Q (F0 m 505 ls1 [])) : W p l e R s m args below meth c H locs cells slots Q (F0 m 455 ls []) := by
  have hinX3 : ∀ w ∈ wsX30, w ∈ wsL_act := fun w9 h9 => List.mem_cons_of_mem _ (List.mem_append_left _ (List.mem_append_left _ (List.mem_append_left _ (List.mem_append_left _ (List.mem_append_left _ (List.mem_append_left _ (List.mem_append_left _ (List.mem_append_right _ h9))))))))
  obtain ⟨n, en⟩ : ∃ n, n = tc_zn z := ⟨_, rfl⟩
  rw [← en] at h5 hl
  refine lv_iload hx hb dL_act_455 (lv_at hl 0 rfl) ?_
  refine lv_iconst (v := nI 1) hx hb dL_act_457 (by decide) ?_
  refine lv_iadd hx hb dL_act_458 ?_
  rw [nI_add]
  refine tc_newAA (cl := vwCl) (n := nI (n + 1)) (N := n + 1) hx hb hown (hts (.classLink RL 47 "[I") (List.mem_of_getElem? (i := 6) rfl)) hKF hS hA0 (nI_pos (by omega)) (nI_clamp (by omega)) (by omega) hcells (by omega) dL_act_459 (fun g H hg hAg eg z1 o1 hS => ?_)
  refine W.widen (k := cells + 1) (n := slots + 6) (by omega) (by omega) ?_
  have hgc := hW.neE hg
  have hgf := hW.neF hg
  have hqg : q ≠ g := fun h9 => absurd et.lt (Nat.not_lt.mpr (by rw [h9]; exact hg))
  have hW := hW.grown o1
  have et := et.kept (o1 _ et.lt)
  refine lv_astore (lv' := [(9, .ref g), (8, .int (nI n)), (7, .ref q), (1, .ref (F 0))]) hx hb dL_act_462 hl (by decide) rfl (fun ls hl => ?_)
  refine lv_iconst (v := nI 0) hx hb dL_act_464 (by decide) ?_
  refine lv_istore (lv' := [(10, .int (nI 0)), (9, .ref g), (8, .int (nI n)), (7, .ref q), (1, .ref (F 0))]) hx hb dL_act_465 hl (by decide) rfl (fun ls hl => ?_)
  have loop : ∀ (k t : Nat) (fo : Nat → Option Nat) (H : Heap) (locs : List Loc) (ls : Array Slot), t + k = n → va_at D vwCl (g, .inl (cII, n + 1, .inr (.inr (.inr (.inr fo))))) H → (∀ j, j < t → fo j = some (F (21 + j))) → tc_WL D cU cO cI cII cZ e0 A E F x z H → va_at D vwCl (q, .inl (cI, 8, .inl f)) H → va_S A s.heap H locs → lv_has ls 13 [(10, .int (nI t)), (9, .ref g), (8, .int (nI n)), (7, .ref q), (1, .ref (F 0))] → W p l e R s m args below meth c H locs (cells + 1) (slots + 6) Q (F0 m 467 ls []) := by
    intro k
    induction k with
    | zero =>
      intro t fo H locs ls ht eg hfo hW et hS hl
      have htn : t = n := by omega
      subst htn
      refine lv_iload hx hb dL_act_467 (lv_at hl 0 rfl) ?_
      refine lv_iload hx hb dL_act_469 (lv_at hl 2 rfl) ?_
      refine lv_icmp_ge (tgt := 492) hx hb dL_act_471 (by decide) (fun _ => ?_) (fun h9 => absurd (Int32.le_refl _) h9)
      refine lv_aload hx hb dL_act_492 (lv_at hl 1 rfl) ?_
      refine lv_iload hx hb dL_act_494 (lv_at hl 2 rfl) ?_
      refine lv_aload hx hb dL_act_496 (lv_at hl 3 rfl) ?_
      refine tc_aastA2 (j := t) (nI_clamp (by omega)) hx hb hK 2 rfl hKF eg hS hAg et ⟨nI_pos (by omega), Nat.lt_succ_self t⟩ dL_act_498 (fun H locs e1 z1 o1 hS => ?_)
      have hW := hW.off hgc hgf o1
      have et := et.kept (o1 _ hqg)
      refine lv_aload_n hx hb dL_act_499 rfl (lv_at hl 4 rfl) ?_
      refine lv_aload hx hb dL_act_500 (lv_at hl 1 rfl) ?_
      refine tc_put (v := .ref g) (ty := .array (.array .int)) hx hb hts hinX3 tyX3 tyX3_ok nmX3 hown hK (hW.2.1.o) hS (hW.2.1.own (tc_slf (by decide))) (C := RX3) (T := TX3) (N := 6) rfl 4 (by decide) (hts (.fieldLink RL 9 "TreadCranesLaw$Sim" "cranes" "[[I") (List.mem_of_getElem? (i := 2) rfl)) (fun _ h9 => h9) rfl (by decide +kernel) rfl rfl (Nat.le_of_ble_eq_true rfl) dL_act_502 (fun H locs e2 z2 o2 hS => ?_)
      have eg := e1.kept (o2 _ (fun h9 => hgf 0 (tc_slf (by decide)) h9.symm))
      have et := et.kept (o2 _ (fun h9 => hqf 0 (tc_slf (by decide)) h9.symm))
      have hWS := hW.2.1.sC (q := q) (g := g) (f := f) (fo := va_up fo t (some q)) (by rw [← en]; exact h5) e2 o2 (by rw [← en]; exact eg) (fun k9 hk9 => by rw [← en] at hk9; rw [va_up_ne _ _ (Nat.ne_of_lt hk9)]; exact hfo k9 hk9) (by rw [← en]; exact va_up_self _ _ _) et hq hAg hqg hqf hgf
      have hWL := hW.simS hWS (fun j hj => o2 _ (hW.nEF hj (tc_slf (by decide)))) (fun j i hj hi => by
        have hi' : i < 21 + (tc_zn z + 1) := hi
        by_cases e9 : i = 21 + tc_zn z
        · subst e9; rw [va_up_self]; exact hqc j hj
        · rw [va_up_ne _ _ e9]
          by_cases e8 : i = 3
          · subst e8; rw [va_up_self]; exact hgc j hj
          · rw [va_up_ne _ _ e8]; exact hW.nEF hj (show i < 21 + tc_zn z by omega))
      exact kk H locs ls g hWL hS (lv_sub hl [4] rfl)
    | succ k ih =>
      intro t fo H locs ls ht eg hfo hW et hS hl
      refine lv_iload hx hb dL_act_467 (lv_at hl 0 rfl) ?_
      refine lv_iload hx hb dL_act_469 (lv_at hl 2 rfl) ?_
      refine lv_icmp_ge (tgt := 492) hx hb dL_act_471 (by decide) (fun h9 => absurd h9 (Int32.not_le.mpr ((nI_ltI (by omega) (by omega)).mpr (by omega)))) (fun _ => ?_)
      refine lv_aload hx hb dL_act_474 (lv_at hl 1 rfl) ?_
      refine lv_iload hx hb dL_act_476 (lv_at hl 0 rfl) ?_
      refine lv_aload_n hx hb dL_act_478 rfl (lv_at hl 4 rfl) ?_
      refine tc_get (v := .ref (F 3)) hx hb hts hinX3 hown hK (hW.2.1.o) (C := RX3) (T := TX3) (N := 6) rfl 4 (by decide) (hts (.fieldLink RL 9 "TreadCranesLaw$Sim" "cranes" "[[I") (List.mem_of_getElem? (i := 2) rfl)) (fun _ h9 => h9) rfl dL_act_479 ?_
      refine lv_iload hx hb dL_act_482 (lv_at hl 0 rfl) ?_
      refine tc_aaldA2 (q := F (21 + t)) (j := t) (nI_clamp (by omega)) hx hb hKF.1 hW.2.1.c 0 rfl ⟨nI_pos (by omega), by rw [← en]; omega⟩ dL_act_484 rfl ?_
      refine tc_aastA2 (j := t) (nI_clamp (by omega)) hx hb hK 2 rfl hKF eg hS hAg (hW.2.1.r (tc_isrK (by rw [← en]; omega))) ⟨nI_pos (by omega), by omega⟩ dL_act_485 (fun H locs e1 z1 o1 hS => ?_)
      have hW := hW.off hgc hgf o1
      have et := et.kept (o1 _ hqg)
      refine lv_iinc (v := nI (t + 1)) (lv' := [(10, .int (nI (t + 1))), (9, .ref g), (8, .int (nI n)), (7, .ref q), (1, .ref (F 0))]) hx hb dL_act_486 hl (k := 0) rfl (nI_add t 1) (by decide) rfl (fun ls hl => ?_)
      refine lv_goto (tgt := 467) hx hb dL_act_489 (by decide) ?_
      exact ih (t + 1) _ H locs ls (by omega) e1 (fun j hj => by
        by_cases e9 : j = t
        · subst e9; exact va_up_self _ _ _
        · rw [va_up_ne _ _ e9]; exact hfo j (by omega)) hW et hS hl
  exact loop n 0 (fun _ => none) H locs ls (by omega) eg (fun j hj => absurd hj (Nat.not_lt_zero _)) hW et hS hl
