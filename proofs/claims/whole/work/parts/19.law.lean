/-! The law's loop and start (written by wip/whole/hand6.py): R is any relation that every call keeps. -/
def op_land (R : tc_X → tc_Y → Prop) : Prop := ∀ (x : tc_X) (y : tc_Y) (a1 a2 : Int32), R x y → ∃ (k : Nat) (r : Int32) (z : tc_X) (v : Int32) (y' : tc_Y), f_X2_land x a1 a2 = some (k, r, z) ∧ f_X3_land y a1 a2 = some (v, y') ∧ k ≤ 3 ∧ (k ≠ 0 → z = x) ∧ y' 0 0 = tc_c3 k ∧ (k = 0 → v = r) ∧ R z y'
def op_build (R : tc_X → tc_Y → Prop) : Prop := ∀ (x : tc_X) (y : tc_Y) (a1 a2 a3 a4 : Int32), R x y → ∃ (k : Nat) (r : Int32) (z : tc_X) (v : Int32) (y' : tc_Y), f_X2_build x a1 a2 a3 a4 = some (k, r, z) ∧ f_X3_build y a1 a2 a3 a4 = some (v, y') ∧ k ≤ 3 ∧ (k ≠ 0 → z = x) ∧ y' 0 0 = tc_c3 k ∧ (k = 0 → v = r) ∧ R z y'
def op_man (R : tc_X → tc_Y → Prop) : Prop := ∀ (x : tc_X) (y : tc_Y) (a1 a2 : Int32), R x y → ∃ (k : Nat) (r : Int32) (z : tc_X) (v : Int32) (y' : tc_Y), f_X2_man x a1 a2 = some (k, r, z) ∧ f_X3_man y a1 a2 = some (v, y') ∧ k ≤ 2 ∧ (k ≠ 0 → z = x) ∧ y' 0 0 = tc_c3 k ∧ (k = 0 → v = r) ∧ R z y'
def op_mend (R : tc_X → tc_Y → Prop) : Prop := ∀ (x : tc_X) (y : tc_Y) (a1 : Int32), R x y → ∃ (k : Nat) (r : Int32) (z : tc_X) (v : Int32) (y' : tc_Y), f_X2_mend x a1 = some (k, r, z) ∧ f_X3_mend y a1 = some (v, y') ∧ k ≤ 1 ∧ (k ≠ 0 → z = x) ∧ y' 0 0 = tc_c3 k ∧ (k = 0 → v = r) ∧ R z y'
def op_turn (R : tc_X → tc_Y → Prop) : Prop := ∀ (x : tc_X) (y : tc_Y) (a1 a2 : Int32), R x y → ∃ (k : Nat) (r : Int32) (z : tc_X) (v : Int32) (y' : tc_Y), f_X2_turn x a1 a2 = some (k, r, z) ∧ f_X3_turn y a1 a2 = some (v, y') ∧ (k = 0 ∨ k = 1 ∨ k = 3) ∧ (k ≠ 0 → z = x) ∧ y' 0 0 = tc_c13 k ∧ (k = 0 → v = r) ∧ R z y'
def op_hoist (R : tc_X → tc_Y → Prop) : Prop := ∀ (x : tc_X) (y : tc_Y) (a1 a2 : Int32), R x y → ∃ (k : Nat) (r : Int32) (z : tc_X) (v : Int32) (y' : tc_Y), f_X2_hoist x a1 a2 = some (k, r, z) ∧ f_X3_hoist y a1 a2 = some (v, y') ∧ k ≤ 3 ∧ (k ≠ 0 → z = x) ∧ y' 0 0 = tc_c3 k ∧ (k = 0 → v = r) ∧ R z y'
def op_take (R : tc_X → tc_Y → Prop) : Prop := ∀ (x : tc_X) (y : tc_Y) (a1 : Int32), R x y → ∃ (k : Nat) (r : Int32) (z : tc_X) (v : Int32) (y' : tc_Y), f_X2_take x a1 = some (k, r, z) ∧ f_X3_take y a1 = some (v, y') ∧ (k = 0 ∨ k = 1 ∨ k = 3) ∧ (k ≠ 0 → z = x) ∧ y' 0 0 = tc_c13 k ∧ (k = 0 → v = r) ∧ R z y'
def op_lay (R : tc_X → tc_Y → Prop) : Prop := ∀ (x : tc_X) (y : tc_Y) (a1 : Int32), R x y → ∃ (k : Nat) (r : Int32) (z : tc_X) (v : Int32) (y' : tc_Y), f_X2_lay x a1 = some (k, r, z) ∧ f_X3_lay y a1 = some (v, y') ∧ (k = 0 ∨ k = 1 ∨ k = 3) ∧ (k ≠ 0 → z = x) ∧ y' 0 0 = tc_c13 k ∧ (k = 0 → v = r) ∧ R z y'
def op_place (R : tc_X → tc_Y → Prop) : Prop := ∀ (x : tc_X) (y : tc_Y) (a1 a2 : Int32), R x y → ∃ (k : Nat) (r : Int32) (v : Int32) (y' : tc_Y), f_X2_place x a1 a2 = some (k, r) ∧ f_X3_place y a1 a2 = some (v, y') ∧ k ≤ 1 ∧  y' 0 0 = tc_c3 k ∧ (k = 0 → v = r) ∧ R x y'
def op_barrel (R : tc_X → tc_Y → Prop) : Prop := ∀ (x : tc_X) (y : tc_Y) (a1 a2 : Int32), R x y → ∃ (k : Nat) (r : Int32) (v : Int32) (y' : tc_Y), f_X2_barrel x a1 a2 = some (k, r) ∧ f_X3_barrel y a1 a2 = some (v, y') ∧ k ≤ 1 ∧  y' 0 0 = tc_c3 k ∧ (k = 0 → v = r) ∧ R x y'
def op_crane (R : tc_X → tc_Y → Prop) : Prop := ∀ (x : tc_X) (y : tc_Y) (a1 a2 : Int32), R x y → ∃ (k : Nat) (r : Int32) (v : Int32) (y' : tc_Y), f_X2_crane x a1 a2 = some (k, r) ∧ f_X3_crane y a1 a2 = some (v, y') ∧ k ≤ 1 ∧  y' 0 0 = tc_c3 k ∧ (k = 0 → v = r) ∧ R x y'
def op_count (R : tc_X → tc_Y → Prop) : Prop := ∀ (x : tc_X) (y : tc_Y) (a1 : Int32), R x y → ∃ (k : Nat) (r : Int32) (v : Int32) (y' : tc_Y), f_X2_count x a1 = some (k, r) ∧ f_X3_count y a1 = some (v, y') ∧ k ≤ 1 ∧  y' 0 0 = tc_c3 k ∧ (k = 0 → v = r) ∧ R x y'
def op_move (R : tc_X → tc_Y → Prop) : Prop := ∀ (x : tc_X) (y : tc_Y) (a1 a2 a3 : Int32), R x y → ∃ (k : Nat) (r : Int32) (v : Int32) (y' : tc_Y), f_X2_move x a1 a2 a3 = some (k, r) ∧ f_X3_move y a1 a2 a3 = some (v, y') ∧ k ≤ 1 ∧  y' 0 0 = tc_c3 k ∧ (k = 0 → v = r) ∧ R x y'
def op_best (R : tc_X → tc_Y → Prop) : Prop := ∀ (x : tc_X) (y : tc_Y) (a1 a2 : Int32), R x y → ∃ (k : Nat) (r : Int32) (v : Int32) (y' : tc_Y), f_X2_best x a1 a2 = some (k, r) ∧ f_X3_best y a1 a2 = some (v, y') ∧ k ≤ 1 ∧  y' 0 0 = tc_c3 k ∧ (k = 0 → v = r) ∧ R x y'
def op_lasts (R : tc_X → tc_Y → Prop) : Prop := ∀ (x : tc_X) (y : tc_Y) (a1 a2 : Int32), R x y → ∃ (k : Nat) (r : Int32) (v : Int32) (y' : tc_Y), f_X2_lasts x a1 a2 = some (k, r) ∧ f_X3_lasts y a1 a2 = some (v, y') ∧ k ≤ 2 ∧  y' 0 0 = tc_c3 k ∧ (k = 0 → v = r) ∧ R x y'
def op_within (R : tc_X → tc_Y → Prop) : Prop := ∀ (x : tc_X) (y : tc_Y) (a1 : Int32), R x y → ∃ (k : Nat) (r : Int32) (v : Int32) (y' : tc_Y), f_X2_within x a1 = some (k, r) ∧ f_X3_within y a1 = some (v, y') ∧ k ≤ 1 ∧  y' 0 0 = tc_c3 k ∧ (k = 0 → v = r) ∧ R x y'
def op_mean (R : tc_X → tc_Y → Prop) : Prop := ∀ (x : tc_X) (y : tc_Y), R x y → ∃ (v : UInt64) (y' : tc_Y), f_X2_mean x = some v ∧ f_X3_mean y = some (v, y') ∧ R x y'
def op_digest (R : tc_X → tc_Y → Prop) : Prop := ∀ (x : tc_X) (y : tc_Y), R x y → ∃ (v : Int64) (y' : tc_Y), f_X2_digest x = some v ∧ f_X3_digest y = some (v, y') ∧ R x y'
def tc_Ops (R : tc_X → tc_Y → Prop) : Prop := R tc_x0 (fun _ _ => 0) ∧ (∀ (x : tc_X) (y : tc_Y), R x y → tc_wf x) ∧ op_land R ∧ op_build R ∧ op_man R ∧ op_mend R ∧ op_turn R ∧ op_hoist R ∧ op_take R ∧ op_lay R ∧ op_place R ∧ op_barrel R ∧ op_crane R ∧ op_count R ∧ op_move R ∧ op_best R ∧ op_lasts R ∧ op_within R ∧ op_mean R ∧ op_digest R
theorem tc_head {j L : Nat} (hj : j ≤ L) (hL : L ≤ 2560) : (nI L - nI 5 < nI j) ↔ L < j + 5 := by
  by_cases h : 5 ≤ L
  · rw [pk_sub h, nI_ltI (by omega) (by omega)]; omega
  · have k : ∀ L, L < 5 → ∀ j, j < 5 → nI L - nI 5 < nI j := by decide
    exact ⟨fun _ => by omega, fun _ => k L (by omega) j (by omega)⟩
theorem tc_WC.reA {D : va_G} {cU cO : ClassId} {e0 : Nat} {A A' : Nat → Prop} {E : Nat → Nat} {x : tc_X} {H : Heap} (h : tc_WC D cU cO e0 A E x H) (q : ∀ i, tc_lv x i → A' (E i)) (he : ¬ A' e0) : tc_WC D cU cO e0 A' E x H := by
  obtain ⟨h0, h1, h2, h3, h4, h5, h6, h7, h8, h9⟩ := h
  exact ⟨h0, h1, h2, h3, h4, h5, h6, q, he, h9⟩
set_option maxHeartbeats 4000000 in
set_option maxRecDepth 100000 in
theorem law_loop {p : Program} {e : Env} {s : State} {m : MethodId} {below : List Frame} {meth : Method} {c : Code} (l : Launch) (hst : l.stackTraces = false) {b L : Nat} {xs : Nat → Int32} (hL : L ≤ 2560) (C0 : lw_At p s m meth c b L xs) {R : tc_X → tc_Y → Prop} (hOps : tc_Ops R) {D : va_G} {cU cO cI cJ : ClassId} {e0 : Nat} (hKX0 : tc_KX D cU cO cI e0 (fun q => s.heap.size ≤ q) s) (hKL0 : tc_KL D cJ s) {Em : Nat → Nat} {o : Nat} (n : Nat) : ∀ (t : Nat), t + n = 513 → 5 * t ≤ L → ∀ (E : Nat → Nat) (x : tc_X) (y : tc_Y) (H : Heap) (locs : List Loc) (d0 : Drawn), s.drawn.sameBut d0 lw_cs → tc_Inv R D cU cO cI cJ e0 s.heap.size E Em o x y H → va_S (fun q => s.heap.size ≤ q) s.heap H locs → ∀ ls : Array Slot, lv_has ls 9 (tc_lw b o (5 * t) E Em) → W p l e room_1 (s.setDrawn d0) m #[Value.ref b] below meth c H locs (17 + t * 400) (202 + t * 2300) (lw_Z below #[Value.ref b] s) (F0 m 23 ls []) := by
  induction n with
  | zero => intro t ht hj; omega
  | succ n ih =>
    intro t ht htL E x y H locs d0 hd0 hI hS ls hl
    obtain ⟨hx, hb, hr, hml, hown, hts0, hX, hbl, hlocks, hgv⟩ := id C0
    have hbA : ¬ (fun q : Nat => s.heap.size ≤ q) b := Nat.not_le.mpr hbl
    have hX : va_X b L xs (s.setDrawn d0) s.heap := hX
    have hlw := hl
    have hl : lv_has ls 9 [(4, .int (nI (5 * t))), (3, .ref o), (2, .ref (Em 0)), (1, .ref (E 0)), (0, .ref b)] := hl
    refine lv_iload hx hb dL_law_23 (lv_at hl 0 rfl) ?_
    refine lv_aload_n hx hb dL_law_25 rfl (lv_at hl 4 rfl) ?_
    refine va_slen hx hb hX hbl hbA hS dL_law_26 ?_
    refine lv_iconst (v := nI 5) hx hb dL_law_27 (by decide) ?_
    refine lv_isub hx hb dL_law_28 ?_
    refine lv_icmp_gt (tgt := 1249) hx hb dL_law_29 (by decide) (fun _ => ?_) (fun c1 => ?_)
    · refine lv_iconst (v := 1) hx hb dL_law_1249 (by decide) ?_
      refine va_forget (fun q hq => hS.2.2 q hq) ?_
      refine W.widen (k := 847852) (n := 6552547) (by omega) (by omega) ?_
      exact lw_ret hd0 hx hb hr hlocks dL_law_1250
    · have hj : 5 * t + 5 ≤ L := Nat.not_lt.mp (fun z => c1 ((tc_head htL hL).mpr z))
      have hcc : 17 + t * 400 + 400 ≤ 847852 := by omega
      have hss : 202 + t * 2300 + 2300 ≤ 6552547 := by omega
      have K : ∀ (E' : Nat → Nat) (x' : tc_X) (y' : tc_Y) (H' : Heap) (locs' : List Loc) (d1 : Drawn), s.drawn.sameBut d1 lw_cs → tc_Inv R D cU cO cI cJ e0 s.heap.size E' Em o x' y' H' → va_S (fun q => s.heap.size ≤ q) s.heap H' locs' → ∀ ls', lv_has ls' 9 (tc_lw b o (5 * t) E' Em) → W p l e room_1 (s.setDrawn d1) m #[Value.ref b] below meth c H' locs' (17 + t * 400 + 400) (202 + t * 2300 + 2300) (lw_Z below #[Value.ref b] s) (F0 m 1243 ls' []) := by
        intro E' x' y' H' locs' d1 hd1 hI' hS' ls' hl'
        have hl' : lv_has ls' 9 [(4, .int (nI (5 * t))), (3, .ref o), (2, .ref (Em 0)), (1, .ref (E' 0)), (0, .ref b)] := hl'
        obtain ⟨w, ew⟩ : ∃ z : Int32, z = nI (5 * t) + 5 := ⟨_, rfl⟩
        refine lv_iinc (v := w) (lv' := [(4, .int w), (3, .ref o), (2, .ref (Em 0)), (1, .ref (E' 0)), (0, .ref b)]) hx hb dL_law_1243 hl' (k := 0) rfl (by rw [ew]; rfl) (by decide) rfl (fun ls2 hl2 => ?_)
        have ew2 : w = nI (5 * (t + 1)) := ew.trans (nI_add (5 * t) 5)
        subst ew2
        refine lv_goto (tgt := 23) hx hb dL_law_1246 (by decide) ?_
        refine W.widen (k := 17 + (t + 1) * 400) (n := 202 + (t + 1) * 2300) (by omega) (by omega) ?_
        exact ih (t + 1) (by omega) (by omega) E' x' y' H' locs' d1 hd1 hI' hS' ls2 hl2
      refine lv_aload_n hx hb dL_law_32 rfl (lv_at hl 4 rfl) ?_
      refine lv_iload hx hb dL_law_33 (lv_at hl 0 rfl) ?_
      refine va_sld hx hb hX hbl hbA hS (vp_in_nI (by omega) (by omega)) dL_law_35 ?_
      refine lv_bipush (v := 31) hx hb dL_law_36 (by decide) ?_
      refine lv_iand hx hb dL_law_38 ?_
      generalize xs (nI (5 * t)).toNatClampNeg &&& 31 = w
      by_cases c100 : w = 0
      · refine lv_tableIn (off := 85) (tgt := 124) hx hb dL_law_39 (by rw [c100]; decide) (by rw [c100]; decide) (by rw [c100]; decide +kernel) (by decide) ?_
        exact law_land l hst hL C0 (hOps.2.2.1) hOps.2.1 hKX0 hKL0 hd0 hj hlw hI hS hcc hss K
      by_cases c101 : w = 1
      · refine lv_tableIn (off := 153) (tgt := 192) hx hb dL_law_39 (by rw [c101]; decide) (by rw [c101]; decide) (by rw [c101]; decide +kernel) (by decide) ?_
        exact law_build l hst hL C0 (hOps.2.2.2.1) hOps.2.1 hKX0 hKL0 hd0 hj hlw hI hS hcc hss K
      by_cases c102 : w = 2
      · refine lv_tableIn (off := 245) (tgt := 284) hx hb dL_law_39 (by rw [c102]; decide) (by rw [c102]; decide) (by rw [c102]; decide +kernel) (by decide) ?_
        exact law_man l hst hL C0 (hOps.2.2.2.2.1) hKX0 hKL0 hd0 hj hlw hI hS hcc hss K
      by_cases c103 : w = 3
      · refine lv_tableIn (off := 313) (tgt := 352) hx hb dL_law_39 (by rw [c103]; decide) (by rw [c103]; decide) (by rw [c103]; decide +kernel) (by decide) ?_
        exact law_mend l hst hL C0 (hOps.2.2.2.2.2.1) hKX0 hKL0 hd0 hj hlw hI hS hcc hss K
      by_cases c104 : w = 4
      · refine lv_tableIn (off := 369) (tgt := 408) hx hb dL_law_39 (by rw [c104]; decide) (by rw [c104]; decide) (by rw [c104]; decide +kernel) (by decide) ?_
        exact law_turn l hst hL C0 (hOps.2.2.2.2.2.2.1) hKX0 hKL0 hd0 hj hlw hI hS hcc hss K
      by_cases c105 : w = 5
      · refine lv_tableIn (off := 437) (tgt := 476) hx hb dL_law_39 (by rw [c105]; decide) (by rw [c105]; decide) (by rw [c105]; decide +kernel) (by decide) ?_
        exact law_hoist l hst hL C0 (hOps.2.2.2.2.2.2.2.1) hKX0 hKL0 hd0 hj hlw hI hS hcc hss K
      by_cases c106 : w = 6
      · refine lv_tableIn (off := 505) (tgt := 544) hx hb dL_law_39 (by rw [c106]; decide) (by rw [c106]; decide) (by rw [c106]; decide +kernel) (by decide) ?_
        exact law_take l hst hL C0 (hOps.2.2.2.2.2.2.2.2.1) hKX0 hKL0 hd0 hj hlw hI hS hcc hss K
      by_cases c107 : w = 7
      · refine lv_tableIn (off := 561) (tgt := 600) hx hb dL_law_39 (by rw [c107]; decide) (by rw [c107]; decide) (by rw [c107]; decide +kernel) (by decide) ?_
        exact law_lay l hst hL C0 (hOps.2.2.2.2.2.2.2.2.2.1) hKX0 hKL0 hd0 hj hlw hI hS hcc hss K
      by_cases c108 : w = 8
      · refine lv_tableIn (off := 617) (tgt := 656) hx hb dL_law_39 (by rw [c108]; decide) (by rw [c108]; decide) (by rw [c108]; decide +kernel) (by decide) ?_
        exact law_place l hst hL C0 (hOps.2.2.2.2.2.2.2.2.2.2.1) hKX0 hKL0 hd0 hj hlw hI hS hcc hss K
      by_cases c109 : w = 9
      · refine lv_tableIn (off := 685) (tgt := 724) hx hb dL_law_39 (by rw [c109]; decide) (by rw [c109]; decide) (by rw [c109]; decide +kernel) (by decide) ?_
        exact law_barrel l hst hL C0 (hOps.2.2.2.2.2.2.2.2.2.2.2.1) hKX0 hKL0 hd0 hj hlw hI hS hcc hss K
      by_cases c110 : w = 10
      · refine lv_tableIn (off := 753) (tgt := 792) hx hb dL_law_39 (by rw [c110]; decide) (by rw [c110]; decide) (by rw [c110]; decide +kernel) (by decide) ?_
        exact law_crane l hst hL C0 (hOps.2.2.2.2.2.2.2.2.2.2.2.2.1) hKX0 hKL0 hd0 hj hlw hI hS hcc hss K
      by_cases c111 : w = 11
      · refine lv_tableIn (off := 821) (tgt := 860) hx hb dL_law_39 (by rw [c111]; decide) (by rw [c111]; decide) (by rw [c111]; decide +kernel) (by decide) ?_
        exact law_count l hst hL C0 (hOps.2.2.2.2.2.2.2.2.2.2.2.2.2.1) hKX0 hKL0 hd0 hj hlw hI hS hcc hss K
      by_cases c112 : w = 12
      · refine lv_tableIn (off := 877) (tgt := 916) hx hb dL_law_39 (by rw [c112]; decide) (by rw [c112]; decide) (by rw [c112]; decide +kernel) (by decide) ?_
        exact law_move l hst hL C0 (hOps.2.2.2.2.2.2.2.2.2.2.2.2.2.2.1) hKX0 hKL0 hd0 hj hlw hI hS hcc hss K
      by_cases c113 : w = 13
      · refine lv_tableIn (off := 957) (tgt := 996) hx hb dL_law_39 (by rw [c113]; decide) (by rw [c113]; decide) (by rw [c113]; decide +kernel) (by decide) ?_
        exact law_best l hst hL C0 (hOps.2.2.2.2.2.2.2.2.2.2.2.2.2.2.2.1) hKX0 hKL0 hd0 hj hlw hI hS hcc hss K
      by_cases c114 : w = 14
      · refine lv_tableIn (off := 1025) (tgt := 1064) hx hb dL_law_39 (by rw [c114]; decide) (by rw [c114]; decide) (by rw [c114]; decide +kernel) (by decide) ?_
        exact law_lasts l hst hL C0 (hOps.2.2.2.2.2.2.2.2.2.2.2.2.2.2.2.2.1) hKX0 hKL0 hd0 hj hlw hI hS hcc hss K
      by_cases c115 : w = 15
      · refine lv_tableIn (off := 1093) (tgt := 1132) hx hb dL_law_39 (by rw [c115]; decide) (by rw [c115]; decide) (by rw [c115]; decide +kernel) (by decide) ?_
        exact law_within l hst hL C0 (hOps.2.2.2.2.2.2.2.2.2.2.2.2.2.2.2.2.2.1) hKX0 hKL0 hd0 hj hlw hI hS hcc hss K
      by_cases c116 : w = 16
      · refine lv_tableIn (off := 1149) (tgt := 1188) hx hb dL_law_39 (by rw [c116]; decide) (by rw [c116]; decide) (by rw [c116]; decide +kernel) (by decide) ?_
        exact law_mean l hst hL C0 (hOps.2.2.2.2.2.2.2.2.2.2.2.2.2.2.2.2.2.2.1) hKX0 hKL0 hd0 hj hlw hI hS hcc hss K
      by_cases c117 : w = 17
      · refine lv_tableIn (off := 1190) (tgt := 1229) hx hb dL_law_39 (by rw [c117]; decide) (by rw [c117]; decide) (by rw [c117]; decide +kernel) (by decide) ?_
        exact law_digest l hst hL C0 (hOps.2.2.2.2.2.2.2.2.2.2.2.2.2.2.2.2.2.2.2) hKX0 hKL0 hd0 hj hlw hI hS hcc hss K
      refine lv_tableOut (tgt := 1243) hx hb dL_law_39 (by have q0 := lv_neT c100 (a := 0) (by decide); have q1 := lv_neT c101 (a := 1) (by decide); have q2 := lv_neT c102 (a := 2) (by decide); have q3 := lv_neT c103 (a := 3) (by decide); have q4 := lv_neT c104 (a := 4) (by decide); have q5 := lv_neT c105 (a := 5) (by decide); have q6 := lv_neT c106 (a := 6) (by decide); have q7 := lv_neT c107 (a := 7) (by decide); have q8 := lv_neT c108 (a := 8) (by decide); have q9 := lv_neT c109 (a := 9) (by decide); have q10 := lv_neT c110 (a := 10) (by decide); have q11 := lv_neT c111 (a := 11) (by decide); have q12 := lv_neT c112 (a := 12) (by decide); have q13 := lv_neT c113 (a := 13) (by decide); have q14 := lv_neT c114 (a := 14) (by decide); have q15 := lv_neT c115 (a := 15) (by decide); have q16 := lv_neT c116 (a := 16) (by decide); have q17 := lv_neT c117 (a := 17) (by decide); omega) (by decide) ?_
      refine W.widen (k := 17 + t * 400 + 400) (n := 202 + t * 2300 + 2300) (by omega) (by omega) ?_
      exact K E x y H locs d0 hd0 hI hS ls hlw
set_option maxHeartbeats 4000000 in
set_option maxRecDepth 100000 in
theorem law_start {p : Program} {e : Env} {s : State} {m : MethodId} {below : List Frame} {meth : Method} {c : Code} (l : Launch) (hst : l.stackTraces = false) {R : tc_X → tc_Y → Prop} (hOps : tc_Ops R) {b L : Nat} {xs : Nat → Int32} (hL : L ≤ 2560) (C0 : lw_At p s m meth c b L xs) : W p l e room_1 s m #[Value.ref b] below meth c s.heap [] 0 0 (lw_Z below #[Value.ref b] s) (entryFrame m ([Value.ref b] : List Value).toArray 9) := by
  obtain ⟨hx, hb, hr, hml, hown, hts0, hX, hbl, hlocks, hgv⟩ := id C0
  obtain ⟨D, cU, cO, cI, cJ, e0, hKX0, hKL0, he0⟩ := tc_facts C0
  have hd0 := Drawn.sameBut.refl s.drawn lw_cs
  have hts : ∀ w ∈ wsL_law, w.before #[Value.ref b] s = true := fun w h => hts0 w (wsL_law_in w h)
  have hK := hKX0.1.1
  have hA : ∀ q : Nat, s.heap.size ≤ q → (fun q : Nat => s.heap.size ≤ q) q := fun _ h => h
  have hS : va_S (fun q : Nat => s.heap.size ≤ q) s.heap s.heap [] := va_S.rf
  have he0' : ¬ (fun q : Nat => s.heap.size ≤ q) e0 := Nat.not_le.mpr he0
  have hl := lv_entry ([.ref b]) (n := 9) (Nat.le_of_ble_eq_true rfl)
  rw [lg_entry_eq]
  generalize (lg_sl ([.ref b]) ++ List.replicate (9 - (lg_sl ([.ref b])).length) Slot.unset).toArray = ls at hl ⊢
  have hl : lv_has ls 9 [(0, .ref b)] := hl
  refine tc_newC (ci := 3) (fs := [.null, .null, .null, .int 0]) hx hb hts inlX2 tyX2 tyX2_ok hown (hts0 (.classLink RL 8 RX2) (by decide +kernel)) (hts0 (.instantiable RX2 4) (by decide +kernel)) (hts0 (.initialized RX2) (by decide +kernel)) hK hS hA rfl (fun j hj => by rcases (show j = 0 ∨ j = 1 ∨ j = 2 ∨ j = 3 by omega) with rfl | rfl | rfl | rfl <;> rfl) (Nat.le_of_ble_eq_true rfl) (Nat.le_of_ble_eq_true rfl) dL_law_0 (fun q0 H hq0 hA0 e1 z1 o1 hS => ?_)
  refine lv_dup hx hb dL_law_3 rfl ?_
  refine tc_cwv (va_runI (As := []) (rest := [.ref q0]) ⟨hx, hb, hml, hown, hts⟩ (mt_X2_init l D cU cO cI e0 (fun q => s.heap.size ≤ q) q0 hA0 he0') (cwI 0 hts gL_law_X2_init rfl rfl rfl (hts0 (.initialized RX2) (by decide +kernel)) (hts0 (.methodLink RL 67 yX2_init) (by decide +kernel)) (hts0 (.instanceMethod yX2_init) (by decide +kernel)) rfl (by decide +kernel) ⟨Nat.le_of_ble_eq_true rfl, Nat.le_of_ble_eq_true rfl⟩) ⟨fun a U g mk q => ⟨q.1, q.2.1, q.2.2.call⟩, fun U hU hW9 => ⟨rfl, by rw [hU]; exact e1, hKX0.go hS hU hW9⟩⟩ rfl rfl hl.1 rfl (lv_room (Nat.le_of_ble_eq_true rfl)) dL_law_4 ⟨Nat.le_of_ble_eq_true rfl, Nat.le_of_ble_eq_true rfl⟩) hS (fun _ _ h => h) (fun _ h => h) (fun H locs hE z2 o2 hS => ?_)
  obtain ⟨E, hE0, hW⟩ := hE
  subst hE0
  refine lv_astore_n (lv' := [(1, .ref (E 0)), (0, .ref b)]) hx hb dL_law_7 rfl hl (by decide) rfl (fun ls hl => ?_)
  refine tc_newC (ci := 4) (fs := [.int 0, .int 0, .int 0, .null, .null, .null, .int 0, .null, .null, .null, .null, .null, .null, .null, .null]) hx hb hts inlX3 tyX3 tyX3_ok hown (hts0 (.classLink RL 68 RX3) (by decide +kernel)) (hts0 (.instantiable RX3 15) (by decide +kernel)) (hts0 (.initialized RX3) (by decide +kernel)) hK hS hA rfl (fun j hj => by rcases (show j = 0 ∨ j = 1 ∨ j = 2 ∨ j = 3 ∨ j = 4 ∨ j = 5 ∨ j = 6 ∨ j = 7 ∨ j = 8 ∨ j = 9 ∨ j = 10 ∨ j = 11 ∨ j = 12 ∨ j = 13 ∨ j = 14 by omega) with rfl | rfl | rfl | rfl | rfl | rfl | rfl | rfl | rfl | rfl | rfl | rfl | rfl | rfl | rfl <;> rfl) (Nat.le_of_ble_eq_true rfl) (Nat.le_of_ble_eq_true rfl) dL_law_8 (fun q1 H hq1 hA1 e3 z3 o3 hS => ?_)
  have hn1 := hW.ne hq1
  have hW := hW.grown o3
  refine lv_dup hx hb dL_law_11 rfl ?_
  have hB1 : ∀ q, H.size ≤ q → s.heap.size ≤ q ∧ ∀ i, tc_lv tc_x0 i → q ≠ E i := fun q hq => ⟨Nat.le_trans hS.1 hq, fun i hi z => absurd (hW.lt hi) (Nat.not_lt.mpr (by rw [← z]; exact hq))⟩
  refine tc_cwv (va_runI (As := []) (rest := [.ref q1]) ⟨hx, hb, hml, hown, hts⟩ (mt_X3_init l D cU cO cI (fun q => s.heap.size ≤ q ∧ ∀ i, tc_lv tc_x0 i → q ≠ E i) q1 ⟨hA1, fun i hi z => hn1 i hi z.symm⟩) (cwI 0 hts gL_law_X3_init rfl rfl rfl (hts0 (.initialized RX3) (by decide +kernel)) (hts0 (.methodLink RL 70 yX3_init) (by decide +kernel)) (hts0 (.instanceMethod yX3_init) (by decide +kernel)) rfl (by decide +kernel) ⟨Nat.le_of_ble_eq_true rfl, Nat.le_of_ble_eq_true rfl⟩) ⟨fun a U g mk q => ⟨q.1, q.2.1, q.2.2.call⟩, fun U hU hW9 => ⟨rfl, by rw [hU]; exact e3, va_K.moved hW9.alike hK, by rw [hU]; exact hB1⟩⟩ rfl rfl hl.1 rfl (lv_room (Nat.le_of_ble_eq_true rfl)) dL_law_12 ⟨Nat.le_of_ble_eq_true rfl, Nat.le_of_ble_eq_true rfl⟩) hS (fun _ _ h => h.1) (fun _ h => h.1) (fun H locs hEm z4 o4 hS => ?_)
  obtain ⟨Em, hEm0, hM⟩ := hEm
  subst hEm0
  have hW := hW.kept2 (fun j hj => o4 _ (hW.lt hj) (fun z => z.2 j hj rfl))
  refine lv_astore_n (lv' := [(2, .ref (Em 0)), (1, .ref (E 0)), (0, .ref b)]) hx hb dL_law_15 rfl hl (by decide) rfl (fun ls hl => ?_)
  refine lv_iconst (v := 1) hx hb dL_law_16 (by decide) ?_
  refine va_newaK (N := 1) (atype := .long) hx hb (hts0 (.arrayClass .long) (by decide +kernel)) rfl dL_law_17 rfl (by decide) (by decide) (by decide) (Nat.le_of_ble_eq_true rfl) (Nat.le_of_ble_eq_true rfl) rfl fun H5 cA e5 z5 o5 hAr hNm => ?_
  have hcJ : cA = cJ := Option.some.inj (hNm.symm.trans (hKL0.1.2 0 _ rfl).2)
  subst hcJ
  have hS : va_S (fun q : Nat => s.heap.size ≤ q) s.heap H5 locs := tc_S_new hS z5 o5
  have hso : s.heap.size ≤ H.size := Nat.le_trans (Nat.le_trans (Nat.le_refl _) (by have := hS.1; omega)) (Nat.le_refl _)
  have hnoE : ∀ i, tc_lv tc_x0 i → E i ≠ H.size := fun i hi z => absurd (hW.lt hi) (by rw [z]; exact Nat.lt_irrefl _)
  have hnoM : ∀ i, tc_lm i → Em i ≠ H.size := fun i hi z => absurd (hM.lt hi) (by rw [z]; exact Nat.lt_irrefl _)
  have hI : tc_Inv R D cU cO cI cA e0 s.heap.size E Em H.size tc_x0 (fun _ _ => 0) H5 := ⟨(hW.grown o5).reA (fun i hi => ⟨hW.own hi, fun j hj z => (hM.own hj).2 i hi z.symm, hnoE i hi⟩) (fun z => he0' z.1), (hM.grown o5).reA (fun i hi => ⟨(hM.own hi).1, (hM.own hi).2, hnoM i hi⟩), ⟨fun _ => 0, e5⟩, hso, hOps.1⟩
  refine W.eq (g2 := F0 m 19 ls [.ref H.size]) rfl ?_
  refine lv_astore_n (lv' := [(3, .ref H.size), (2, .ref (Em 0)), (1, .ref (E 0)), (0, .ref b)]) hx hb dL_law_19 rfl hl (by decide) rfl (fun ls hl => ?_)
  refine lv_iconst (v := nI 0) hx hb dL_law_20 (by decide) ?_
  refine lv_istore (lv' := [(4, .int (nI 0)), (3, .ref H.size), (2, .ref (Em 0)), (1, .ref (E 0)), (0, .ref b)]) hx hb dL_law_21 hl (by decide) rfl (fun ls hl => ?_)
  refine W.base ?_
  refine W.widen (k := 17 + 0 * 400) (n := 202 + 0 * 2300) (by decide) (by decide) ?_
  exact law_loop l hst hL C0 hOps hKX0 hKL0 513 0 rfl (Nat.zero_le _) E tc_x0 (fun _ _ => 0) H5 locs s.drawn hd0 hI hS ls hl
