/-! The law's cases (written by wip/whole/hand4.py). -/
def tc_AC (sz : Nat) (Em : Nat → Nat) (o q : Nat) : Prop := sz ≤ q ∧ (∀ j, tc_lm j → q ≠ Em j) ∧ q ≠ o
def tc_AM (sz : Nat) (E : Nat → Nat) (x : tc_X) (o q : Nat) : Prop := sz ≤ q ∧ (∀ i, tc_lv x i → q ≠ E i) ∧ q ≠ o
def tc_Inv (R : tc_X → tc_Y → Prop) (D : va_G) (cU cO cI cJ : ClassId) (e0 sz : Nat) (E Em : Nat → Nat) (o : Nat) (x : tc_X) (y : tc_Y) (H : Heap) : Prop := tc_WC D cU cO e0 (tc_AC sz Em o) E x H ∧ tc_WM D cI (tc_AM sz E x o) Em y H ∧ (∃ fj : Nat → Int64, va_at D vwCl (o, .inl (cJ, 1, .inr (.inl fj))) H) ∧ sz ≤ o ∧ R x y
section TCV
variable {R : tc_X → tc_Y → Prop} {D : va_G} {cU cO cI cJ : ClassId} {e0 sz : Nat} {E Em E9 : Nat → Nat} {o : Nat} {x z : tc_X} {y y' : tc_Y} {H H1 H2 : Heap} {A A' : Nat → Prop}
theorem tc_WM.reA (h : tc_WM D cI A Em y H) (q : ∀ i, tc_lm i → A' (Em i)) : tc_WM D cI A' Em y H := ⟨h.1, h.2.1, h.2.2.1, h.2.2.2.1, q⟩
theorem tc_WM.lt (h : tc_WM D cI A Em y H) {i : Nat} (hi : tc_lm i) : Em i < H.size := Nat.lt_of_not_le (fun z => h.ne z i hi rfl)
theorem tc_KX.narrow {U : State} (h : tc_KX D cU cO cI e0 A U) (hs : ∀ q, A' q → A q) (hA : ∀ q, U.heap.size ≤ q → A' q) : tc_KX D cU cO cI e0 A' U := by
  obtain ⟨h1, h2, h3, h4, h5, h6, h0, h7, h8, h9, g1, g⟩ := h
  exact ⟨h1, hA, h3.narrow hs, h4.narrow hs, h5.narrow hs, h6, h0, h7, h8, h9, g1.narrow hs, g⟩
theorem tc_KX.drawn {s : State} (h : tc_KX D cU cO cI e0 A s) (d : Drawn) : tc_KX D cU cO cI e0 A (s.setDrawn d) := by
  obtain ⟨h1, h2, h3, h4, h5, h6, h0, h7, h8, h9, g1, ⟨mi, g2⟩, g3, g4, g5, g6, g7⟩ := h
  have al : s.vm.Alike (s.setDrawn d).vm := Vm.Alike.refl s.vm
  exact ⟨⟨va_K.moved al h1.1, va_Nw.same rfl rfl h1.2.1, va_Nw.same rfl rfl h1.2.2⟩, h2, vx_Zq.moved al h3, vx_Zq.moved al h4, va_Z.moved al h5, fun q hq => (h6 q hq).elim fun sa z => ⟨sa, vk_R.same rfl z⟩, fun n hn => va_Nw.same rfl rfl (h0 n hn), va_Nw.same rfl rfl h7, va_Nw.same rfl rfl h8, va_Nw.same rfl rfl h9, va_T.moved al g1, ⟨mi, va_Mi.moved al g2⟩, va_Dc.moved al g3, va_AO.moved al g4, va_AO.moved al g5, va_Nw.same rfl rfl g6, va_Nw.same rfl rfl g7⟩
theorem tc_AC_sz {q : Nat} (h : tc_AC sz Em o q) : sz ≤ q := h.1
theorem tc_AC_new (hM : tc_WM D cI A Em y H) (ho : o < H.size) (hsz : sz ≤ H.size) : ∀ q, H.size ≤ q → tc_AC sz Em o q := fun q hq => ⟨Nat.le_trans hsz hq, fun j hj z => absurd (hM.lt hj) (Nat.not_lt.mpr (by rw [← z]; exact hq)), fun z => absurd ho (Nat.not_lt.mpr (by rw [← z]; exact hq))⟩
theorem tc_AM_new (hW : tc_WC D cU cO e0 A E x H) (ho : o < H.size) (hsz : sz ≤ H.size) : ∀ q, H.size ≤ q → tc_AM sz E x o q := fun q hq => ⟨Nat.le_trans hsz hq, fun j hj z => absurd (hW.lt hj) (Nat.not_lt.mpr (by rw [← z]; exact hq)), fun z => absurd ho (Nat.not_lt.mpr (by rw [← z]; exact hq))⟩
/-- behind a call of the class -/
theorem tc_Inv.afterC {Pf : (Nat → Int64) → Prop} (hI : tc_Inv R D cU cO cI cJ e0 sz E Em o x y H) (hB : (∃ E9 : Nat → Nat, E9 0 = E 0 ∧ tc_WC D cU cO e0 (tc_AC sz Em o) E9 z H1) ∧ ∃ fj9 : Nat → Int64, va_at D vwCl (o, .inl (cJ, 1, .inr (.inl fj9))) H1 ∧ Pf fj9) (fr : ∀ q : Nat, q < H.size → ¬ (tc_AC sz Em o q ∨ q = o) → H1[q]? = H[q]?) : ∃ (E9 : Nat → Nat) (fj9 : Nat → Int64), E9 0 = E 0 ∧ tc_WC D cU cO e0 (tc_AC sz Em o) E9 z H1 ∧ tc_WM D cI (tc_AM sz E9 z o) Em y H1 ∧ va_at D vwCl (o, .inl (cJ, 1, .inr (.inl fj9))) H1 ∧ Pf fj9 := by
  obtain ⟨⟨E9, e9, hW9⟩, fj9, hO9, hP9⟩ := hB
  obtain ⟨hW, hM, hO, hso, hR⟩ := hI
  refine ⟨E9, fj9, e9, hW9, (hM.kept2 (fun j hj => fr _ (hM.lt hj) (fun q => ?_))).reA (fun j hj => ?_), hO9, hP9⟩
  · have k := hM.own hj
    exact q.elim (fun q => q.2.1 j hj rfl) (fun q => k.2.2 q)
  · have k := hM.own hj
    exact ⟨k.1, fun i hi q => (hW9.own hi).2.1 j hj q.symm, k.2.2⟩
/-- behind a call of the reference -/
theorem tc_Inv.afterM {fj : Nat → Int64} (hW : tc_WC D cU cO e0 (tc_AC sz Em o) E x H1) (hO : va_at D vwCl (o, .inl (cJ, 1, .inr (.inl fj))) H1) (hso : sz ≤ o) (hM : tc_WM D cI (tc_AM sz E x o) Em y H2) (hR : R x y) (fr : ∀ q : Nat, q < H1.size → ¬ tc_AM sz E x o q → H2[q]? = H1[q]?) : tc_Inv R D cU cO cI cJ e0 sz E Em o x y H2 ∧ va_at D vwCl (o, .inl (cJ, 1, .inr (.inl fj))) H2 := by
  have hO2 := hO.kept (fr o hO.lt (fun q => q.2.2 rfl))
  exact ⟨⟨hW.kept2 (fun j hj => fr _ (hW.lt hj) (fun q => q.2.1 j hj rfl)), hM, ⟨fj, hO2⟩, hso, hR⟩, hO2⟩
end TCV
theorem tc_c3_0 {k : Nat} (h : tc_c3 k = 0) : k = 0 := by
  unfold tc_c3 at h
  by_cases h0 : k = 0
  · exact h0
  · rw [if_neg h0] at h
    by_cases h1 : k = 1
    · rw [if_pos h1] at h; exact absurd h (by decide)
    · rw [if_neg h1] at h
      by_cases h2 : k = 2
      · rw [if_pos h2] at h; exact absurd h (by decide)
      · rw [if_neg h2] at h; exact absurd h (by decide)
theorem tc_c13_0 {k : Nat} (h : tc_c13 k = 0) : k = 0 := by
  unfold tc_c13 at h
  by_cases h0 : k = 0
  · exact h0
  · rw [if_neg h0] at h
    by_cases h1 : k = 1
    · rw [if_pos h1] at h; exact absurd h (by decide)
    · rw [if_neg h1] at h; exact absurd h (by decide)
theorem tc_cmp0 (x : Int64) : lg_cmp x x = 0 := by simp [lg_cmp]
theorem tc_hin {j k L : Nat} (h : j + 5 ≤ L) (hk : k < 5) (hL : L ≤ 2560) : vp_in (nI j + nI k) L := by
  rw [nI_add]; exact vp_in_nI (by omega) (by omega)
theorem tc_cdD {cs : List Choice} {p : Program} {l : Launch} {e : Env} {R : Room} {s : State} {m : MethodId} {args : Array Value} {below : List Frame} {meth : Method} {c : Code} {H : Heap} {locs : List Loc} {cells slots : Nat} {Q : State → Prop} {mc ms : Nat} {free : Addr → Prop} {A0 A1 : Nat → Prop} {H0 : Heap} {a : Array Value} {pc : Nat} {ls : Array Slot} {st0 rest : List Value} {v : UInt64} {B : Heap → Prop} {d0 : Drawn} (hd0 : s.drawn.sameBut d0 cs) (hr : va_RunD cs p l e R (s.setDrawn d0) m args below meth c H locs cells slots mc ms (F0 m pc ls st0) rest (tc_QD v B A1 a) free) (hS : va_S A0 H0 H locs) (hA : ∀ q, q < H.size → A1 q → A0 q) (hf : ∀ q, free q → A0 q)
    (kk : ∀ (r : UInt64) (H1 : Heap) (locs1 : List Loc), alike64 r v = true → B H1 → H.size ≤ H1.size → (∀ q : Nat, q < H.size → ¬ A1 q → H1[q]? = H[q]?) → va_S A0 H0 H1 locs1 → ∀ d' : Drawn, s.drawn.sameBut d' cs → W p l e R (s.setDrawn d') m args below meth c H1 locs1 (cells + mc) (slots + ms) Q (F0 m (pc + 3) ls (.double r :: rest))) : W p l e R (s.setDrawn d0) m args below meth c H locs cells slots Q (F0 m pc ls st0) := by
  intro T hT X
  obtain ⟨v, st₀, t, T', L, d', hd', h0, X', hL, e1, e2, ⟨⟨r, hv, hp, hb⟩, hF⟩, st⟩ := hr T hT X
  cases hv
  obtain ⟨k1, k2, k3⟩ := vx_keep h0 e1 hS hA hf hL hF
  obtain ⟨t2, a1, b1⟩ := kk r T'.heap (locs ++ L) hp (by rw [e1]; exact hb) k1 k2 k3 d' (hd0.trans hd') T' rfl X'
  exact ⟨t2, st t2 a1, b1⟩
theorem tc_nan {b : UInt64} (h : isNaN64 b = true) : FP.Core.decode FP.Core.b64 b.toNat = .nan := by
  have h1 := isNaN64_iff.mp h
  have h2 : b.toNat &&& 0x7fffffffffffffff = b.toNat % 2 ^ 63 := Nat.and_two_pow_sub_one_eq_mod b.toNat 63
  rw [h2] at h1
  have hE : FP.Core.fieldE FP.Core.b64 b.toNat = FP.Core.b64.exps - 1 := by
    show b.toNat / 2 ^ 52 % 2 ^ 11 = 2047
    omega
  have hT : ¬ FP.Core.fieldT FP.Core.b64 b.toNat = 0 := by
    show ¬ b.toNat % 2 ^ 52 = 0
    omega
  unfold FP.Core.decode
  rw [if_pos hE, if_neg hT]
theorem tc_nanne {b : UInt64} (h : isNaN64 b = true) : ¬ Op.cmpValue (FP.dcmp b b) .l = 0 := by
  have k : FP.dcmp b b = none := by
    show FP.Core.order (FP.Core.decode FP.Core.b64 b.toNat) (FP.Core.decode FP.Core.b64 b.toNat) = none
    rw [tc_nan h]; rfl
  rw [k]; decide
abbrev tc_lw (b o j : Nat) (E Em : Nat → Nat) : List (Nat × Value) := [(4, .int (nI j)), (3, .ref o), (2, .ref (Em 0)), (1, .ref (E 0)), (0, .ref b)]
set_option maxHeartbeats 4000000 in
set_option maxRecDepth 100000 in
theorem law_land {p : Program} {e : Env} {s : State} {m : MethodId} {below : List Frame} {meth : Method} {c : Code} (l : Launch) (hst : l.stackTraces = false) {b L : Nat} {xs : Nat → Int32} (hL : L ≤ 2560) (C0 : lw_At p s m meth c b L xs) {R : tc_X → tc_Y → Prop} (hop : ∀ (x : tc_X) (y : tc_Y) (a1 a2 : Int32), R x y → ∃ (k : Nat) (r : Int32) (z : tc_X) (v : Int32) (y' : tc_Y), f_X2_land x a1 a2 = some (k, r, z) ∧ f_X3_land y a1 a2 = some (v, y') ∧ k ≤ 3 ∧ (k ≠ 0 → z = x) ∧ y' 0 0 = tc_c3 k ∧ (k = 0 → v = r) ∧ R z y') (hwf : ∀ (x : tc_X) (y : tc_Y), R x y → tc_wf x) {D : va_G} {cU cO cI cJ : ClassId} {e0 : Nat} (hKX0 : tc_KX D cU cO cI e0 (fun q => s.heap.size ≤ q) s) (hKL0 : tc_KL D cJ s) {E Em : Nat → Nat} {o : Nat} {x : tc_X} {y : tc_Y} {H : Heap} {locs : List Loc} {ls : Array Slot} {d0 : Drawn} (hd0 : s.drawn.sameBut d0 lw_cs) {j : Nat} (hj : j + 5 ≤ L) (hl : lv_has ls 9 (tc_lw b o j E Em)) (hI : tc_Inv R D cU cO cI cJ e0 s.heap.size E Em o x y H) (hS : va_S (fun q => s.heap.size ≤ q) s.heap H locs) {cells slots : Nat} (hcc : cells + 400 ≤ 847852) (hss : slots + 2300 ≤ 6552547)
    (K : ∀ (E' : Nat → Nat) (x' : tc_X) (y' : tc_Y) (H' : Heap) (locs' : List Loc) (d1 : Drawn), s.drawn.sameBut d1 lw_cs → tc_Inv R D cU cO cI cJ e0 s.heap.size E' Em o x' y' H' → va_S (fun q => s.heap.size ≤ q) s.heap H' locs' → ∀ ls', lv_has ls' 9 (tc_lw b o j E' Em) → W p l e room_1 (s.setDrawn d1) m #[Value.ref b] below meth c H' locs' (cells + 400) (slots + 2300) (lw_Z below #[Value.ref b] s) (F0 m 1243 ls' [])) : W p l e room_1 (s.setDrawn d0) m #[Value.ref b] below meth c H locs cells slots (lw_Z below #[Value.ref b] s) (F0 m 124 ls []) := by
  obtain ⟨hx, hb, hr, hml, hown, hts0, hX, hbl, hlocks, hgv⟩ := id C0
  have hts : ∀ w ∈ wsL_law, w.before #[Value.ref b] (s.setDrawn d0) = true := dr_words (fun w h => hts0 w (wsL_law_in w h)) d0
  have hbA : ¬ (fun q : Nat => s.heap.size ≤ q) b := Nat.not_le.mpr hbl
  have hX : va_X b L xs (s.setDrawn d0) s.heap := hX
  have hKX := hKX0.drawn d0
  have hKL := hKL0.moved (U := s.setDrawn d0) (Vm.Alike.refl s.vm)
  have hK := hKX.1.1
  have hl : lv_has ls 9 [(4, .int (nI j)), (3, .ref o), (2, .ref (Em 0)), (1, .ref (E 0)), (0, .ref b)] := hl
  have hIo : o < H.size := hI.2.2.1.elim (fun _ h => h.lt)
  refine lv_aload_n hx hb dL_law_124 rfl (lv_at hl 3 rfl) ?_
  refine lv_aload_n hx hb dL_law_125 rfl (lv_at hl 4 rfl) ?_
  refine lv_iload hx hb dL_law_126 (lv_at hl 0 rfl) ?_
  refine lv_iconst (v := nI 1) hx hb dL_law_128 (by decide) ?_
  refine lv_iadd hx hb dL_law_129 ?_
  refine va_sld hx hb hX hbl hbA hS (tc_hin (k := 1) hj (by decide) hL) dL_law_130 ?_
  refine lv_topi (fun a1 ea1 => ?_)
  refine lv_aload_n hx hb dL_law_131 rfl (lv_at hl 4 rfl) ?_
  refine lv_iload hx hb dL_law_132 (lv_at hl 0 rfl) ?_
  refine lv_iconst (v := nI 2) hx hb dL_law_134 (by decide) ?_
  refine lv_iadd hx hb dL_law_135 ?_
  refine va_sld hx hb hX hbl hbA hS (tc_hin (k := 2) hj (by decide) hL) dL_law_136 ?_
  refine lv_topi (fun a2 ea2 => ?_)
  refine lv_aload_n hx hb dL_law_137 rfl (lv_at hl 1 rfl) ?_
  obtain ⟨k, r, z, v, y', h2, h3, hk, hzx, hc, hv, hR'⟩ := hop x y a1 a2 hI.2.2.2.2
  obtain ⟨fj, hO⟩ := hI.2.2.1
  refine tc_cw (vx_runSW (As := [.ref (E 0), .int a1, .int a2, .ref o]) (rest := []) ⟨hx, hb, hml, hown, hts⟩ (mt_L_land l hst D cU cO cI cJ e0 (tc_AC s.heap.size Em o) E x o fj a1 a2 k r z (fun h9 => h9.2.2 rfl) (hwf x y hI.2.2.2.2) hk hzx h2) (vx_cwSW 4 hts gL_law_L_land rfl rfl rfl (by decide +kernel) ⟨Nat.le_of_ble_eq_true rfl, Nat.le_of_ble_eq_true rfl⟩) ⟨fun a U g mk q => ⟨q.1, q.2.1, q.2.2.1.call, q.2.2.2.1.moved (Vm.Alike.refl U.vm), q.2.2.2.2⟩, fun U hU hW9 => ⟨rfl, by rw [hU]; exact hI.1, ((hKX.go hS hU hW9).narrow (fun _ h9 => h9.1) (by rw [hU]; exact tc_AC_new hI.2.1 hIo hS.1)), hKL.moved hW9.alike, by rw [hU]; exact hO⟩⟩ rfl rfl hl.1 rfl (lv_room (Nat.le_of_ble_eq_true rfl)) dL_law_138 ⟨by show cells + 4 ≤ 847852; omega, by show slots + 79 ≤ 6552547; omega⟩) hS (fun _ _ h => h.elim (fun h => h.1) (fun h => by rw [h]; exact hI.2.2.2.1)) (fun _ h => h.elim (fun h => h.1) (fun h => by rw [h]; exact hI.2.2.2.1)) (fun H1 locs hB z1 o1 hS => ?_)
  obtain ⟨E9, fj9, hE9, hW9, hM9, hO9, hfj⟩ := hI.afterC hB o1
  have hso := hI.2.2.2.1
  refine lv_istore (lv' := [(5, .int (tc_c3 k)), (4, .int (nI j)), (3, .ref o), (2, .ref (Em 0)), (1, .ref (E 0)), (0, .ref b)]) hx hb dL_law_141 hl (by decide) rfl (fun ls hl => ?_)
  refine lv_aload_n hx hb dL_law_143 rfl (lv_at hl 3 rfl) ?_
  refine lv_aload_n hx hb dL_law_144 rfl (lv_at hl 5 rfl) ?_
  refine lv_iload hx hb dL_law_145 (lv_at hl 1 rfl) ?_
  refine lv_iconst (v := nI 1) hx hb dL_law_147 (by decide) ?_
  refine lv_iadd hx hb dL_law_148 ?_
  refine va_sld hx hb hX hbl hbA hS (tc_hin (k := 1) hj (by decide) hL) dL_law_149 ?_
  rw [← ea1]
  refine lv_aload_n hx hb dL_law_150 rfl (lv_at hl 5 rfl) ?_
  refine lv_iload hx hb dL_law_151 (lv_at hl 1 rfl) ?_
  refine lv_iconst (v := nI 2) hx hb dL_law_153 (by decide) ?_
  refine lv_iadd hx hb dL_law_154 ?_
  refine va_sld hx hb hX hbl hbA hS (tc_hin (k := 2) hj (by decide) hL) dL_law_155 ?_
  rw [← ea2]
  refine tc_cw (va_runV (As := [.int a1, .int a2]) (rest := []) ⟨hx, hb, hml, hown, hts⟩ (mt_X3_land l D cU cO cI (tc_AM s.heap.size E9 z o) Em y a1 a2 v y' h3) (cwV 2 hts gL_law_X3_land rfl rfl rfl (by decide +kernel) ⟨Nat.le_of_ble_eq_true rfl, Nat.le_of_ble_eq_true rfl⟩) ⟨fun a U g mk q => ⟨q.1, q.2.1, q.2.2.call⟩, tc_rcv hM9.1 hK rfl, fun U hU hW8 => ⟨rfl, by rw [hU]; exact hM9, va_K.moved hW8.alike hK, by rw [hU]; exact tc_AM_new hW9 hO9.lt hS.1⟩⟩ rfl rfl hl.1 rfl (lv_room (Nat.le_of_ble_eq_true rfl)) dL_law_156 ⟨by show cells + 4 + 0 ≤ 847852; omega, by show slots + 79 + 0 ≤ 6552547; omega⟩) hS (fun _ _ h => h.1) (fun _ h => h.1) (fun H2 locs hM z2 o2 hS => ?_)
  obtain ⟨hI9, hO⟩ := tc_Inv.afterM (R := R) hW9 hO9 hso hM hR' o2
  refine lv_istore (lv' := [(6, .int v), (5, .int (tc_c3 k)), (4, .int (nI j)), (3, .ref o), (2, .ref (Em 0)), (1, .ref (E 0)), (0, .ref b)]) hx hb dL_law_159 hl (by decide) rfl (fun ls hl => ?_)
  refine lv_aload_n hx hb dL_law_161 rfl (lv_at hl 4 rfl) ?_
  refine tc_cr (W.runV (As := []) (rest := []) ⟨hx, hb, hml, hown, hts⟩ (mt_X3_thrown l D cU cO cI _ Em y' (y' 0 0) rfl) (cwV 0 hts gL_law_X3_thrown rfl rfl rfl (by decide +kernel) ⟨Nat.le_of_ble_eq_true rfl, Nat.le_of_ble_eq_true rfl⟩) ⟨fun a U g mk q => ⟨q.1, q.2.1, va_K.moved (Vm.Alike.refl U.vm) q.2.2⟩, tc_rcv hI9.2.1.1 hK rfl, fun U hU hW8 => ⟨rfl, by rw [hU]; exact hI9.2.1, va_K.moved hW8.alike hK⟩⟩ rfl rfl hl.1 rfl (lv_room (Nat.le_of_ble_eq_true rfl)) dL_law_162 ⟨by show cells + 4 + 0 + 0 ≤ 847852; omega, by show slots + 79 + 0 + 0 ≤ 6552547; omega⟩) ?_
  refine lv_iload hx hb dL_law_165 (lv_at hl 1 rfl) ?_
  have key : ∀ ls : Array Slot, lv_has ls 9 [(6, .int v), (5, .int (tc_c3 k)), (4, .int (nI j)), (3, .ref o), (2, .ref (Em 0)), (1, .ref (E 0)), (0, .ref b)] → W p l e room_1 (s.setDrawn d0) m #[Value.ref b] below meth c H2 locs (cells + 4 + 0) (slots + 79 + 0) (lw_Z below #[Value.ref b] s) (F0 m 189 ls []) := fun ls hl => by
    refine lv_goto (tgt := 1243) hx hb dL_law_189 (by decide) ?_
    refine W.widen (k := cells + 400) (n := slots + 2300) (by omega) (by omega) ?_
    exact K E9 z y' H2 locs d0 hd0 hI9 hS ls (by have h9 := lv_sub hl [2, 3, 4, 5, 6] rfl; show lv_has ls 9 [(4, .int (nI j)), (3, .ref o), (2, .ref (Em 0)), (1, .ref (E9 0)), (0, .ref b)]; rw [hE9]; exact h9)
  refine lv_icmp_eq (tgt := 172) hx hb dL_law_167 (by decide) (fun _ => ?_) (fun h9 => absurd hc h9)
  refine lv_iload hx hb dL_law_172 (lv_at hl 1 rfl) ?_
  refine lv_if_ne (tgt := 189) hx hb dL_law_174 (by decide) (fun _ => key ls hl) (fun h9 => ?_)
  have hk0 : k = 0 := tc_c3_0 h9
  refine lv_aload_n hx hb dL_law_177 rfl (lv_at hl 3 rfl) ?_
  refine lv_iconst (v := 0) hx hb dL_law_178 (by decide) ?_
  refine va_lald hx hb hKL.1 (tc_p1 hO) 0 0 rfl rfl (tc_ix_in ⟨by decide, by decide⟩) dL_law_179 ?_
  rw [tc_c0, hfj hk0]
  refine lv_iload hx hb dL_law_180 (lv_at hl 0 rfl) ?_
  refine lv_i2l hx hb dL_law_182 rfl ?_
  refine W.lcmp hx hb dL_law_183 ?_
  rw [hv hk0, tc_cmp0]
  exact lv_if_eq (tgt := 189) hx hb dL_law_184 (by decide) (fun _ => key ls hl) (fun h9 => absurd rfl h9)
set_option maxHeartbeats 4000000 in
set_option maxRecDepth 100000 in
theorem law_build {p : Program} {e : Env} {s : State} {m : MethodId} {below : List Frame} {meth : Method} {c : Code} (l : Launch) (hst : l.stackTraces = false) {b L : Nat} {xs : Nat → Int32} (hL : L ≤ 2560) (C0 : lw_At p s m meth c b L xs) {R : tc_X → tc_Y → Prop} (hop : ∀ (x : tc_X) (y : tc_Y) (a1 a2 a3 a4 : Int32), R x y → ∃ (k : Nat) (r : Int32) (z : tc_X) (v : Int32) (y' : tc_Y), f_X2_build x a1 a2 a3 a4 = some (k, r, z) ∧ f_X3_build y a1 a2 a3 a4 = some (v, y') ∧ k ≤ 3 ∧ (k ≠ 0 → z = x) ∧ y' 0 0 = tc_c3 k ∧ (k = 0 → v = r) ∧ R z y') (hwf : ∀ (x : tc_X) (y : tc_Y), R x y → tc_wf x) {D : va_G} {cU cO cI cJ : ClassId} {e0 : Nat} (hKX0 : tc_KX D cU cO cI e0 (fun q => s.heap.size ≤ q) s) (hKL0 : tc_KL D cJ s) {E Em : Nat → Nat} {o : Nat} {x : tc_X} {y : tc_Y} {H : Heap} {locs : List Loc} {ls : Array Slot} {d0 : Drawn} (hd0 : s.drawn.sameBut d0 lw_cs) {j : Nat} (hj : j + 5 ≤ L) (hl : lv_has ls 9 (tc_lw b o j E Em)) (hI : tc_Inv R D cU cO cI cJ e0 s.heap.size E Em o x y H) (hS : va_S (fun q => s.heap.size ≤ q) s.heap H locs) {cells slots : Nat} (hcc : cells + 400 ≤ 847852) (hss : slots + 2300 ≤ 6552547)
    (K : ∀ (E' : Nat → Nat) (x' : tc_X) (y' : tc_Y) (H' : Heap) (locs' : List Loc) (d1 : Drawn), s.drawn.sameBut d1 lw_cs → tc_Inv R D cU cO cI cJ e0 s.heap.size E' Em o x' y' H' → va_S (fun q => s.heap.size ≤ q) s.heap H' locs' → ∀ ls', lv_has ls' 9 (tc_lw b o j E' Em) → W p l e room_1 (s.setDrawn d1) m #[Value.ref b] below meth c H' locs' (cells + 400) (slots + 2300) (lw_Z below #[Value.ref b] s) (F0 m 1243 ls' [])) : W p l e room_1 (s.setDrawn d0) m #[Value.ref b] below meth c H locs cells slots (lw_Z below #[Value.ref b] s) (F0 m 192 ls []) := by
  obtain ⟨hx, hb, hr, hml, hown, hts0, hX, hbl, hlocks, hgv⟩ := id C0
  have hts : ∀ w ∈ wsL_law, w.before #[Value.ref b] (s.setDrawn d0) = true := dr_words (fun w h => hts0 w (wsL_law_in w h)) d0
  have hbA : ¬ (fun q : Nat => s.heap.size ≤ q) b := Nat.not_le.mpr hbl
  have hX : va_X b L xs (s.setDrawn d0) s.heap := hX
  have hKX := hKX0.drawn d0
  have hKL := hKL0.moved (U := s.setDrawn d0) (Vm.Alike.refl s.vm)
  have hK := hKX.1.1
  have hl : lv_has ls 9 [(4, .int (nI j)), (3, .ref o), (2, .ref (Em 0)), (1, .ref (E 0)), (0, .ref b)] := hl
  have hIo : o < H.size := hI.2.2.1.elim (fun _ h => h.lt)
  refine lv_aload_n hx hb dL_law_192 rfl (lv_at hl 3 rfl) ?_
  refine lv_aload_n hx hb dL_law_193 rfl (lv_at hl 4 rfl) ?_
  refine lv_iload hx hb dL_law_194 (lv_at hl 0 rfl) ?_
  refine lv_iconst (v := nI 1) hx hb dL_law_196 (by decide) ?_
  refine lv_iadd hx hb dL_law_197 ?_
  refine va_sld hx hb hX hbl hbA hS (tc_hin (k := 1) hj (by decide) hL) dL_law_198 ?_
  refine lv_topi (fun a1 ea1 => ?_)
  refine lv_aload_n hx hb dL_law_199 rfl (lv_at hl 4 rfl) ?_
  refine lv_iload hx hb dL_law_200 (lv_at hl 0 rfl) ?_
  refine lv_iconst (v := nI 2) hx hb dL_law_202 (by decide) ?_
  refine lv_iadd hx hb dL_law_203 ?_
  refine va_sld hx hb hX hbl hbA hS (tc_hin (k := 2) hj (by decide) hL) dL_law_204 ?_
  refine lv_topi (fun a2 ea2 => ?_)
  refine lv_aload_n hx hb dL_law_205 rfl (lv_at hl 4 rfl) ?_
  refine lv_iload hx hb dL_law_206 (lv_at hl 0 rfl) ?_
  refine lv_iconst (v := nI 3) hx hb dL_law_208 (by decide) ?_
  refine lv_iadd hx hb dL_law_209 ?_
  refine va_sld hx hb hX hbl hbA hS (tc_hin (k := 3) hj (by decide) hL) dL_law_210 ?_
  refine lv_topi (fun a3 ea3 => ?_)
  refine lv_aload_n hx hb dL_law_211 rfl (lv_at hl 4 rfl) ?_
  refine lv_iload hx hb dL_law_212 (lv_at hl 0 rfl) ?_
  refine lv_iconst (v := nI 4) hx hb dL_law_214 (by decide) ?_
  refine lv_iadd hx hb dL_law_215 ?_
  refine va_sld hx hb hX hbl hbA hS (tc_hin (k := 4) hj (by decide) hL) dL_law_216 ?_
  refine lv_topi (fun a4 ea4 => ?_)
  refine lv_aload_n hx hb dL_law_217 rfl (lv_at hl 1 rfl) ?_
  obtain ⟨k, r, z, v, y', h2, h3, hk, hzx, hc, hv, hR'⟩ := hop x y a1 a2 a3 a4 hI.2.2.2.2
  obtain ⟨fj, hO⟩ := hI.2.2.1
  refine tc_cw (vx_runSW (As := [.ref (E 0), .int a1, .int a2, .int a3, .int a4, .ref o]) (rest := []) ⟨hx, hb, hml, hown, hts⟩ (mt_L_build l hst D cU cO cI cJ e0 (tc_AC s.heap.size Em o) E x o fj a1 a2 a3 a4 k r z (fun h9 => h9.2.2 rfl) (hwf x y hI.2.2.2.2) hk hzx h2) (vx_cwSW 6 hts gL_law_L_build rfl rfl rfl (by decide +kernel) ⟨Nat.le_of_ble_eq_true rfl, Nat.le_of_ble_eq_true rfl⟩) ⟨fun a U g mk q => ⟨q.1, q.2.1, q.2.2.1.call, q.2.2.2.1.moved (Vm.Alike.refl U.vm), q.2.2.2.2⟩, fun U hU hW9 => ⟨rfl, by rw [hU]; exact hI.1, ((hKX.go hS hU hW9).narrow (fun _ h9 => h9.1) (by rw [hU]; exact tc_AC_new hI.2.1 hIo hS.1)), hKL.moved hW9.alike, by rw [hU]; exact hO⟩⟩ rfl rfl hl.1 rfl (lv_room (Nat.le_of_ble_eq_true rfl)) dL_law_218 ⟨by show cells + 4 ≤ 847852; omega, by show slots + 80 ≤ 6552547; omega⟩) hS (fun _ _ h => h.elim (fun h => h.1) (fun h => by rw [h]; exact hI.2.2.2.1)) (fun _ h => h.elim (fun h => h.1) (fun h => by rw [h]; exact hI.2.2.2.1)) (fun H1 locs hB z1 o1 hS => ?_)
  obtain ⟨E9, fj9, hE9, hW9, hM9, hO9, hfj⟩ := hI.afterC hB o1
  have hso := hI.2.2.2.1
  refine lv_istore (lv' := [(5, .int (tc_c3 k)), (4, .int (nI j)), (3, .ref o), (2, .ref (Em 0)), (1, .ref (E 0)), (0, .ref b)]) hx hb dL_law_221 hl (by decide) rfl (fun ls hl => ?_)
  refine lv_aload_n hx hb dL_law_223 rfl (lv_at hl 3 rfl) ?_
  refine lv_aload_n hx hb dL_law_224 rfl (lv_at hl 5 rfl) ?_
  refine lv_iload hx hb dL_law_225 (lv_at hl 1 rfl) ?_
  refine lv_iconst (v := nI 1) hx hb dL_law_227 (by decide) ?_
  refine lv_iadd hx hb dL_law_228 ?_
  refine va_sld hx hb hX hbl hbA hS (tc_hin (k := 1) hj (by decide) hL) dL_law_229 ?_
  rw [← ea1]
  refine lv_aload_n hx hb dL_law_230 rfl (lv_at hl 5 rfl) ?_
  refine lv_iload hx hb dL_law_231 (lv_at hl 1 rfl) ?_
  refine lv_iconst (v := nI 2) hx hb dL_law_233 (by decide) ?_
  refine lv_iadd hx hb dL_law_234 ?_
  refine va_sld hx hb hX hbl hbA hS (tc_hin (k := 2) hj (by decide) hL) dL_law_235 ?_
  rw [← ea2]
  refine lv_aload_n hx hb dL_law_236 rfl (lv_at hl 5 rfl) ?_
  refine lv_iload hx hb dL_law_237 (lv_at hl 1 rfl) ?_
  refine lv_iconst (v := nI 3) hx hb dL_law_239 (by decide) ?_
  refine lv_iadd hx hb dL_law_240 ?_
  refine va_sld hx hb hX hbl hbA hS (tc_hin (k := 3) hj (by decide) hL) dL_law_241 ?_
  rw [← ea3]
  refine lv_aload_n hx hb dL_law_242 rfl (lv_at hl 5 rfl) ?_
  refine lv_iload hx hb dL_law_243 (lv_at hl 1 rfl) ?_
  refine lv_iconst (v := nI 4) hx hb dL_law_245 (by decide) ?_
  refine lv_iadd hx hb dL_law_246 ?_
  refine va_sld hx hb hX hbl hbA hS (tc_hin (k := 4) hj (by decide) hL) dL_law_247 ?_
  rw [← ea4]
  refine tc_cw (va_runV (As := [.int a1, .int a2, .int a3, .int a4]) (rest := []) ⟨hx, hb, hml, hown, hts⟩ (mt_X3_build l D cU cO cI (tc_AM s.heap.size E9 z o) Em y a1 a2 a3 a4 v y' h3) (cwV 4 hts gL_law_X3_build rfl rfl rfl (by decide +kernel) ⟨Nat.le_of_ble_eq_true rfl, Nat.le_of_ble_eq_true rfl⟩) ⟨fun a U g mk q => ⟨q.1, q.2.1, q.2.2.call⟩, tc_rcv hM9.1 hK rfl, fun U hU hW8 => ⟨rfl, by rw [hU]; exact hM9, va_K.moved hW8.alike hK, by rw [hU]; exact tc_AM_new hW9 hO9.lt hS.1⟩⟩ rfl rfl hl.1 rfl (lv_room (Nat.le_of_ble_eq_true rfl)) dL_law_248 ⟨by show cells + 4 + 0 ≤ 847852; omega, by show slots + 80 + 0 ≤ 6552547; omega⟩) hS (fun _ _ h => h.1) (fun _ h => h.1) (fun H2 locs hM z2 o2 hS => ?_)
  obtain ⟨hI9, hO⟩ := tc_Inv.afterM (R := R) hW9 hO9 hso hM hR' o2
  refine lv_istore (lv' := [(6, .int v), (5, .int (tc_c3 k)), (4, .int (nI j)), (3, .ref o), (2, .ref (Em 0)), (1, .ref (E 0)), (0, .ref b)]) hx hb dL_law_251 hl (by decide) rfl (fun ls hl => ?_)
  refine lv_aload_n hx hb dL_law_253 rfl (lv_at hl 4 rfl) ?_
  refine tc_cr (W.runV (As := []) (rest := []) ⟨hx, hb, hml, hown, hts⟩ (mt_X3_thrown l D cU cO cI _ Em y' (y' 0 0) rfl) (cwV 0 hts gL_law_X3_thrown rfl rfl rfl (by decide +kernel) ⟨Nat.le_of_ble_eq_true rfl, Nat.le_of_ble_eq_true rfl⟩) ⟨fun a U g mk q => ⟨q.1, q.2.1, va_K.moved (Vm.Alike.refl U.vm) q.2.2⟩, tc_rcv hI9.2.1.1 hK rfl, fun U hU hW8 => ⟨rfl, by rw [hU]; exact hI9.2.1, va_K.moved hW8.alike hK⟩⟩ rfl rfl hl.1 rfl (lv_room (Nat.le_of_ble_eq_true rfl)) dL_law_254 ⟨by show cells + 4 + 0 + 0 ≤ 847852; omega, by show slots + 80 + 0 + 0 ≤ 6552547; omega⟩) ?_
  refine lv_iload hx hb dL_law_257 (lv_at hl 1 rfl) ?_
  have key : ∀ ls : Array Slot, lv_has ls 9 [(6, .int v), (5, .int (tc_c3 k)), (4, .int (nI j)), (3, .ref o), (2, .ref (Em 0)), (1, .ref (E 0)), (0, .ref b)] → W p l e room_1 (s.setDrawn d0) m #[Value.ref b] below meth c H2 locs (cells + 4 + 0) (slots + 80 + 0) (lw_Z below #[Value.ref b] s) (F0 m 281 ls []) := fun ls hl => by
    refine lv_goto (tgt := 1243) hx hb dL_law_281 (by decide) ?_
    refine W.widen (k := cells + 400) (n := slots + 2300) (by omega) (by omega) ?_
    exact K E9 z y' H2 locs d0 hd0 hI9 hS ls (by have h9 := lv_sub hl [2, 3, 4, 5, 6] rfl; show lv_has ls 9 [(4, .int (nI j)), (3, .ref o), (2, .ref (Em 0)), (1, .ref (E9 0)), (0, .ref b)]; rw [hE9]; exact h9)
  refine lv_icmp_eq (tgt := 264) hx hb dL_law_259 (by decide) (fun _ => ?_) (fun h9 => absurd hc h9)
  refine lv_iload hx hb dL_law_264 (lv_at hl 1 rfl) ?_
  refine lv_if_ne (tgt := 281) hx hb dL_law_266 (by decide) (fun _ => key ls hl) (fun h9 => ?_)
  have hk0 : k = 0 := tc_c3_0 h9
  refine lv_aload_n hx hb dL_law_269 rfl (lv_at hl 3 rfl) ?_
  refine lv_iconst (v := 0) hx hb dL_law_270 (by decide) ?_
  refine va_lald hx hb hKL.1 (tc_p1 hO) 0 0 rfl rfl (tc_ix_in ⟨by decide, by decide⟩) dL_law_271 ?_
  rw [tc_c0, hfj hk0]
  refine lv_iload hx hb dL_law_272 (lv_at hl 0 rfl) ?_
  refine lv_i2l hx hb dL_law_274 rfl ?_
  refine W.lcmp hx hb dL_law_275 ?_
  rw [hv hk0, tc_cmp0]
  exact lv_if_eq (tgt := 281) hx hb dL_law_276 (by decide) (fun _ => key ls hl) (fun h9 => absurd rfl h9)
set_option maxHeartbeats 4000000 in
set_option maxRecDepth 100000 in
theorem law_man {p : Program} {e : Env} {s : State} {m : MethodId} {below : List Frame} {meth : Method} {c : Code} (l : Launch) (hst : l.stackTraces = false) {b L : Nat} {xs : Nat → Int32} (hL : L ≤ 2560) (C0 : lw_At p s m meth c b L xs) {R : tc_X → tc_Y → Prop} (hop : ∀ (x : tc_X) (y : tc_Y) (a1 a2 : Int32), R x y → ∃ (k : Nat) (r : Int32) (z : tc_X) (v : Int32) (y' : tc_Y), f_X2_man x a1 a2 = some (k, r, z) ∧ f_X3_man y a1 a2 = some (v, y') ∧ k ≤ 2 ∧ (k ≠ 0 → z = x) ∧ y' 0 0 = tc_c3 k ∧ (k = 0 → v = r) ∧ R z y') {D : va_G} {cU cO cI cJ : ClassId} {e0 : Nat} (hKX0 : tc_KX D cU cO cI e0 (fun q => s.heap.size ≤ q) s) (hKL0 : tc_KL D cJ s) {E Em : Nat → Nat} {o : Nat} {x : tc_X} {y : tc_Y} {H : Heap} {locs : List Loc} {ls : Array Slot} {d0 : Drawn} (hd0 : s.drawn.sameBut d0 lw_cs) {j : Nat} (hj : j + 5 ≤ L) (hl : lv_has ls 9 (tc_lw b o j E Em)) (hI : tc_Inv R D cU cO cI cJ e0 s.heap.size E Em o x y H) (hS : va_S (fun q => s.heap.size ≤ q) s.heap H locs) {cells slots : Nat} (hcc : cells + 400 ≤ 847852) (hss : slots + 2300 ≤ 6552547)
    (K : ∀ (E' : Nat → Nat) (x' : tc_X) (y' : tc_Y) (H' : Heap) (locs' : List Loc) (d1 : Drawn), s.drawn.sameBut d1 lw_cs → tc_Inv R D cU cO cI cJ e0 s.heap.size E' Em o x' y' H' → va_S (fun q => s.heap.size ≤ q) s.heap H' locs' → ∀ ls', lv_has ls' 9 (tc_lw b o j E' Em) → W p l e room_1 (s.setDrawn d1) m #[Value.ref b] below meth c H' locs' (cells + 400) (slots + 2300) (lw_Z below #[Value.ref b] s) (F0 m 1243 ls' [])) : W p l e room_1 (s.setDrawn d0) m #[Value.ref b] below meth c H locs cells slots (lw_Z below #[Value.ref b] s) (F0 m 284 ls []) := by
  obtain ⟨hx, hb, hr, hml, hown, hts0, hX, hbl, hlocks, hgv⟩ := id C0
  have hts : ∀ w ∈ wsL_law, w.before #[Value.ref b] (s.setDrawn d0) = true := dr_words (fun w h => hts0 w (wsL_law_in w h)) d0
  have hbA : ¬ (fun q : Nat => s.heap.size ≤ q) b := Nat.not_le.mpr hbl
  have hX : va_X b L xs (s.setDrawn d0) s.heap := hX
  have hKX := hKX0.drawn d0
  have hKL := hKL0.moved (U := s.setDrawn d0) (Vm.Alike.refl s.vm)
  have hK := hKX.1.1
  have hl : lv_has ls 9 [(4, .int (nI j)), (3, .ref o), (2, .ref (Em 0)), (1, .ref (E 0)), (0, .ref b)] := hl
  have hIo : o < H.size := hI.2.2.1.elim (fun _ h => h.lt)
  refine lv_aload_n hx hb dL_law_284 rfl (lv_at hl 3 rfl) ?_
  refine lv_aload_n hx hb dL_law_285 rfl (lv_at hl 4 rfl) ?_
  refine lv_iload hx hb dL_law_286 (lv_at hl 0 rfl) ?_
  refine lv_iconst (v := nI 1) hx hb dL_law_288 (by decide) ?_
  refine lv_iadd hx hb dL_law_289 ?_
  refine va_sld hx hb hX hbl hbA hS (tc_hin (k := 1) hj (by decide) hL) dL_law_290 ?_
  refine lv_topi (fun a1 ea1 => ?_)
  refine lv_aload_n hx hb dL_law_291 rfl (lv_at hl 4 rfl) ?_
  refine lv_iload hx hb dL_law_292 (lv_at hl 0 rfl) ?_
  refine lv_iconst (v := nI 2) hx hb dL_law_294 (by decide) ?_
  refine lv_iadd hx hb dL_law_295 ?_
  refine va_sld hx hb hX hbl hbA hS (tc_hin (k := 2) hj (by decide) hL) dL_law_296 ?_
  refine lv_topi (fun a2 ea2 => ?_)
  refine lv_aload_n hx hb dL_law_297 rfl (lv_at hl 1 rfl) ?_
  obtain ⟨k, r, z, v, y', h2, h3, hk, hzx, hc, hv, hR'⟩ := hop x y a1 a2 hI.2.2.2.2
  obtain ⟨fj, hO⟩ := hI.2.2.1
  refine tc_cw (vx_runSW (As := [.ref (E 0), .int a1, .int a2, .ref o]) (rest := []) ⟨hx, hb, hml, hown, hts⟩ (mt_L_man l hst D cU cO cI cJ e0 (tc_AC s.heap.size Em o) E x o fj a1 a2 k r z (fun h9 => h9.2.2 rfl) hk hzx h2) (vx_cwSW 4 hts gL_law_L_man rfl rfl rfl (by decide +kernel) ⟨Nat.le_of_ble_eq_true rfl, Nat.le_of_ble_eq_true rfl⟩) ⟨fun a U g mk q => ⟨q.1, q.2.1, q.2.2.1.call, q.2.2.2.1.moved (Vm.Alike.refl U.vm), q.2.2.2.2⟩, fun U hU hW9 => ⟨rfl, by rw [hU]; exact hI.1, ((hKX.go hS hU hW9).narrow (fun _ h9 => h9.1) (by rw [hU]; exact tc_AC_new hI.2.1 hIo hS.1)), hKL.moved hW9.alike, by rw [hU]; exact hO⟩⟩ rfl rfl hl.1 rfl (lv_room (Nat.le_of_ble_eq_true rfl)) dL_law_298 ⟨by show cells + 2 ≤ 847852; omega, by show slots + 12 ≤ 6552547; omega⟩) hS (fun _ _ h => h.elim (fun h => h.1) (fun h => by rw [h]; exact hI.2.2.2.1)) (fun _ h => h.elim (fun h => h.1) (fun h => by rw [h]; exact hI.2.2.2.1)) (fun H1 locs hB z1 o1 hS => ?_)
  obtain ⟨E9, fj9, hE9, hW9, hM9, hO9, hfj⟩ := hI.afterC hB o1
  have hso := hI.2.2.2.1
  refine lv_istore (lv' := [(5, .int (tc_c3 k)), (4, .int (nI j)), (3, .ref o), (2, .ref (Em 0)), (1, .ref (E 0)), (0, .ref b)]) hx hb dL_law_301 hl (by decide) rfl (fun ls hl => ?_)
  refine lv_aload_n hx hb dL_law_303 rfl (lv_at hl 3 rfl) ?_
  refine lv_aload_n hx hb dL_law_304 rfl (lv_at hl 5 rfl) ?_
  refine lv_iload hx hb dL_law_305 (lv_at hl 1 rfl) ?_
  refine lv_iconst (v := nI 1) hx hb dL_law_307 (by decide) ?_
  refine lv_iadd hx hb dL_law_308 ?_
  refine va_sld hx hb hX hbl hbA hS (tc_hin (k := 1) hj (by decide) hL) dL_law_309 ?_
  rw [← ea1]
  refine lv_aload_n hx hb dL_law_310 rfl (lv_at hl 5 rfl) ?_
  refine lv_iload hx hb dL_law_311 (lv_at hl 1 rfl) ?_
  refine lv_iconst (v := nI 2) hx hb dL_law_313 (by decide) ?_
  refine lv_iadd hx hb dL_law_314 ?_
  refine va_sld hx hb hX hbl hbA hS (tc_hin (k := 2) hj (by decide) hL) dL_law_315 ?_
  rw [← ea2]
  refine tc_cw (va_runV (As := [.int a1, .int a2]) (rest := []) ⟨hx, hb, hml, hown, hts⟩ (mt_X3_man l D cU cO cI (tc_AM s.heap.size E9 z o) Em y a1 a2 v y' h3) (cwV 2 hts gL_law_X3_man rfl rfl rfl (by decide +kernel) ⟨Nat.le_of_ble_eq_true rfl, Nat.le_of_ble_eq_true rfl⟩) ⟨fun a U g mk q => ⟨q.1, q.2.1, q.2.2.call⟩, tc_rcv hM9.1 hK rfl, fun U hU hW8 => ⟨rfl, by rw [hU]; exact hM9, va_K.moved hW8.alike hK, by rw [hU]; exact tc_AM_new hW9 hO9.lt hS.1⟩⟩ rfl rfl hl.1 rfl (lv_room (Nat.le_of_ble_eq_true rfl)) dL_law_316 ⟨by show cells + 2 + 0 ≤ 847852; omega, by show slots + 12 + 0 ≤ 6552547; omega⟩) hS (fun _ _ h => h.1) (fun _ h => h.1) (fun H2 locs hM z2 o2 hS => ?_)
  obtain ⟨hI9, hO⟩ := tc_Inv.afterM (R := R) hW9 hO9 hso hM hR' o2
  refine lv_istore (lv' := [(6, .int v), (5, .int (tc_c3 k)), (4, .int (nI j)), (3, .ref o), (2, .ref (Em 0)), (1, .ref (E 0)), (0, .ref b)]) hx hb dL_law_319 hl (by decide) rfl (fun ls hl => ?_)
  refine lv_aload_n hx hb dL_law_321 rfl (lv_at hl 4 rfl) ?_
  refine tc_cr (W.runV (As := []) (rest := []) ⟨hx, hb, hml, hown, hts⟩ (mt_X3_thrown l D cU cO cI _ Em y' (y' 0 0) rfl) (cwV 0 hts gL_law_X3_thrown rfl rfl rfl (by decide +kernel) ⟨Nat.le_of_ble_eq_true rfl, Nat.le_of_ble_eq_true rfl⟩) ⟨fun a U g mk q => ⟨q.1, q.2.1, va_K.moved (Vm.Alike.refl U.vm) q.2.2⟩, tc_rcv hI9.2.1.1 hK rfl, fun U hU hW8 => ⟨rfl, by rw [hU]; exact hI9.2.1, va_K.moved hW8.alike hK⟩⟩ rfl rfl hl.1 rfl (lv_room (Nat.le_of_ble_eq_true rfl)) dL_law_322 ⟨by show cells + 2 + 0 + 0 ≤ 847852; omega, by show slots + 12 + 0 + 0 ≤ 6552547; omega⟩) ?_
  refine lv_iload hx hb dL_law_325 (lv_at hl 1 rfl) ?_
  have key : ∀ ls : Array Slot, lv_has ls 9 [(6, .int v), (5, .int (tc_c3 k)), (4, .int (nI j)), (3, .ref o), (2, .ref (Em 0)), (1, .ref (E 0)), (0, .ref b)] → W p l e room_1 (s.setDrawn d0) m #[Value.ref b] below meth c H2 locs (cells + 2 + 0) (slots + 12 + 0) (lw_Z below #[Value.ref b] s) (F0 m 349 ls []) := fun ls hl => by
    refine lv_goto (tgt := 1243) hx hb dL_law_349 (by decide) ?_
    refine W.widen (k := cells + 400) (n := slots + 2300) (by omega) (by omega) ?_
    exact K E9 z y' H2 locs d0 hd0 hI9 hS ls (by have h9 := lv_sub hl [2, 3, 4, 5, 6] rfl; show lv_has ls 9 [(4, .int (nI j)), (3, .ref o), (2, .ref (Em 0)), (1, .ref (E9 0)), (0, .ref b)]; rw [hE9]; exact h9)
  refine lv_icmp_eq (tgt := 332) hx hb dL_law_327 (by decide) (fun _ => ?_) (fun h9 => absurd hc h9)
  refine lv_iload hx hb dL_law_332 (lv_at hl 1 rfl) ?_
  refine lv_if_ne (tgt := 349) hx hb dL_law_334 (by decide) (fun _ => key ls hl) (fun h9 => ?_)
  have hk0 : k = 0 := tc_c3_0 h9
  refine lv_aload_n hx hb dL_law_337 rfl (lv_at hl 3 rfl) ?_
  refine lv_iconst (v := 0) hx hb dL_law_338 (by decide) ?_
  refine va_lald hx hb hKL.1 (tc_p1 hO) 0 0 rfl rfl (tc_ix_in ⟨by decide, by decide⟩) dL_law_339 ?_
  rw [tc_c0, hfj hk0]
  refine lv_iload hx hb dL_law_340 (lv_at hl 0 rfl) ?_
  refine lv_i2l hx hb dL_law_342 rfl ?_
  refine W.lcmp hx hb dL_law_343 ?_
  rw [hv hk0, tc_cmp0]
  exact lv_if_eq (tgt := 349) hx hb dL_law_344 (by decide) (fun _ => key ls hl) (fun h9 => absurd rfl h9)
set_option maxHeartbeats 4000000 in
set_option maxRecDepth 100000 in
theorem law_mend {p : Program} {e : Env} {s : State} {m : MethodId} {below : List Frame} {meth : Method} {c : Code} (l : Launch) (hst : l.stackTraces = false) {b L : Nat} {xs : Nat → Int32} (hL : L ≤ 2560) (C0 : lw_At p s m meth c b L xs) {R : tc_X → tc_Y → Prop} (hop : ∀ (x : tc_X) (y : tc_Y) (a1 : Int32), R x y → ∃ (k : Nat) (r : Int32) (z : tc_X) (v : Int32) (y' : tc_Y), f_X2_mend x a1 = some (k, r, z) ∧ f_X3_mend y a1 = some (v, y') ∧ k ≤ 1 ∧ (k ≠ 0 → z = x) ∧ y' 0 0 = tc_c3 k ∧ (k = 0 → v = r) ∧ R z y') {D : va_G} {cU cO cI cJ : ClassId} {e0 : Nat} (hKX0 : tc_KX D cU cO cI e0 (fun q => s.heap.size ≤ q) s) (hKL0 : tc_KL D cJ s) {E Em : Nat → Nat} {o : Nat} {x : tc_X} {y : tc_Y} {H : Heap} {locs : List Loc} {ls : Array Slot} {d0 : Drawn} (hd0 : s.drawn.sameBut d0 lw_cs) {j : Nat} (hj : j + 5 ≤ L) (hl : lv_has ls 9 (tc_lw b o j E Em)) (hI : tc_Inv R D cU cO cI cJ e0 s.heap.size E Em o x y H) (hS : va_S (fun q => s.heap.size ≤ q) s.heap H locs) {cells slots : Nat} (hcc : cells + 400 ≤ 847852) (hss : slots + 2300 ≤ 6552547)
    (K : ∀ (E' : Nat → Nat) (x' : tc_X) (y' : tc_Y) (H' : Heap) (locs' : List Loc) (d1 : Drawn), s.drawn.sameBut d1 lw_cs → tc_Inv R D cU cO cI cJ e0 s.heap.size E' Em o x' y' H' → va_S (fun q => s.heap.size ≤ q) s.heap H' locs' → ∀ ls', lv_has ls' 9 (tc_lw b o j E' Em) → W p l e room_1 (s.setDrawn d1) m #[Value.ref b] below meth c H' locs' (cells + 400) (slots + 2300) (lw_Z below #[Value.ref b] s) (F0 m 1243 ls' [])) : W p l e room_1 (s.setDrawn d0) m #[Value.ref b] below meth c H locs cells slots (lw_Z below #[Value.ref b] s) (F0 m 352 ls []) := by
  obtain ⟨hx, hb, hr, hml, hown, hts0, hX, hbl, hlocks, hgv⟩ := id C0
  have hts : ∀ w ∈ wsL_law, w.before #[Value.ref b] (s.setDrawn d0) = true := dr_words (fun w h => hts0 w (wsL_law_in w h)) d0
  have hbA : ¬ (fun q : Nat => s.heap.size ≤ q) b := Nat.not_le.mpr hbl
  have hX : va_X b L xs (s.setDrawn d0) s.heap := hX
  have hKX := hKX0.drawn d0
  have hKL := hKL0.moved (U := s.setDrawn d0) (Vm.Alike.refl s.vm)
  have hK := hKX.1.1
  have hl : lv_has ls 9 [(4, .int (nI j)), (3, .ref o), (2, .ref (Em 0)), (1, .ref (E 0)), (0, .ref b)] := hl
  have hIo : o < H.size := hI.2.2.1.elim (fun _ h => h.lt)
  refine lv_aload_n hx hb dL_law_352 rfl (lv_at hl 3 rfl) ?_
  refine lv_aload_n hx hb dL_law_353 rfl (lv_at hl 4 rfl) ?_
  refine lv_iload hx hb dL_law_354 (lv_at hl 0 rfl) ?_
  refine lv_iconst (v := nI 1) hx hb dL_law_356 (by decide) ?_
  refine lv_iadd hx hb dL_law_357 ?_
  refine va_sld hx hb hX hbl hbA hS (tc_hin (k := 1) hj (by decide) hL) dL_law_358 ?_
  refine lv_topi (fun a1 ea1 => ?_)
  refine lv_aload_n hx hb dL_law_359 rfl (lv_at hl 1 rfl) ?_
  obtain ⟨k, r, z, v, y', h2, h3, hk, hzx, hc, hv, hR'⟩ := hop x y a1 hI.2.2.2.2
  obtain ⟨fj, hO⟩ := hI.2.2.1
  refine tc_cw (vx_runSW (As := [.ref (E 0), .int a1, .ref o]) (rest := []) ⟨hx, hb, hml, hown, hts⟩ (mt_L_mend l hst D cU cO cI cJ e0 (tc_AC s.heap.size Em o) E x o fj a1 k r z (fun h9 => h9.2.2 rfl) hk hzx h2) (vx_cwSW 3 hts gL_law_L_mend rfl rfl rfl (by decide +kernel) ⟨Nat.le_of_ble_eq_true rfl, Nat.le_of_ble_eq_true rfl⟩) ⟨fun a U g mk q => ⟨q.1, q.2.1, q.2.2.1.call, q.2.2.2.1.moved (Vm.Alike.refl U.vm), q.2.2.2.2⟩, fun U hU hW9 => ⟨rfl, by rw [hU]; exact hI.1, ((hKX.go hS hU hW9).narrow (fun _ h9 => h9.1) (by rw [hU]; exact tc_AC_new hI.2.1 hIo hS.1)), hKL.moved hW9.alike, by rw [hU]; exact hO⟩⟩ rfl rfl hl.1 rfl (lv_room (Nat.le_of_ble_eq_true rfl)) dL_law_360 ⟨by show cells + 1 ≤ 847852; omega, by show slots + 6 ≤ 6552547; omega⟩) hS (fun _ _ h => h.elim (fun h => h.1) (fun h => by rw [h]; exact hI.2.2.2.1)) (fun _ h => h.elim (fun h => h.1) (fun h => by rw [h]; exact hI.2.2.2.1)) (fun H1 locs hB z1 o1 hS => ?_)
  obtain ⟨E9, fj9, hE9, hW9, hM9, hO9, hfj⟩ := hI.afterC hB o1
  have hso := hI.2.2.2.1
  refine lv_istore (lv' := [(5, .int (tc_c3 k)), (4, .int (nI j)), (3, .ref o), (2, .ref (Em 0)), (1, .ref (E 0)), (0, .ref b)]) hx hb dL_law_363 hl (by decide) rfl (fun ls hl => ?_)
  refine lv_aload_n hx hb dL_law_365 rfl (lv_at hl 3 rfl) ?_
  refine lv_aload_n hx hb dL_law_366 rfl (lv_at hl 5 rfl) ?_
  refine lv_iload hx hb dL_law_367 (lv_at hl 1 rfl) ?_
  refine lv_iconst (v := nI 1) hx hb dL_law_369 (by decide) ?_
  refine lv_iadd hx hb dL_law_370 ?_
  refine va_sld hx hb hX hbl hbA hS (tc_hin (k := 1) hj (by decide) hL) dL_law_371 ?_
  rw [← ea1]
  refine tc_cw (va_runV (As := [.int a1]) (rest := []) ⟨hx, hb, hml, hown, hts⟩ (mt_X3_mend l D cU cO cI (tc_AM s.heap.size E9 z o) Em y a1 v y' h3) (cwV 1 hts gL_law_X3_mend rfl rfl rfl (by decide +kernel) ⟨Nat.le_of_ble_eq_true rfl, Nat.le_of_ble_eq_true rfl⟩) ⟨fun a U g mk q => ⟨q.1, q.2.1, q.2.2.call⟩, tc_rcv hM9.1 hK rfl, fun U hU hW8 => ⟨rfl, by rw [hU]; exact hM9, va_K.moved hW8.alike hK, by rw [hU]; exact tc_AM_new hW9 hO9.lt hS.1⟩⟩ rfl rfl hl.1 rfl (lv_room (Nat.le_of_ble_eq_true rfl)) dL_law_372 ⟨by show cells + 1 + 0 ≤ 847852; omega, by show slots + 6 + 0 ≤ 6552547; omega⟩) hS (fun _ _ h => h.1) (fun _ h => h.1) (fun H2 locs hM z2 o2 hS => ?_)
  obtain ⟨hI9, hO⟩ := tc_Inv.afterM (R := R) hW9 hO9 hso hM hR' o2
  refine lv_istore (lv' := [(6, .int v), (5, .int (tc_c3 k)), (4, .int (nI j)), (3, .ref o), (2, .ref (Em 0)), (1, .ref (E 0)), (0, .ref b)]) hx hb dL_law_375 hl (by decide) rfl (fun ls hl => ?_)
  refine lv_aload_n hx hb dL_law_377 rfl (lv_at hl 4 rfl) ?_
  refine tc_cr (W.runV (As := []) (rest := []) ⟨hx, hb, hml, hown, hts⟩ (mt_X3_thrown l D cU cO cI _ Em y' (y' 0 0) rfl) (cwV 0 hts gL_law_X3_thrown rfl rfl rfl (by decide +kernel) ⟨Nat.le_of_ble_eq_true rfl, Nat.le_of_ble_eq_true rfl⟩) ⟨fun a U g mk q => ⟨q.1, q.2.1, va_K.moved (Vm.Alike.refl U.vm) q.2.2⟩, tc_rcv hI9.2.1.1 hK rfl, fun U hU hW8 => ⟨rfl, by rw [hU]; exact hI9.2.1, va_K.moved hW8.alike hK⟩⟩ rfl rfl hl.1 rfl (lv_room (Nat.le_of_ble_eq_true rfl)) dL_law_378 ⟨by show cells + 1 + 0 + 0 ≤ 847852; omega, by show slots + 6 + 0 + 0 ≤ 6552547; omega⟩) ?_
  refine lv_iload hx hb dL_law_381 (lv_at hl 1 rfl) ?_
  have key : ∀ ls : Array Slot, lv_has ls 9 [(6, .int v), (5, .int (tc_c3 k)), (4, .int (nI j)), (3, .ref o), (2, .ref (Em 0)), (1, .ref (E 0)), (0, .ref b)] → W p l e room_1 (s.setDrawn d0) m #[Value.ref b] below meth c H2 locs (cells + 1 + 0) (slots + 6 + 0) (lw_Z below #[Value.ref b] s) (F0 m 405 ls []) := fun ls hl => by
    refine lv_goto (tgt := 1243) hx hb dL_law_405 (by decide) ?_
    refine W.widen (k := cells + 400) (n := slots + 2300) (by omega) (by omega) ?_
    exact K E9 z y' H2 locs d0 hd0 hI9 hS ls (by have h9 := lv_sub hl [2, 3, 4, 5, 6] rfl; show lv_has ls 9 [(4, .int (nI j)), (3, .ref o), (2, .ref (Em 0)), (1, .ref (E9 0)), (0, .ref b)]; rw [hE9]; exact h9)
  refine lv_icmp_eq (tgt := 388) hx hb dL_law_383 (by decide) (fun _ => ?_) (fun h9 => absurd hc h9)
  refine lv_iload hx hb dL_law_388 (lv_at hl 1 rfl) ?_
  refine lv_if_ne (tgt := 405) hx hb dL_law_390 (by decide) (fun _ => key ls hl) (fun h9 => ?_)
  have hk0 : k = 0 := tc_c3_0 h9
  refine lv_aload_n hx hb dL_law_393 rfl (lv_at hl 3 rfl) ?_
  refine lv_iconst (v := 0) hx hb dL_law_394 (by decide) ?_
  refine va_lald hx hb hKL.1 (tc_p1 hO) 0 0 rfl rfl (tc_ix_in ⟨by decide, by decide⟩) dL_law_395 ?_
  rw [tc_c0, hfj hk0]
  refine lv_iload hx hb dL_law_396 (lv_at hl 0 rfl) ?_
  refine lv_i2l hx hb dL_law_398 rfl ?_
  refine W.lcmp hx hb dL_law_399 ?_
  rw [hv hk0, tc_cmp0]
  exact lv_if_eq (tgt := 405) hx hb dL_law_400 (by decide) (fun _ => key ls hl) (fun h9 => absurd rfl h9)
set_option maxHeartbeats 4000000 in
set_option maxRecDepth 100000 in
theorem law_turn {p : Program} {e : Env} {s : State} {m : MethodId} {below : List Frame} {meth : Method} {c : Code} (l : Launch) (hst : l.stackTraces = false) {b L : Nat} {xs : Nat → Int32} (hL : L ≤ 2560) (C0 : lw_At p s m meth c b L xs) {R : tc_X → tc_Y → Prop} (hop : ∀ (x : tc_X) (y : tc_Y) (a1 a2 : Int32), R x y → ∃ (k : Nat) (r : Int32) (z : tc_X) (v : Int32) (y' : tc_Y), f_X2_turn x a1 a2 = some (k, r, z) ∧ f_X3_turn y a1 a2 = some (v, y') ∧ (k = 0 ∨ k = 1 ∨ k = 3) ∧ (k ≠ 0 → z = x) ∧ y' 0 0 = tc_c13 k ∧ (k = 0 → v = r) ∧ R z y') {D : va_G} {cU cO cI cJ : ClassId} {e0 : Nat} (hKX0 : tc_KX D cU cO cI e0 (fun q => s.heap.size ≤ q) s) (hKL0 : tc_KL D cJ s) {E Em : Nat → Nat} {o : Nat} {x : tc_X} {y : tc_Y} {H : Heap} {locs : List Loc} {ls : Array Slot} {d0 : Drawn} (hd0 : s.drawn.sameBut d0 lw_cs) {j : Nat} (hj : j + 5 ≤ L) (hl : lv_has ls 9 (tc_lw b o j E Em)) (hI : tc_Inv R D cU cO cI cJ e0 s.heap.size E Em o x y H) (hS : va_S (fun q => s.heap.size ≤ q) s.heap H locs) {cells slots : Nat} (hcc : cells + 400 ≤ 847852) (hss : slots + 2300 ≤ 6552547)
    (K : ∀ (E' : Nat → Nat) (x' : tc_X) (y' : tc_Y) (H' : Heap) (locs' : List Loc) (d1 : Drawn), s.drawn.sameBut d1 lw_cs → tc_Inv R D cU cO cI cJ e0 s.heap.size E' Em o x' y' H' → va_S (fun q => s.heap.size ≤ q) s.heap H' locs' → ∀ ls', lv_has ls' 9 (tc_lw b o j E' Em) → W p l e room_1 (s.setDrawn d1) m #[Value.ref b] below meth c H' locs' (cells + 400) (slots + 2300) (lw_Z below #[Value.ref b] s) (F0 m 1243 ls' [])) : W p l e room_1 (s.setDrawn d0) m #[Value.ref b] below meth c H locs cells slots (lw_Z below #[Value.ref b] s) (F0 m 408 ls []) := by
  obtain ⟨hx, hb, hr, hml, hown, hts0, hX, hbl, hlocks, hgv⟩ := id C0
  have hts : ∀ w ∈ wsL_law, w.before #[Value.ref b] (s.setDrawn d0) = true := dr_words (fun w h => hts0 w (wsL_law_in w h)) d0
  have hbA : ¬ (fun q : Nat => s.heap.size ≤ q) b := Nat.not_le.mpr hbl
  have hX : va_X b L xs (s.setDrawn d0) s.heap := hX
  have hKX := hKX0.drawn d0
  have hKL := hKL0.moved (U := s.setDrawn d0) (Vm.Alike.refl s.vm)
  have hK := hKX.1.1
  have hl : lv_has ls 9 [(4, .int (nI j)), (3, .ref o), (2, .ref (Em 0)), (1, .ref (E 0)), (0, .ref b)] := hl
  have hIo : o < H.size := hI.2.2.1.elim (fun _ h => h.lt)
  refine lv_aload_n hx hb dL_law_408 rfl (lv_at hl 3 rfl) ?_
  refine lv_aload_n hx hb dL_law_409 rfl (lv_at hl 4 rfl) ?_
  refine lv_iload hx hb dL_law_410 (lv_at hl 0 rfl) ?_
  refine lv_iconst (v := nI 1) hx hb dL_law_412 (by decide) ?_
  refine lv_iadd hx hb dL_law_413 ?_
  refine va_sld hx hb hX hbl hbA hS (tc_hin (k := 1) hj (by decide) hL) dL_law_414 ?_
  refine lv_topi (fun a1 ea1 => ?_)
  refine lv_aload_n hx hb dL_law_415 rfl (lv_at hl 4 rfl) ?_
  refine lv_iload hx hb dL_law_416 (lv_at hl 0 rfl) ?_
  refine lv_iconst (v := nI 2) hx hb dL_law_418 (by decide) ?_
  refine lv_iadd hx hb dL_law_419 ?_
  refine va_sld hx hb hX hbl hbA hS (tc_hin (k := 2) hj (by decide) hL) dL_law_420 ?_
  refine lv_topi (fun a2 ea2 => ?_)
  refine lv_aload_n hx hb dL_law_421 rfl (lv_at hl 1 rfl) ?_
  obtain ⟨k, r, z, v, y', h2, h3, hk, hzx, hc, hv, hR'⟩ := hop x y a1 a2 hI.2.2.2.2
  obtain ⟨fj, hO⟩ := hI.2.2.1
  refine tc_cw (vx_runSW (As := [.ref (E 0), .int a1, .int a2, .ref o]) (rest := []) ⟨hx, hb, hml, hown, hts⟩ (mt_L_turn l hst D cU cO cI cJ e0 (tc_AC s.heap.size Em o) E x o fj a1 a2 k r z (fun h9 => h9.2.2 rfl) hk hzx h2) (vx_cwSW 4 hts gL_law_L_turn rfl rfl rfl (by decide +kernel) ⟨Nat.le_of_ble_eq_true rfl, Nat.le_of_ble_eq_true rfl⟩) ⟨fun a U g mk q => ⟨q.1, q.2.1, q.2.2.1.call, q.2.2.2.1.moved (Vm.Alike.refl U.vm), q.2.2.2.2⟩, fun U hU hW9 => ⟨rfl, by rw [hU]; exact hI.1, ((hKX.go hS hU hW9).narrow (fun _ h9 => h9.1) (by rw [hU]; exact tc_AC_new hI.2.1 hIo hS.1)), hKL.moved hW9.alike, by rw [hU]; exact hO⟩⟩ rfl rfl hl.1 rfl (lv_room (Nat.le_of_ble_eq_true rfl)) dL_law_422 ⟨by show cells + 3 ≤ 847852; omega, by show slots + 18 ≤ 6552547; omega⟩) hS (fun _ _ h => h.elim (fun h => h.1) (fun h => by rw [h]; exact hI.2.2.2.1)) (fun _ h => h.elim (fun h => h.1) (fun h => by rw [h]; exact hI.2.2.2.1)) (fun H1 locs hB z1 o1 hS => ?_)
  obtain ⟨E9, fj9, hE9, hW9, hM9, hO9, hfj⟩ := hI.afterC hB o1
  have hso := hI.2.2.2.1
  refine lv_istore (lv' := [(5, .int (tc_c13 k)), (4, .int (nI j)), (3, .ref o), (2, .ref (Em 0)), (1, .ref (E 0)), (0, .ref b)]) hx hb dL_law_425 hl (by decide) rfl (fun ls hl => ?_)
  refine lv_aload_n hx hb dL_law_427 rfl (lv_at hl 3 rfl) ?_
  refine lv_aload_n hx hb dL_law_428 rfl (lv_at hl 5 rfl) ?_
  refine lv_iload hx hb dL_law_429 (lv_at hl 1 rfl) ?_
  refine lv_iconst (v := nI 1) hx hb dL_law_431 (by decide) ?_
  refine lv_iadd hx hb dL_law_432 ?_
  refine va_sld hx hb hX hbl hbA hS (tc_hin (k := 1) hj (by decide) hL) dL_law_433 ?_
  rw [← ea1]
  refine lv_aload_n hx hb dL_law_434 rfl (lv_at hl 5 rfl) ?_
  refine lv_iload hx hb dL_law_435 (lv_at hl 1 rfl) ?_
  refine lv_iconst (v := nI 2) hx hb dL_law_437 (by decide) ?_
  refine lv_iadd hx hb dL_law_438 ?_
  refine va_sld hx hb hX hbl hbA hS (tc_hin (k := 2) hj (by decide) hL) dL_law_439 ?_
  rw [← ea2]
  refine tc_cw (va_runV (As := [.int a1, .int a2]) (rest := []) ⟨hx, hb, hml, hown, hts⟩ (mt_X3_turn l D cU cO cI (tc_AM s.heap.size E9 z o) Em y a1 a2 v y' h3) (cwV 2 hts gL_law_X3_turn rfl rfl rfl (by decide +kernel) ⟨Nat.le_of_ble_eq_true rfl, Nat.le_of_ble_eq_true rfl⟩) ⟨fun a U g mk q => ⟨q.1, q.2.1, q.2.2.call⟩, tc_rcv hM9.1 hK rfl, fun U hU hW8 => ⟨rfl, by rw [hU]; exact hM9, va_K.moved hW8.alike hK, by rw [hU]; exact tc_AM_new hW9 hO9.lt hS.1⟩⟩ rfl rfl hl.1 rfl (lv_room (Nat.le_of_ble_eq_true rfl)) dL_law_440 ⟨by show cells + 3 + 0 ≤ 847852; omega, by show slots + 18 + 0 ≤ 6552547; omega⟩) hS (fun _ _ h => h.1) (fun _ h => h.1) (fun H2 locs hM z2 o2 hS => ?_)
  obtain ⟨hI9, hO⟩ := tc_Inv.afterM (R := R) hW9 hO9 hso hM hR' o2
  refine lv_istore (lv' := [(6, .int v), (5, .int (tc_c13 k)), (4, .int (nI j)), (3, .ref o), (2, .ref (Em 0)), (1, .ref (E 0)), (0, .ref b)]) hx hb dL_law_443 hl (by decide) rfl (fun ls hl => ?_)
  refine lv_aload_n hx hb dL_law_445 rfl (lv_at hl 4 rfl) ?_
  refine tc_cr (W.runV (As := []) (rest := []) ⟨hx, hb, hml, hown, hts⟩ (mt_X3_thrown l D cU cO cI _ Em y' (y' 0 0) rfl) (cwV 0 hts gL_law_X3_thrown rfl rfl rfl (by decide +kernel) ⟨Nat.le_of_ble_eq_true rfl, Nat.le_of_ble_eq_true rfl⟩) ⟨fun a U g mk q => ⟨q.1, q.2.1, va_K.moved (Vm.Alike.refl U.vm) q.2.2⟩, tc_rcv hI9.2.1.1 hK rfl, fun U hU hW8 => ⟨rfl, by rw [hU]; exact hI9.2.1, va_K.moved hW8.alike hK⟩⟩ rfl rfl hl.1 rfl (lv_room (Nat.le_of_ble_eq_true rfl)) dL_law_446 ⟨by show cells + 3 + 0 + 0 ≤ 847852; omega, by show slots + 18 + 0 + 0 ≤ 6552547; omega⟩) ?_
  refine lv_iload hx hb dL_law_449 (lv_at hl 1 rfl) ?_
  have key : ∀ ls : Array Slot, lv_has ls 9 [(6, .int v), (5, .int (tc_c13 k)), (4, .int (nI j)), (3, .ref o), (2, .ref (Em 0)), (1, .ref (E 0)), (0, .ref b)] → W p l e room_1 (s.setDrawn d0) m #[Value.ref b] below meth c H2 locs (cells + 3 + 0) (slots + 18 + 0) (lw_Z below #[Value.ref b] s) (F0 m 473 ls []) := fun ls hl => by
    refine lv_goto (tgt := 1243) hx hb dL_law_473 (by decide) ?_
    refine W.widen (k := cells + 400) (n := slots + 2300) (by omega) (by omega) ?_
    exact K E9 z y' H2 locs d0 hd0 hI9 hS ls (by have h9 := lv_sub hl [2, 3, 4, 5, 6] rfl; show lv_has ls 9 [(4, .int (nI j)), (3, .ref o), (2, .ref (Em 0)), (1, .ref (E9 0)), (0, .ref b)]; rw [hE9]; exact h9)
  refine lv_icmp_eq (tgt := 456) hx hb dL_law_451 (by decide) (fun _ => ?_) (fun h9 => absurd hc h9)
  refine lv_iload hx hb dL_law_456 (lv_at hl 1 rfl) ?_
  refine lv_if_ne (tgt := 473) hx hb dL_law_458 (by decide) (fun _ => key ls hl) (fun h9 => ?_)
  have hk0 : k = 0 := tc_c13_0 h9
  refine lv_aload_n hx hb dL_law_461 rfl (lv_at hl 3 rfl) ?_
  refine lv_iconst (v := 0) hx hb dL_law_462 (by decide) ?_
  refine va_lald hx hb hKL.1 (tc_p1 hO) 0 0 rfl rfl (tc_ix_in ⟨by decide, by decide⟩) dL_law_463 ?_
  rw [tc_c0, hfj hk0]
  refine lv_iload hx hb dL_law_464 (lv_at hl 0 rfl) ?_
  refine lv_i2l hx hb dL_law_466 rfl ?_
  refine W.lcmp hx hb dL_law_467 ?_
  rw [hv hk0, tc_cmp0]
  exact lv_if_eq (tgt := 473) hx hb dL_law_468 (by decide) (fun _ => key ls hl) (fun h9 => absurd rfl h9)
set_option maxHeartbeats 4000000 in
set_option maxRecDepth 100000 in
theorem law_hoist {p : Program} {e : Env} {s : State} {m : MethodId} {below : List Frame} {meth : Method} {c : Code} (l : Launch) (hst : l.stackTraces = false) {b L : Nat} {xs : Nat → Int32} (hL : L ≤ 2560) (C0 : lw_At p s m meth c b L xs) {R : tc_X → tc_Y → Prop} (hop : ∀ (x : tc_X) (y : tc_Y) (a1 a2 : Int32), R x y → ∃ (k : Nat) (r : Int32) (z : tc_X) (v : Int32) (y' : tc_Y), f_X2_hoist x a1 a2 = some (k, r, z) ∧ f_X3_hoist y a1 a2 = some (v, y') ∧ k ≤ 3 ∧ (k ≠ 0 → z = x) ∧ y' 0 0 = tc_c3 k ∧ (k = 0 → v = r) ∧ R z y') {D : va_G} {cU cO cI cJ : ClassId} {e0 : Nat} (hKX0 : tc_KX D cU cO cI e0 (fun q => s.heap.size ≤ q) s) (hKL0 : tc_KL D cJ s) {E Em : Nat → Nat} {o : Nat} {x : tc_X} {y : tc_Y} {H : Heap} {locs : List Loc} {ls : Array Slot} {d0 : Drawn} (hd0 : s.drawn.sameBut d0 lw_cs) {j : Nat} (hj : j + 5 ≤ L) (hl : lv_has ls 9 (tc_lw b o j E Em)) (hI : tc_Inv R D cU cO cI cJ e0 s.heap.size E Em o x y H) (hS : va_S (fun q => s.heap.size ≤ q) s.heap H locs) {cells slots : Nat} (hcc : cells + 400 ≤ 847852) (hss : slots + 2300 ≤ 6552547)
    (K : ∀ (E' : Nat → Nat) (x' : tc_X) (y' : tc_Y) (H' : Heap) (locs' : List Loc) (d1 : Drawn), s.drawn.sameBut d1 lw_cs → tc_Inv R D cU cO cI cJ e0 s.heap.size E' Em o x' y' H' → va_S (fun q => s.heap.size ≤ q) s.heap H' locs' → ∀ ls', lv_has ls' 9 (tc_lw b o j E' Em) → W p l e room_1 (s.setDrawn d1) m #[Value.ref b] below meth c H' locs' (cells + 400) (slots + 2300) (lw_Z below #[Value.ref b] s) (F0 m 1243 ls' [])) : W p l e room_1 (s.setDrawn d0) m #[Value.ref b] below meth c H locs cells slots (lw_Z below #[Value.ref b] s) (F0 m 476 ls []) := by
  obtain ⟨hx, hb, hr, hml, hown, hts0, hX, hbl, hlocks, hgv⟩ := id C0
  have hts : ∀ w ∈ wsL_law, w.before #[Value.ref b] (s.setDrawn d0) = true := dr_words (fun w h => hts0 w (wsL_law_in w h)) d0
  have hbA : ¬ (fun q : Nat => s.heap.size ≤ q) b := Nat.not_le.mpr hbl
  have hX : va_X b L xs (s.setDrawn d0) s.heap := hX
  have hKX := hKX0.drawn d0
  have hKL := hKL0.moved (U := s.setDrawn d0) (Vm.Alike.refl s.vm)
  have hK := hKX.1.1
  have hl : lv_has ls 9 [(4, .int (nI j)), (3, .ref o), (2, .ref (Em 0)), (1, .ref (E 0)), (0, .ref b)] := hl
  have hIo : o < H.size := hI.2.2.1.elim (fun _ h => h.lt)
  refine lv_aload_n hx hb dL_law_476 rfl (lv_at hl 3 rfl) ?_
  refine lv_aload_n hx hb dL_law_477 rfl (lv_at hl 4 rfl) ?_
  refine lv_iload hx hb dL_law_478 (lv_at hl 0 rfl) ?_
  refine lv_iconst (v := nI 1) hx hb dL_law_480 (by decide) ?_
  refine lv_iadd hx hb dL_law_481 ?_
  refine va_sld hx hb hX hbl hbA hS (tc_hin (k := 1) hj (by decide) hL) dL_law_482 ?_
  refine lv_topi (fun a1 ea1 => ?_)
  refine lv_aload_n hx hb dL_law_483 rfl (lv_at hl 4 rfl) ?_
  refine lv_iload hx hb dL_law_484 (lv_at hl 0 rfl) ?_
  refine lv_iconst (v := nI 2) hx hb dL_law_486 (by decide) ?_
  refine lv_iadd hx hb dL_law_487 ?_
  refine va_sld hx hb hX hbl hbA hS (tc_hin (k := 2) hj (by decide) hL) dL_law_488 ?_
  refine lv_topi (fun a2 ea2 => ?_)
  refine lv_aload_n hx hb dL_law_489 rfl (lv_at hl 1 rfl) ?_
  obtain ⟨k, r, z, v, y', h2, h3, hk, hzx, hc, hv, hR'⟩ := hop x y a1 a2 hI.2.2.2.2
  obtain ⟨fj, hO⟩ := hI.2.2.1
  refine tc_cw (vx_runSW (As := [.ref (E 0), .int a1, .int a2, .ref o]) (rest := []) ⟨hx, hb, hml, hown, hts⟩ (mt_L_hoist l hst D cU cO cI cJ e0 (tc_AC s.heap.size Em o) E x o fj a1 a2 k r z (fun h9 => h9.2.2 rfl) hk hzx h2) (vx_cwSW 4 hts gL_law_L_hoist rfl rfl rfl (by decide +kernel) ⟨Nat.le_of_ble_eq_true rfl, Nat.le_of_ble_eq_true rfl⟩) ⟨fun a U g mk q => ⟨q.1, q.2.1, q.2.2.1.call, q.2.2.2.1.moved (Vm.Alike.refl U.vm), q.2.2.2.2⟩, fun U hU hW9 => ⟨rfl, by rw [hU]; exact hI.1, ((hKX.go hS hU hW9).narrow (fun _ h9 => h9.1) (by rw [hU]; exact tc_AC_new hI.2.1 hIo hS.1)), hKL.moved hW9.alike, by rw [hU]; exact hO⟩⟩ rfl rfl hl.1 rfl (lv_room (Nat.le_of_ble_eq_true rfl)) dL_law_490 ⟨by show cells + 2 ≤ 847852; omega, by show slots + 12 ≤ 6552547; omega⟩) hS (fun _ _ h => h.elim (fun h => h.1) (fun h => by rw [h]; exact hI.2.2.2.1)) (fun _ h => h.elim (fun h => h.1) (fun h => by rw [h]; exact hI.2.2.2.1)) (fun H1 locs hB z1 o1 hS => ?_)
  obtain ⟨E9, fj9, hE9, hW9, hM9, hO9, hfj⟩ := hI.afterC hB o1
  have hso := hI.2.2.2.1
  refine lv_istore (lv' := [(5, .int (tc_c3 k)), (4, .int (nI j)), (3, .ref o), (2, .ref (Em 0)), (1, .ref (E 0)), (0, .ref b)]) hx hb dL_law_493 hl (by decide) rfl (fun ls hl => ?_)
  refine lv_aload_n hx hb dL_law_495 rfl (lv_at hl 3 rfl) ?_
  refine lv_aload_n hx hb dL_law_496 rfl (lv_at hl 5 rfl) ?_
  refine lv_iload hx hb dL_law_497 (lv_at hl 1 rfl) ?_
  refine lv_iconst (v := nI 1) hx hb dL_law_499 (by decide) ?_
  refine lv_iadd hx hb dL_law_500 ?_
  refine va_sld hx hb hX hbl hbA hS (tc_hin (k := 1) hj (by decide) hL) dL_law_501 ?_
  rw [← ea1]
  refine lv_aload_n hx hb dL_law_502 rfl (lv_at hl 5 rfl) ?_
  refine lv_iload hx hb dL_law_503 (lv_at hl 1 rfl) ?_
  refine lv_iconst (v := nI 2) hx hb dL_law_505 (by decide) ?_
  refine lv_iadd hx hb dL_law_506 ?_
  refine va_sld hx hb hX hbl hbA hS (tc_hin (k := 2) hj (by decide) hL) dL_law_507 ?_
  rw [← ea2]
  refine tc_cw (va_runV (As := [.int a1, .int a2]) (rest := []) ⟨hx, hb, hml, hown, hts⟩ (mt_X3_hoist l D cU cO cI (tc_AM s.heap.size E9 z o) Em y a1 a2 v y' h3) (cwV 2 hts gL_law_X3_hoist rfl rfl rfl (by decide +kernel) ⟨Nat.le_of_ble_eq_true rfl, Nat.le_of_ble_eq_true rfl⟩) ⟨fun a U g mk q => ⟨q.1, q.2.1, q.2.2.call⟩, tc_rcv hM9.1 hK rfl, fun U hU hW8 => ⟨rfl, by rw [hU]; exact hM9, va_K.moved hW8.alike hK, by rw [hU]; exact tc_AM_new hW9 hO9.lt hS.1⟩⟩ rfl rfl hl.1 rfl (lv_room (Nat.le_of_ble_eq_true rfl)) dL_law_508 ⟨by show cells + 2 + 0 ≤ 847852; omega, by show slots + 12 + 0 ≤ 6552547; omega⟩) hS (fun _ _ h => h.1) (fun _ h => h.1) (fun H2 locs hM z2 o2 hS => ?_)
  obtain ⟨hI9, hO⟩ := tc_Inv.afterM (R := R) hW9 hO9 hso hM hR' o2
  refine lv_istore (lv' := [(6, .int v), (5, .int (tc_c3 k)), (4, .int (nI j)), (3, .ref o), (2, .ref (Em 0)), (1, .ref (E 0)), (0, .ref b)]) hx hb dL_law_511 hl (by decide) rfl (fun ls hl => ?_)
  refine lv_aload_n hx hb dL_law_513 rfl (lv_at hl 4 rfl) ?_
  refine tc_cr (W.runV (As := []) (rest := []) ⟨hx, hb, hml, hown, hts⟩ (mt_X3_thrown l D cU cO cI _ Em y' (y' 0 0) rfl) (cwV 0 hts gL_law_X3_thrown rfl rfl rfl (by decide +kernel) ⟨Nat.le_of_ble_eq_true rfl, Nat.le_of_ble_eq_true rfl⟩) ⟨fun a U g mk q => ⟨q.1, q.2.1, va_K.moved (Vm.Alike.refl U.vm) q.2.2⟩, tc_rcv hI9.2.1.1 hK rfl, fun U hU hW8 => ⟨rfl, by rw [hU]; exact hI9.2.1, va_K.moved hW8.alike hK⟩⟩ rfl rfl hl.1 rfl (lv_room (Nat.le_of_ble_eq_true rfl)) dL_law_514 ⟨by show cells + 2 + 0 + 0 ≤ 847852; omega, by show slots + 12 + 0 + 0 ≤ 6552547; omega⟩) ?_
  refine lv_iload hx hb dL_law_517 (lv_at hl 1 rfl) ?_
  have key : ∀ ls : Array Slot, lv_has ls 9 [(6, .int v), (5, .int (tc_c3 k)), (4, .int (nI j)), (3, .ref o), (2, .ref (Em 0)), (1, .ref (E 0)), (0, .ref b)] → W p l e room_1 (s.setDrawn d0) m #[Value.ref b] below meth c H2 locs (cells + 2 + 0) (slots + 12 + 0) (lw_Z below #[Value.ref b] s) (F0 m 541 ls []) := fun ls hl => by
    refine lv_goto (tgt := 1243) hx hb dL_law_541 (by decide) ?_
    refine W.widen (k := cells + 400) (n := slots + 2300) (by omega) (by omega) ?_
    exact K E9 z y' H2 locs d0 hd0 hI9 hS ls (by have h9 := lv_sub hl [2, 3, 4, 5, 6] rfl; show lv_has ls 9 [(4, .int (nI j)), (3, .ref o), (2, .ref (Em 0)), (1, .ref (E9 0)), (0, .ref b)]; rw [hE9]; exact h9)
  refine lv_icmp_eq (tgt := 524) hx hb dL_law_519 (by decide) (fun _ => ?_) (fun h9 => absurd hc h9)
  refine lv_iload hx hb dL_law_524 (lv_at hl 1 rfl) ?_
  refine lv_if_ne (tgt := 541) hx hb dL_law_526 (by decide) (fun _ => key ls hl) (fun h9 => ?_)
  have hk0 : k = 0 := tc_c3_0 h9
  refine lv_aload_n hx hb dL_law_529 rfl (lv_at hl 3 rfl) ?_
  refine lv_iconst (v := 0) hx hb dL_law_530 (by decide) ?_
  refine va_lald hx hb hKL.1 (tc_p1 hO) 0 0 rfl rfl (tc_ix_in ⟨by decide, by decide⟩) dL_law_531 ?_
  rw [tc_c0, hfj hk0]
  refine lv_iload hx hb dL_law_532 (lv_at hl 0 rfl) ?_
  refine lv_i2l hx hb dL_law_534 rfl ?_
  refine W.lcmp hx hb dL_law_535 ?_
  rw [hv hk0, tc_cmp0]
  exact lv_if_eq (tgt := 541) hx hb dL_law_536 (by decide) (fun _ => key ls hl) (fun h9 => absurd rfl h9)
set_option maxHeartbeats 4000000 in
set_option maxRecDepth 100000 in
theorem law_take {p : Program} {e : Env} {s : State} {m : MethodId} {below : List Frame} {meth : Method} {c : Code} (l : Launch) (hst : l.stackTraces = false) {b L : Nat} {xs : Nat → Int32} (hL : L ≤ 2560) (C0 : lw_At p s m meth c b L xs) {R : tc_X → tc_Y → Prop} (hop : ∀ (x : tc_X) (y : tc_Y) (a1 : Int32), R x y → ∃ (k : Nat) (r : Int32) (z : tc_X) (v : Int32) (y' : tc_Y), f_X2_take x a1 = some (k, r, z) ∧ f_X3_take y a1 = some (v, y') ∧ (k = 0 ∨ k = 1 ∨ k = 3) ∧ (k ≠ 0 → z = x) ∧ y' 0 0 = tc_c13 k ∧ (k = 0 → v = r) ∧ R z y') {D : va_G} {cU cO cI cJ : ClassId} {e0 : Nat} (hKX0 : tc_KX D cU cO cI e0 (fun q => s.heap.size ≤ q) s) (hKL0 : tc_KL D cJ s) {E Em : Nat → Nat} {o : Nat} {x : tc_X} {y : tc_Y} {H : Heap} {locs : List Loc} {ls : Array Slot} {d0 : Drawn} (hd0 : s.drawn.sameBut d0 lw_cs) {j : Nat} (hj : j + 5 ≤ L) (hl : lv_has ls 9 (tc_lw b o j E Em)) (hI : tc_Inv R D cU cO cI cJ e0 s.heap.size E Em o x y H) (hS : va_S (fun q => s.heap.size ≤ q) s.heap H locs) {cells slots : Nat} (hcc : cells + 400 ≤ 847852) (hss : slots + 2300 ≤ 6552547)
    (K : ∀ (E' : Nat → Nat) (x' : tc_X) (y' : tc_Y) (H' : Heap) (locs' : List Loc) (d1 : Drawn), s.drawn.sameBut d1 lw_cs → tc_Inv R D cU cO cI cJ e0 s.heap.size E' Em o x' y' H' → va_S (fun q => s.heap.size ≤ q) s.heap H' locs' → ∀ ls', lv_has ls' 9 (tc_lw b o j E' Em) → W p l e room_1 (s.setDrawn d1) m #[Value.ref b] below meth c H' locs' (cells + 400) (slots + 2300) (lw_Z below #[Value.ref b] s) (F0 m 1243 ls' [])) : W p l e room_1 (s.setDrawn d0) m #[Value.ref b] below meth c H locs cells slots (lw_Z below #[Value.ref b] s) (F0 m 544 ls []) := by
  obtain ⟨hx, hb, hr, hml, hown, hts0, hX, hbl, hlocks, hgv⟩ := id C0
  have hts : ∀ w ∈ wsL_law, w.before #[Value.ref b] (s.setDrawn d0) = true := dr_words (fun w h => hts0 w (wsL_law_in w h)) d0
  have hbA : ¬ (fun q : Nat => s.heap.size ≤ q) b := Nat.not_le.mpr hbl
  have hX : va_X b L xs (s.setDrawn d0) s.heap := hX
  have hKX := hKX0.drawn d0
  have hKL := hKL0.moved (U := s.setDrawn d0) (Vm.Alike.refl s.vm)
  have hK := hKX.1.1
  have hl : lv_has ls 9 [(4, .int (nI j)), (3, .ref o), (2, .ref (Em 0)), (1, .ref (E 0)), (0, .ref b)] := hl
  have hIo : o < H.size := hI.2.2.1.elim (fun _ h => h.lt)
  refine lv_aload_n hx hb dL_law_544 rfl (lv_at hl 3 rfl) ?_
  refine lv_aload_n hx hb dL_law_545 rfl (lv_at hl 4 rfl) ?_
  refine lv_iload hx hb dL_law_546 (lv_at hl 0 rfl) ?_
  refine lv_iconst (v := nI 1) hx hb dL_law_548 (by decide) ?_
  refine lv_iadd hx hb dL_law_549 ?_
  refine va_sld hx hb hX hbl hbA hS (tc_hin (k := 1) hj (by decide) hL) dL_law_550 ?_
  refine lv_topi (fun a1 ea1 => ?_)
  refine lv_aload_n hx hb dL_law_551 rfl (lv_at hl 1 rfl) ?_
  obtain ⟨k, r, z, v, y', h2, h3, hk, hzx, hc, hv, hR'⟩ := hop x y a1 hI.2.2.2.2
  obtain ⟨fj, hO⟩ := hI.2.2.1
  refine tc_cw (vx_runSW (As := [.ref (E 0), .int a1, .ref o]) (rest := []) ⟨hx, hb, hml, hown, hts⟩ (mt_L_take l hst D cU cO cI cJ e0 (tc_AC s.heap.size Em o) E x o fj a1 k r z (fun h9 => h9.2.2 rfl) hk hzx h2) (vx_cwSW 3 hts gL_law_L_take rfl rfl rfl (by decide +kernel) ⟨Nat.le_of_ble_eq_true rfl, Nat.le_of_ble_eq_true rfl⟩) ⟨fun a U g mk q => ⟨q.1, q.2.1, q.2.2.1.call, q.2.2.2.1.moved (Vm.Alike.refl U.vm), q.2.2.2.2⟩, fun U hU hW9 => ⟨rfl, by rw [hU]; exact hI.1, ((hKX.go hS hU hW9).narrow (fun _ h9 => h9.1) (by rw [hU]; exact tc_AC_new hI.2.1 hIo hS.1)), hKL.moved hW9.alike, by rw [hU]; exact hO⟩⟩ rfl rfl hl.1 rfl (lv_room (Nat.le_of_ble_eq_true rfl)) dL_law_552 ⟨by show cells + 2 ≤ 847852; omega, by show slots + 12 ≤ 6552547; omega⟩) hS (fun _ _ h => h.elim (fun h => h.1) (fun h => by rw [h]; exact hI.2.2.2.1)) (fun _ h => h.elim (fun h => h.1) (fun h => by rw [h]; exact hI.2.2.2.1)) (fun H1 locs hB z1 o1 hS => ?_)
  obtain ⟨E9, fj9, hE9, hW9, hM9, hO9, hfj⟩ := hI.afterC hB o1
  have hso := hI.2.2.2.1
  refine lv_istore (lv' := [(5, .int (tc_c13 k)), (4, .int (nI j)), (3, .ref o), (2, .ref (Em 0)), (1, .ref (E 0)), (0, .ref b)]) hx hb dL_law_555 hl (by decide) rfl (fun ls hl => ?_)
  refine lv_aload_n hx hb dL_law_557 rfl (lv_at hl 3 rfl) ?_
  refine lv_aload_n hx hb dL_law_558 rfl (lv_at hl 5 rfl) ?_
  refine lv_iload hx hb dL_law_559 (lv_at hl 1 rfl) ?_
  refine lv_iconst (v := nI 1) hx hb dL_law_561 (by decide) ?_
  refine lv_iadd hx hb dL_law_562 ?_
  refine va_sld hx hb hX hbl hbA hS (tc_hin (k := 1) hj (by decide) hL) dL_law_563 ?_
  rw [← ea1]
  refine tc_cw (va_runV (As := [.int a1]) (rest := []) ⟨hx, hb, hml, hown, hts⟩ (mt_X3_take l D cU cO cI (tc_AM s.heap.size E9 z o) Em y a1 v y' h3) (cwV 1 hts gL_law_X3_take rfl rfl rfl (by decide +kernel) ⟨Nat.le_of_ble_eq_true rfl, Nat.le_of_ble_eq_true rfl⟩) ⟨fun a U g mk q => ⟨q.1, q.2.1, q.2.2.call⟩, tc_rcv hM9.1 hK rfl, fun U hU hW8 => ⟨rfl, by rw [hU]; exact hM9, va_K.moved hW8.alike hK, by rw [hU]; exact tc_AM_new hW9 hO9.lt hS.1⟩⟩ rfl rfl hl.1 rfl (lv_room (Nat.le_of_ble_eq_true rfl)) dL_law_564 ⟨by show cells + 2 + 0 ≤ 847852; omega, by show slots + 12 + 0 ≤ 6552547; omega⟩) hS (fun _ _ h => h.1) (fun _ h => h.1) (fun H2 locs hM z2 o2 hS => ?_)
  obtain ⟨hI9, hO⟩ := tc_Inv.afterM (R := R) hW9 hO9 hso hM hR' o2
  refine lv_istore (lv' := [(6, .int v), (5, .int (tc_c13 k)), (4, .int (nI j)), (3, .ref o), (2, .ref (Em 0)), (1, .ref (E 0)), (0, .ref b)]) hx hb dL_law_567 hl (by decide) rfl (fun ls hl => ?_)
  refine lv_aload_n hx hb dL_law_569 rfl (lv_at hl 4 rfl) ?_
  refine tc_cr (W.runV (As := []) (rest := []) ⟨hx, hb, hml, hown, hts⟩ (mt_X3_thrown l D cU cO cI _ Em y' (y' 0 0) rfl) (cwV 0 hts gL_law_X3_thrown rfl rfl rfl (by decide +kernel) ⟨Nat.le_of_ble_eq_true rfl, Nat.le_of_ble_eq_true rfl⟩) ⟨fun a U g mk q => ⟨q.1, q.2.1, va_K.moved (Vm.Alike.refl U.vm) q.2.2⟩, tc_rcv hI9.2.1.1 hK rfl, fun U hU hW8 => ⟨rfl, by rw [hU]; exact hI9.2.1, va_K.moved hW8.alike hK⟩⟩ rfl rfl hl.1 rfl (lv_room (Nat.le_of_ble_eq_true rfl)) dL_law_570 ⟨by show cells + 2 + 0 + 0 ≤ 847852; omega, by show slots + 12 + 0 + 0 ≤ 6552547; omega⟩) ?_
  refine lv_iload hx hb dL_law_573 (lv_at hl 1 rfl) ?_
  have key : ∀ ls : Array Slot, lv_has ls 9 [(6, .int v), (5, .int (tc_c13 k)), (4, .int (nI j)), (3, .ref o), (2, .ref (Em 0)), (1, .ref (E 0)), (0, .ref b)] → W p l e room_1 (s.setDrawn d0) m #[Value.ref b] below meth c H2 locs (cells + 2 + 0) (slots + 12 + 0) (lw_Z below #[Value.ref b] s) (F0 m 597 ls []) := fun ls hl => by
    refine lv_goto (tgt := 1243) hx hb dL_law_597 (by decide) ?_
    refine W.widen (k := cells + 400) (n := slots + 2300) (by omega) (by omega) ?_
    exact K E9 z y' H2 locs d0 hd0 hI9 hS ls (by have h9 := lv_sub hl [2, 3, 4, 5, 6] rfl; show lv_has ls 9 [(4, .int (nI j)), (3, .ref o), (2, .ref (Em 0)), (1, .ref (E9 0)), (0, .ref b)]; rw [hE9]; exact h9)
  refine lv_icmp_eq (tgt := 580) hx hb dL_law_575 (by decide) (fun _ => ?_) (fun h9 => absurd hc h9)
  refine lv_iload hx hb dL_law_580 (lv_at hl 1 rfl) ?_
  refine lv_if_ne (tgt := 597) hx hb dL_law_582 (by decide) (fun _ => key ls hl) (fun h9 => ?_)
  have hk0 : k = 0 := tc_c13_0 h9
  refine lv_aload_n hx hb dL_law_585 rfl (lv_at hl 3 rfl) ?_
  refine lv_iconst (v := 0) hx hb dL_law_586 (by decide) ?_
  refine va_lald hx hb hKL.1 (tc_p1 hO) 0 0 rfl rfl (tc_ix_in ⟨by decide, by decide⟩) dL_law_587 ?_
  rw [tc_c0, hfj hk0]
  refine lv_iload hx hb dL_law_588 (lv_at hl 0 rfl) ?_
  refine lv_i2l hx hb dL_law_590 rfl ?_
  refine W.lcmp hx hb dL_law_591 ?_
  rw [hv hk0, tc_cmp0]
  exact lv_if_eq (tgt := 597) hx hb dL_law_592 (by decide) (fun _ => key ls hl) (fun h9 => absurd rfl h9)
set_option maxHeartbeats 4000000 in
set_option maxRecDepth 100000 in
theorem law_lay {p : Program} {e : Env} {s : State} {m : MethodId} {below : List Frame} {meth : Method} {c : Code} (l : Launch) (hst : l.stackTraces = false) {b L : Nat} {xs : Nat → Int32} (hL : L ≤ 2560) (C0 : lw_At p s m meth c b L xs) {R : tc_X → tc_Y → Prop} (hop : ∀ (x : tc_X) (y : tc_Y) (a1 : Int32), R x y → ∃ (k : Nat) (r : Int32) (z : tc_X) (v : Int32) (y' : tc_Y), f_X2_lay x a1 = some (k, r, z) ∧ f_X3_lay y a1 = some (v, y') ∧ (k = 0 ∨ k = 1 ∨ k = 3) ∧ (k ≠ 0 → z = x) ∧ y' 0 0 = tc_c13 k ∧ (k = 0 → v = r) ∧ R z y') {D : va_G} {cU cO cI cJ : ClassId} {e0 : Nat} (hKX0 : tc_KX D cU cO cI e0 (fun q => s.heap.size ≤ q) s) (hKL0 : tc_KL D cJ s) {E Em : Nat → Nat} {o : Nat} {x : tc_X} {y : tc_Y} {H : Heap} {locs : List Loc} {ls : Array Slot} {d0 : Drawn} (hd0 : s.drawn.sameBut d0 lw_cs) {j : Nat} (hj : j + 5 ≤ L) (hl : lv_has ls 9 (tc_lw b o j E Em)) (hI : tc_Inv R D cU cO cI cJ e0 s.heap.size E Em o x y H) (hS : va_S (fun q => s.heap.size ≤ q) s.heap H locs) {cells slots : Nat} (hcc : cells + 400 ≤ 847852) (hss : slots + 2300 ≤ 6552547)
    (K : ∀ (E' : Nat → Nat) (x' : tc_X) (y' : tc_Y) (H' : Heap) (locs' : List Loc) (d1 : Drawn), s.drawn.sameBut d1 lw_cs → tc_Inv R D cU cO cI cJ e0 s.heap.size E' Em o x' y' H' → va_S (fun q => s.heap.size ≤ q) s.heap H' locs' → ∀ ls', lv_has ls' 9 (tc_lw b o j E' Em) → W p l e room_1 (s.setDrawn d1) m #[Value.ref b] below meth c H' locs' (cells + 400) (slots + 2300) (lw_Z below #[Value.ref b] s) (F0 m 1243 ls' [])) : W p l e room_1 (s.setDrawn d0) m #[Value.ref b] below meth c H locs cells slots (lw_Z below #[Value.ref b] s) (F0 m 600 ls []) := by
  obtain ⟨hx, hb, hr, hml, hown, hts0, hX, hbl, hlocks, hgv⟩ := id C0
  have hts : ∀ w ∈ wsL_law, w.before #[Value.ref b] (s.setDrawn d0) = true := dr_words (fun w h => hts0 w (wsL_law_in w h)) d0
  have hbA : ¬ (fun q : Nat => s.heap.size ≤ q) b := Nat.not_le.mpr hbl
  have hX : va_X b L xs (s.setDrawn d0) s.heap := hX
  have hKX := hKX0.drawn d0
  have hKL := hKL0.moved (U := s.setDrawn d0) (Vm.Alike.refl s.vm)
  have hK := hKX.1.1
  have hl : lv_has ls 9 [(4, .int (nI j)), (3, .ref o), (2, .ref (Em 0)), (1, .ref (E 0)), (0, .ref b)] := hl
  have hIo : o < H.size := hI.2.2.1.elim (fun _ h => h.lt)
  refine lv_aload_n hx hb dL_law_600 rfl (lv_at hl 3 rfl) ?_
  refine lv_aload_n hx hb dL_law_601 rfl (lv_at hl 4 rfl) ?_
  refine lv_iload hx hb dL_law_602 (lv_at hl 0 rfl) ?_
  refine lv_iconst (v := nI 1) hx hb dL_law_604 (by decide) ?_
  refine lv_iadd hx hb dL_law_605 ?_
  refine va_sld hx hb hX hbl hbA hS (tc_hin (k := 1) hj (by decide) hL) dL_law_606 ?_
  refine lv_topi (fun a1 ea1 => ?_)
  refine lv_aload_n hx hb dL_law_607 rfl (lv_at hl 1 rfl) ?_
  obtain ⟨k, r, z, v, y', h2, h3, hk, hzx, hc, hv, hR'⟩ := hop x y a1 hI.2.2.2.2
  obtain ⟨fj, hO⟩ := hI.2.2.1
  refine tc_cw (vx_runSW (As := [.ref (E 0), .int a1, .ref o]) (rest := []) ⟨hx, hb, hml, hown, hts⟩ (mt_L_lay l hst D cU cO cI cJ e0 (tc_AC s.heap.size Em o) E x o fj a1 k r z (fun h9 => h9.2.2 rfl) hk hzx h2) (vx_cwSW 3 hts gL_law_L_lay rfl rfl rfl (by decide +kernel) ⟨Nat.le_of_ble_eq_true rfl, Nat.le_of_ble_eq_true rfl⟩) ⟨fun a U g mk q => ⟨q.1, q.2.1, q.2.2.1.call, q.2.2.2.1.moved (Vm.Alike.refl U.vm), q.2.2.2.2⟩, fun U hU hW9 => ⟨rfl, by rw [hU]; exact hI.1, ((hKX.go hS hU hW9).narrow (fun _ h9 => h9.1) (by rw [hU]; exact tc_AC_new hI.2.1 hIo hS.1)), hKL.moved hW9.alike, by rw [hU]; exact hO⟩⟩ rfl rfl hl.1 rfl (lv_room (Nat.le_of_ble_eq_true rfl)) dL_law_608 ⟨by show cells + 2 ≤ 847852; omega, by show slots + 12 ≤ 6552547; omega⟩) hS (fun _ _ h => h.elim (fun h => h.1) (fun h => by rw [h]; exact hI.2.2.2.1)) (fun _ h => h.elim (fun h => h.1) (fun h => by rw [h]; exact hI.2.2.2.1)) (fun H1 locs hB z1 o1 hS => ?_)
  obtain ⟨E9, fj9, hE9, hW9, hM9, hO9, hfj⟩ := hI.afterC hB o1
  have hso := hI.2.2.2.1
  refine lv_istore (lv' := [(5, .int (tc_c13 k)), (4, .int (nI j)), (3, .ref o), (2, .ref (Em 0)), (1, .ref (E 0)), (0, .ref b)]) hx hb dL_law_611 hl (by decide) rfl (fun ls hl => ?_)
  refine lv_aload_n hx hb dL_law_613 rfl (lv_at hl 3 rfl) ?_
  refine lv_aload_n hx hb dL_law_614 rfl (lv_at hl 5 rfl) ?_
  refine lv_iload hx hb dL_law_615 (lv_at hl 1 rfl) ?_
  refine lv_iconst (v := nI 1) hx hb dL_law_617 (by decide) ?_
  refine lv_iadd hx hb dL_law_618 ?_
  refine va_sld hx hb hX hbl hbA hS (tc_hin (k := 1) hj (by decide) hL) dL_law_619 ?_
  rw [← ea1]
  refine tc_cw (va_runV (As := [.int a1]) (rest := []) ⟨hx, hb, hml, hown, hts⟩ (mt_X3_lay l D cU cO cI (tc_AM s.heap.size E9 z o) Em y a1 v y' h3) (cwV 1 hts gL_law_X3_lay rfl rfl rfl (by decide +kernel) ⟨Nat.le_of_ble_eq_true rfl, Nat.le_of_ble_eq_true rfl⟩) ⟨fun a U g mk q => ⟨q.1, q.2.1, q.2.2.call⟩, tc_rcv hM9.1 hK rfl, fun U hU hW8 => ⟨rfl, by rw [hU]; exact hM9, va_K.moved hW8.alike hK, by rw [hU]; exact tc_AM_new hW9 hO9.lt hS.1⟩⟩ rfl rfl hl.1 rfl (lv_room (Nat.le_of_ble_eq_true rfl)) dL_law_620 ⟨by show cells + 2 + 0 ≤ 847852; omega, by show slots + 12 + 0 ≤ 6552547; omega⟩) hS (fun _ _ h => h.1) (fun _ h => h.1) (fun H2 locs hM z2 o2 hS => ?_)
  obtain ⟨hI9, hO⟩ := tc_Inv.afterM (R := R) hW9 hO9 hso hM hR' o2
  refine lv_istore (lv' := [(6, .int v), (5, .int (tc_c13 k)), (4, .int (nI j)), (3, .ref o), (2, .ref (Em 0)), (1, .ref (E 0)), (0, .ref b)]) hx hb dL_law_623 hl (by decide) rfl (fun ls hl => ?_)
  refine lv_aload_n hx hb dL_law_625 rfl (lv_at hl 4 rfl) ?_
  refine tc_cr (W.runV (As := []) (rest := []) ⟨hx, hb, hml, hown, hts⟩ (mt_X3_thrown l D cU cO cI _ Em y' (y' 0 0) rfl) (cwV 0 hts gL_law_X3_thrown rfl rfl rfl (by decide +kernel) ⟨Nat.le_of_ble_eq_true rfl, Nat.le_of_ble_eq_true rfl⟩) ⟨fun a U g mk q => ⟨q.1, q.2.1, va_K.moved (Vm.Alike.refl U.vm) q.2.2⟩, tc_rcv hI9.2.1.1 hK rfl, fun U hU hW8 => ⟨rfl, by rw [hU]; exact hI9.2.1, va_K.moved hW8.alike hK⟩⟩ rfl rfl hl.1 rfl (lv_room (Nat.le_of_ble_eq_true rfl)) dL_law_626 ⟨by show cells + 2 + 0 + 0 ≤ 847852; omega, by show slots + 12 + 0 + 0 ≤ 6552547; omega⟩) ?_
  refine lv_iload hx hb dL_law_629 (lv_at hl 1 rfl) ?_
  have key : ∀ ls : Array Slot, lv_has ls 9 [(6, .int v), (5, .int (tc_c13 k)), (4, .int (nI j)), (3, .ref o), (2, .ref (Em 0)), (1, .ref (E 0)), (0, .ref b)] → W p l e room_1 (s.setDrawn d0) m #[Value.ref b] below meth c H2 locs (cells + 2 + 0) (slots + 12 + 0) (lw_Z below #[Value.ref b] s) (F0 m 653 ls []) := fun ls hl => by
    refine lv_goto (tgt := 1243) hx hb dL_law_653 (by decide) ?_
    refine W.widen (k := cells + 400) (n := slots + 2300) (by omega) (by omega) ?_
    exact K E9 z y' H2 locs d0 hd0 hI9 hS ls (by have h9 := lv_sub hl [2, 3, 4, 5, 6] rfl; show lv_has ls 9 [(4, .int (nI j)), (3, .ref o), (2, .ref (Em 0)), (1, .ref (E9 0)), (0, .ref b)]; rw [hE9]; exact h9)
  refine lv_icmp_eq (tgt := 636) hx hb dL_law_631 (by decide) (fun _ => ?_) (fun h9 => absurd hc h9)
  refine lv_iload hx hb dL_law_636 (lv_at hl 1 rfl) ?_
  refine lv_if_ne (tgt := 653) hx hb dL_law_638 (by decide) (fun _ => key ls hl) (fun h9 => ?_)
  have hk0 : k = 0 := tc_c13_0 h9
  refine lv_aload_n hx hb dL_law_641 rfl (lv_at hl 3 rfl) ?_
  refine lv_iconst (v := 0) hx hb dL_law_642 (by decide) ?_
  refine va_lald hx hb hKL.1 (tc_p1 hO) 0 0 rfl rfl (tc_ix_in ⟨by decide, by decide⟩) dL_law_643 ?_
  rw [tc_c0, hfj hk0]
  refine lv_iload hx hb dL_law_644 (lv_at hl 0 rfl) ?_
  refine lv_i2l hx hb dL_law_646 rfl ?_
  refine W.lcmp hx hb dL_law_647 ?_
  rw [hv hk0, tc_cmp0]
  exact lv_if_eq (tgt := 653) hx hb dL_law_648 (by decide) (fun _ => key ls hl) (fun h9 => absurd rfl h9)
set_option maxHeartbeats 4000000 in
set_option maxRecDepth 100000 in
theorem law_place {p : Program} {e : Env} {s : State} {m : MethodId} {below : List Frame} {meth : Method} {c : Code} (l : Launch) (hst : l.stackTraces = false) {b L : Nat} {xs : Nat → Int32} (hL : L ≤ 2560) (C0 : lw_At p s m meth c b L xs) {R : tc_X → tc_Y → Prop} (hop : ∀ (x : tc_X) (y : tc_Y) (a1 a2 : Int32), R x y → ∃ (k : Nat) (r : Int32) (v : Int32) (y' : tc_Y), f_X2_place x a1 a2 = some (k, r) ∧ f_X3_place y a1 a2 = some (v, y') ∧ k ≤ 1 ∧  y' 0 0 = tc_c3 k ∧ (k = 0 → v = r) ∧ R x y') {D : va_G} {cU cO cI cJ : ClassId} {e0 : Nat} (hKX0 : tc_KX D cU cO cI e0 (fun q => s.heap.size ≤ q) s) (hKL0 : tc_KL D cJ s) {E Em : Nat → Nat} {o : Nat} {x : tc_X} {y : tc_Y} {H : Heap} {locs : List Loc} {ls : Array Slot} {d0 : Drawn} (hd0 : s.drawn.sameBut d0 lw_cs) {j : Nat} (hj : j + 5 ≤ L) (hl : lv_has ls 9 (tc_lw b o j E Em)) (hI : tc_Inv R D cU cO cI cJ e0 s.heap.size E Em o x y H) (hS : va_S (fun q => s.heap.size ≤ q) s.heap H locs) {cells slots : Nat} (hcc : cells + 400 ≤ 847852) (hss : slots + 2300 ≤ 6552547)
    (K : ∀ (E' : Nat → Nat) (x' : tc_X) (y' : tc_Y) (H' : Heap) (locs' : List Loc) (d1 : Drawn), s.drawn.sameBut d1 lw_cs → tc_Inv R D cU cO cI cJ e0 s.heap.size E' Em o x' y' H' → va_S (fun q => s.heap.size ≤ q) s.heap H' locs' → ∀ ls', lv_has ls' 9 (tc_lw b o j E' Em) → W p l e room_1 (s.setDrawn d1) m #[Value.ref b] below meth c H' locs' (cells + 400) (slots + 2300) (lw_Z below #[Value.ref b] s) (F0 m 1243 ls' [])) : W p l e room_1 (s.setDrawn d0) m #[Value.ref b] below meth c H locs cells slots (lw_Z below #[Value.ref b] s) (F0 m 656 ls []) := by
  obtain ⟨hx, hb, hr, hml, hown, hts0, hX, hbl, hlocks, hgv⟩ := id C0
  have hts : ∀ w ∈ wsL_law, w.before #[Value.ref b] (s.setDrawn d0) = true := dr_words (fun w h => hts0 w (wsL_law_in w h)) d0
  have hbA : ¬ (fun q : Nat => s.heap.size ≤ q) b := Nat.not_le.mpr hbl
  have hX : va_X b L xs (s.setDrawn d0) s.heap := hX
  have hKX := hKX0.drawn d0
  have hKL := hKL0.moved (U := s.setDrawn d0) (Vm.Alike.refl s.vm)
  have hK := hKX.1.1
  have hl : lv_has ls 9 [(4, .int (nI j)), (3, .ref o), (2, .ref (Em 0)), (1, .ref (E 0)), (0, .ref b)] := hl
  have hIo : o < H.size := hI.2.2.1.elim (fun _ h => h.lt)
  refine lv_aload_n hx hb dL_law_656 rfl (lv_at hl 3 rfl) ?_
  refine lv_aload_n hx hb dL_law_657 rfl (lv_at hl 4 rfl) ?_
  refine lv_iload hx hb dL_law_658 (lv_at hl 0 rfl) ?_
  refine lv_iconst (v := nI 1) hx hb dL_law_660 (by decide) ?_
  refine lv_iadd hx hb dL_law_661 ?_
  refine va_sld hx hb hX hbl hbA hS (tc_hin (k := 1) hj (by decide) hL) dL_law_662 ?_
  refine lv_topi (fun a1 ea1 => ?_)
  refine lv_aload_n hx hb dL_law_663 rfl (lv_at hl 4 rfl) ?_
  refine lv_iload hx hb dL_law_664 (lv_at hl 0 rfl) ?_
  refine lv_iconst (v := nI 2) hx hb dL_law_666 (by decide) ?_
  refine lv_iadd hx hb dL_law_667 ?_
  refine va_sld hx hb hX hbl hbA hS (tc_hin (k := 2) hj (by decide) hL) dL_law_668 ?_
  refine lv_topi (fun a2 ea2 => ?_)
  refine lv_aload_n hx hb dL_law_669 rfl (lv_at hl 1 rfl) ?_
  obtain ⟨k, r, v, y', h2, h3, hk, hc, hv, hR'⟩ := hop x y a1 a2 hI.2.2.2.2
  obtain ⟨fj, hO⟩ := hI.2.2.1
  refine tc_cw (vx_runSW (As := [.ref (E 0), .int a1, .int a2, .ref o]) (rest := []) ⟨hx, hb, hml, hown, hts⟩ (mt_L_place l hst D cU cO cI cJ e0 (tc_AC s.heap.size Em o) E x o fj a1 a2 k r (fun h9 => h9.2.2 rfl) hk h2) (vx_cwSW 4 hts gL_law_L_place rfl rfl rfl (by decide +kernel) ⟨Nat.le_of_ble_eq_true rfl, Nat.le_of_ble_eq_true rfl⟩) ⟨fun a U g mk q => ⟨q.1, q.2.1, q.2.2.1.call, q.2.2.2.1.moved (Vm.Alike.refl U.vm), q.2.2.2.2⟩, fun U hU hW9 => ⟨rfl, by rw [hU]; exact hI.1, ((hKX.go hS hU hW9).narrow (fun _ h9 => h9.1) (by rw [hU]; exact tc_AC_new hI.2.1 hIo hS.1)), hKL.moved hW9.alike, by rw [hU]; exact hO⟩⟩ rfl rfl hl.1 rfl (lv_room (Nat.le_of_ble_eq_true rfl)) dL_law_670 ⟨by show cells + 2 ≤ 847852; omega, by show slots + 12 ≤ 6552547; omega⟩) hS (fun _ _ h => h.elim (fun h => h.1) (fun h => by rw [h]; exact hI.2.2.2.1)) (fun _ h => h.elim (fun h => h.1) (fun h => by rw [h]; exact hI.2.2.2.1)) (fun H1 locs hB z1 o1 hS => ?_)
  obtain ⟨E9, fj9, hE9, hW9, hM9, hO9, hfj⟩ := hI.afterC hB o1
  have hso := hI.2.2.2.1
  refine lv_istore (lv' := [(5, .int (tc_c3 k)), (4, .int (nI j)), (3, .ref o), (2, .ref (Em 0)), (1, .ref (E 0)), (0, .ref b)]) hx hb dL_law_673 hl (by decide) rfl (fun ls hl => ?_)
  refine lv_aload_n hx hb dL_law_675 rfl (lv_at hl 3 rfl) ?_
  refine lv_aload_n hx hb dL_law_676 rfl (lv_at hl 5 rfl) ?_
  refine lv_iload hx hb dL_law_677 (lv_at hl 1 rfl) ?_
  refine lv_iconst (v := nI 1) hx hb dL_law_679 (by decide) ?_
  refine lv_iadd hx hb dL_law_680 ?_
  refine va_sld hx hb hX hbl hbA hS (tc_hin (k := 1) hj (by decide) hL) dL_law_681 ?_
  rw [← ea1]
  refine lv_aload_n hx hb dL_law_682 rfl (lv_at hl 5 rfl) ?_
  refine lv_iload hx hb dL_law_683 (lv_at hl 1 rfl) ?_
  refine lv_iconst (v := nI 2) hx hb dL_law_685 (by decide) ?_
  refine lv_iadd hx hb dL_law_686 ?_
  refine va_sld hx hb hX hbl hbA hS (tc_hin (k := 2) hj (by decide) hL) dL_law_687 ?_
  rw [← ea2]
  refine tc_cw (va_runV (As := [.int a1, .int a2]) (rest := []) ⟨hx, hb, hml, hown, hts⟩ (mt_X3_place l D cU cO cI (tc_AM s.heap.size E9 x o) Em y a1 a2 v y' h3) (cwV 2 hts gL_law_X3_place rfl rfl rfl (by decide +kernel) ⟨Nat.le_of_ble_eq_true rfl, Nat.le_of_ble_eq_true rfl⟩) ⟨fun a U g mk q => ⟨q.1, q.2.1, q.2.2.call⟩, tc_rcv hM9.1 hK rfl, fun U hU hW8 => ⟨rfl, by rw [hU]; exact hM9, va_K.moved hW8.alike hK, by rw [hU]; exact tc_AM_new hW9 hO9.lt hS.1⟩⟩ rfl rfl hl.1 rfl (lv_room (Nat.le_of_ble_eq_true rfl)) dL_law_688 ⟨by show cells + 2 + 1 ≤ 847852; omega, by show slots + 12 + 4 ≤ 6552547; omega⟩) hS (fun _ _ h => h.1) (fun _ h => h.1) (fun H2 locs hM z2 o2 hS => ?_)
  obtain ⟨hI9, hO⟩ := tc_Inv.afterM (R := R) hW9 hO9 hso hM hR' o2
  refine lv_istore (lv' := [(6, .int v), (5, .int (tc_c3 k)), (4, .int (nI j)), (3, .ref o), (2, .ref (Em 0)), (1, .ref (E 0)), (0, .ref b)]) hx hb dL_law_691 hl (by decide) rfl (fun ls hl => ?_)
  refine lv_aload_n hx hb dL_law_693 rfl (lv_at hl 4 rfl) ?_
  refine tc_cr (W.runV (As := []) (rest := []) ⟨hx, hb, hml, hown, hts⟩ (mt_X3_thrown l D cU cO cI _ Em y' (y' 0 0) rfl) (cwV 0 hts gL_law_X3_thrown rfl rfl rfl (by decide +kernel) ⟨Nat.le_of_ble_eq_true rfl, Nat.le_of_ble_eq_true rfl⟩) ⟨fun a U g mk q => ⟨q.1, q.2.1, va_K.moved (Vm.Alike.refl U.vm) q.2.2⟩, tc_rcv hI9.2.1.1 hK rfl, fun U hU hW8 => ⟨rfl, by rw [hU]; exact hI9.2.1, va_K.moved hW8.alike hK⟩⟩ rfl rfl hl.1 rfl (lv_room (Nat.le_of_ble_eq_true rfl)) dL_law_694 ⟨by show cells + 2 + 1 + 0 ≤ 847852; omega, by show slots + 12 + 4 + 0 ≤ 6552547; omega⟩) ?_
  refine lv_iload hx hb dL_law_697 (lv_at hl 1 rfl) ?_
  have key : ∀ ls : Array Slot, lv_has ls 9 [(6, .int v), (5, .int (tc_c3 k)), (4, .int (nI j)), (3, .ref o), (2, .ref (Em 0)), (1, .ref (E 0)), (0, .ref b)] → W p l e room_1 (s.setDrawn d0) m #[Value.ref b] below meth c H2 locs (cells + 2 + 1) (slots + 12 + 4) (lw_Z below #[Value.ref b] s) (F0 m 721 ls []) := fun ls hl => by
    refine lv_goto (tgt := 1243) hx hb dL_law_721 (by decide) ?_
    refine W.widen (k := cells + 400) (n := slots + 2300) (by omega) (by omega) ?_
    exact K E9 x y' H2 locs d0 hd0 hI9 hS ls (by have h9 := lv_sub hl [2, 3, 4, 5, 6] rfl; show lv_has ls 9 [(4, .int (nI j)), (3, .ref o), (2, .ref (Em 0)), (1, .ref (E9 0)), (0, .ref b)]; rw [hE9]; exact h9)
  refine lv_icmp_eq (tgt := 704) hx hb dL_law_699 (by decide) (fun _ => ?_) (fun h9 => absurd hc h9)
  refine lv_iload hx hb dL_law_704 (lv_at hl 1 rfl) ?_
  refine lv_if_ne (tgt := 721) hx hb dL_law_706 (by decide) (fun _ => key ls hl) (fun h9 => ?_)
  have hk0 : k = 0 := tc_c3_0 h9
  refine lv_aload_n hx hb dL_law_709 rfl (lv_at hl 3 rfl) ?_
  refine lv_iconst (v := 0) hx hb dL_law_710 (by decide) ?_
  refine va_lald hx hb hKL.1 (tc_p1 hO) 0 0 rfl rfl (tc_ix_in ⟨by decide, by decide⟩) dL_law_711 ?_
  rw [tc_c0, hfj hk0]
  refine lv_iload hx hb dL_law_712 (lv_at hl 0 rfl) ?_
  refine lv_i2l hx hb dL_law_714 rfl ?_
  refine W.lcmp hx hb dL_law_715 ?_
  rw [hv hk0, tc_cmp0]
  exact lv_if_eq (tgt := 721) hx hb dL_law_716 (by decide) (fun _ => key ls hl) (fun h9 => absurd rfl h9)
set_option maxHeartbeats 4000000 in
set_option maxRecDepth 100000 in
theorem law_barrel {p : Program} {e : Env} {s : State} {m : MethodId} {below : List Frame} {meth : Method} {c : Code} (l : Launch) (hst : l.stackTraces = false) {b L : Nat} {xs : Nat → Int32} (hL : L ≤ 2560) (C0 : lw_At p s m meth c b L xs) {R : tc_X → tc_Y → Prop} (hop : ∀ (x : tc_X) (y : tc_Y) (a1 a2 : Int32), R x y → ∃ (k : Nat) (r : Int32) (v : Int32) (y' : tc_Y), f_X2_barrel x a1 a2 = some (k, r) ∧ f_X3_barrel y a1 a2 = some (v, y') ∧ k ≤ 1 ∧  y' 0 0 = tc_c3 k ∧ (k = 0 → v = r) ∧ R x y') {D : va_G} {cU cO cI cJ : ClassId} {e0 : Nat} (hKX0 : tc_KX D cU cO cI e0 (fun q => s.heap.size ≤ q) s) (hKL0 : tc_KL D cJ s) {E Em : Nat → Nat} {o : Nat} {x : tc_X} {y : tc_Y} {H : Heap} {locs : List Loc} {ls : Array Slot} {d0 : Drawn} (hd0 : s.drawn.sameBut d0 lw_cs) {j : Nat} (hj : j + 5 ≤ L) (hl : lv_has ls 9 (tc_lw b o j E Em)) (hI : tc_Inv R D cU cO cI cJ e0 s.heap.size E Em o x y H) (hS : va_S (fun q => s.heap.size ≤ q) s.heap H locs) {cells slots : Nat} (hcc : cells + 400 ≤ 847852) (hss : slots + 2300 ≤ 6552547)
    (K : ∀ (E' : Nat → Nat) (x' : tc_X) (y' : tc_Y) (H' : Heap) (locs' : List Loc) (d1 : Drawn), s.drawn.sameBut d1 lw_cs → tc_Inv R D cU cO cI cJ e0 s.heap.size E' Em o x' y' H' → va_S (fun q => s.heap.size ≤ q) s.heap H' locs' → ∀ ls', lv_has ls' 9 (tc_lw b o j E' Em) → W p l e room_1 (s.setDrawn d1) m #[Value.ref b] below meth c H' locs' (cells + 400) (slots + 2300) (lw_Z below #[Value.ref b] s) (F0 m 1243 ls' [])) : W p l e room_1 (s.setDrawn d0) m #[Value.ref b] below meth c H locs cells slots (lw_Z below #[Value.ref b] s) (F0 m 724 ls []) := by
  obtain ⟨hx, hb, hr, hml, hown, hts0, hX, hbl, hlocks, hgv⟩ := id C0
  have hts : ∀ w ∈ wsL_law, w.before #[Value.ref b] (s.setDrawn d0) = true := dr_words (fun w h => hts0 w (wsL_law_in w h)) d0
  have hbA : ¬ (fun q : Nat => s.heap.size ≤ q) b := Nat.not_le.mpr hbl
  have hX : va_X b L xs (s.setDrawn d0) s.heap := hX
  have hKX := hKX0.drawn d0
  have hKL := hKL0.moved (U := s.setDrawn d0) (Vm.Alike.refl s.vm)
  have hK := hKX.1.1
  have hl : lv_has ls 9 [(4, .int (nI j)), (3, .ref o), (2, .ref (Em 0)), (1, .ref (E 0)), (0, .ref b)] := hl
  have hIo : o < H.size := hI.2.2.1.elim (fun _ h => h.lt)
  refine lv_aload_n hx hb dL_law_724 rfl (lv_at hl 3 rfl) ?_
  refine lv_aload_n hx hb dL_law_725 rfl (lv_at hl 4 rfl) ?_
  refine lv_iload hx hb dL_law_726 (lv_at hl 0 rfl) ?_
  refine lv_iconst (v := nI 1) hx hb dL_law_728 (by decide) ?_
  refine lv_iadd hx hb dL_law_729 ?_
  refine va_sld hx hb hX hbl hbA hS (tc_hin (k := 1) hj (by decide) hL) dL_law_730 ?_
  refine lv_topi (fun a1 ea1 => ?_)
  refine lv_aload_n hx hb dL_law_731 rfl (lv_at hl 4 rfl) ?_
  refine lv_iload hx hb dL_law_732 (lv_at hl 0 rfl) ?_
  refine lv_iconst (v := nI 2) hx hb dL_law_734 (by decide) ?_
  refine lv_iadd hx hb dL_law_735 ?_
  refine va_sld hx hb hX hbl hbA hS (tc_hin (k := 2) hj (by decide) hL) dL_law_736 ?_
  refine lv_topi (fun a2 ea2 => ?_)
  refine lv_aload_n hx hb dL_law_737 rfl (lv_at hl 1 rfl) ?_
  obtain ⟨k, r, v, y', h2, h3, hk, hc, hv, hR'⟩ := hop x y a1 a2 hI.2.2.2.2
  obtain ⟨fj, hO⟩ := hI.2.2.1
  refine tc_cw (vx_runSW (As := [.ref (E 0), .int a1, .int a2, .ref o]) (rest := []) ⟨hx, hb, hml, hown, hts⟩ (mt_L_barrel l hst D cU cO cI cJ e0 (tc_AC s.heap.size Em o) E x o fj a1 a2 k r (fun h9 => h9.2.2 rfl) hk h2) (vx_cwSW 4 hts gL_law_L_barrel rfl rfl rfl (by decide +kernel) ⟨Nat.le_of_ble_eq_true rfl, Nat.le_of_ble_eq_true rfl⟩) ⟨fun a U g mk q => ⟨q.1, q.2.1, q.2.2.1.call, q.2.2.2.1.moved (Vm.Alike.refl U.vm), q.2.2.2.2⟩, fun U hU hW9 => ⟨rfl, by rw [hU]; exact hI.1, ((hKX.go hS hU hW9).narrow (fun _ h9 => h9.1) (by rw [hU]; exact tc_AC_new hI.2.1 hIo hS.1)), hKL.moved hW9.alike, by rw [hU]; exact hO⟩⟩ rfl rfl hl.1 rfl (lv_room (Nat.le_of_ble_eq_true rfl)) dL_law_738 ⟨by show cells + 1 ≤ 847852; omega, by show slots + 6 ≤ 6552547; omega⟩) hS (fun _ _ h => h.elim (fun h => h.1) (fun h => by rw [h]; exact hI.2.2.2.1)) (fun _ h => h.elim (fun h => h.1) (fun h => by rw [h]; exact hI.2.2.2.1)) (fun H1 locs hB z1 o1 hS => ?_)
  obtain ⟨E9, fj9, hE9, hW9, hM9, hO9, hfj⟩ := hI.afterC hB o1
  have hso := hI.2.2.2.1
  refine lv_istore (lv' := [(5, .int (tc_c3 k)), (4, .int (nI j)), (3, .ref o), (2, .ref (Em 0)), (1, .ref (E 0)), (0, .ref b)]) hx hb dL_law_741 hl (by decide) rfl (fun ls hl => ?_)
  refine lv_aload_n hx hb dL_law_743 rfl (lv_at hl 3 rfl) ?_
  refine lv_aload_n hx hb dL_law_744 rfl (lv_at hl 5 rfl) ?_
  refine lv_iload hx hb dL_law_745 (lv_at hl 1 rfl) ?_
  refine lv_iconst (v := nI 1) hx hb dL_law_747 (by decide) ?_
  refine lv_iadd hx hb dL_law_748 ?_
  refine va_sld hx hb hX hbl hbA hS (tc_hin (k := 1) hj (by decide) hL) dL_law_749 ?_
  rw [← ea1]
  refine lv_aload_n hx hb dL_law_750 rfl (lv_at hl 5 rfl) ?_
  refine lv_iload hx hb dL_law_751 (lv_at hl 1 rfl) ?_
  refine lv_iconst (v := nI 2) hx hb dL_law_753 (by decide) ?_
  refine lv_iadd hx hb dL_law_754 ?_
  refine va_sld hx hb hX hbl hbA hS (tc_hin (k := 2) hj (by decide) hL) dL_law_755 ?_
  rw [← ea2]
  refine tc_cw (va_runV (As := [.int a1, .int a2]) (rest := []) ⟨hx, hb, hml, hown, hts⟩ (mt_X3_barrel l D cU cO cI (tc_AM s.heap.size E9 x o) Em y a1 a2 v y' h3) (cwV 2 hts gL_law_X3_barrel rfl rfl rfl (by decide +kernel) ⟨Nat.le_of_ble_eq_true rfl, Nat.le_of_ble_eq_true rfl⟩) ⟨fun a U g mk q => ⟨q.1, q.2.1, q.2.2.call⟩, tc_rcv hM9.1 hK rfl, fun U hU hW8 => ⟨rfl, by rw [hU]; exact hM9, va_K.moved hW8.alike hK, by rw [hU]; exact tc_AM_new hW9 hO9.lt hS.1⟩⟩ rfl rfl hl.1 rfl (lv_room (Nat.le_of_ble_eq_true rfl)) dL_law_756 ⟨by show cells + 1 + 1 ≤ 847852; omega, by show slots + 6 + 5 ≤ 6552547; omega⟩) hS (fun _ _ h => h.1) (fun _ h => h.1) (fun H2 locs hM z2 o2 hS => ?_)
  obtain ⟨hI9, hO⟩ := tc_Inv.afterM (R := R) hW9 hO9 hso hM hR' o2
  refine lv_istore (lv' := [(6, .int v), (5, .int (tc_c3 k)), (4, .int (nI j)), (3, .ref o), (2, .ref (Em 0)), (1, .ref (E 0)), (0, .ref b)]) hx hb dL_law_759 hl (by decide) rfl (fun ls hl => ?_)
  refine lv_aload_n hx hb dL_law_761 rfl (lv_at hl 4 rfl) ?_
  refine tc_cr (W.runV (As := []) (rest := []) ⟨hx, hb, hml, hown, hts⟩ (mt_X3_thrown l D cU cO cI _ Em y' (y' 0 0) rfl) (cwV 0 hts gL_law_X3_thrown rfl rfl rfl (by decide +kernel) ⟨Nat.le_of_ble_eq_true rfl, Nat.le_of_ble_eq_true rfl⟩) ⟨fun a U g mk q => ⟨q.1, q.2.1, va_K.moved (Vm.Alike.refl U.vm) q.2.2⟩, tc_rcv hI9.2.1.1 hK rfl, fun U hU hW8 => ⟨rfl, by rw [hU]; exact hI9.2.1, va_K.moved hW8.alike hK⟩⟩ rfl rfl hl.1 rfl (lv_room (Nat.le_of_ble_eq_true rfl)) dL_law_762 ⟨by show cells + 1 + 1 + 0 ≤ 847852; omega, by show slots + 6 + 5 + 0 ≤ 6552547; omega⟩) ?_
  refine lv_iload hx hb dL_law_765 (lv_at hl 1 rfl) ?_
  have key : ∀ ls : Array Slot, lv_has ls 9 [(6, .int v), (5, .int (tc_c3 k)), (4, .int (nI j)), (3, .ref o), (2, .ref (Em 0)), (1, .ref (E 0)), (0, .ref b)] → W p l e room_1 (s.setDrawn d0) m #[Value.ref b] below meth c H2 locs (cells + 1 + 1) (slots + 6 + 5) (lw_Z below #[Value.ref b] s) (F0 m 789 ls []) := fun ls hl => by
    refine lv_goto (tgt := 1243) hx hb dL_law_789 (by decide) ?_
    refine W.widen (k := cells + 400) (n := slots + 2300) (by omega) (by omega) ?_
    exact K E9 x y' H2 locs d0 hd0 hI9 hS ls (by have h9 := lv_sub hl [2, 3, 4, 5, 6] rfl; show lv_has ls 9 [(4, .int (nI j)), (3, .ref o), (2, .ref (Em 0)), (1, .ref (E9 0)), (0, .ref b)]; rw [hE9]; exact h9)
  refine lv_icmp_eq (tgt := 772) hx hb dL_law_767 (by decide) (fun _ => ?_) (fun h9 => absurd hc h9)
  refine lv_iload hx hb dL_law_772 (lv_at hl 1 rfl) ?_
  refine lv_if_ne (tgt := 789) hx hb dL_law_774 (by decide) (fun _ => key ls hl) (fun h9 => ?_)
  have hk0 : k = 0 := tc_c3_0 h9
  refine lv_aload_n hx hb dL_law_777 rfl (lv_at hl 3 rfl) ?_
  refine lv_iconst (v := 0) hx hb dL_law_778 (by decide) ?_
  refine va_lald hx hb hKL.1 (tc_p1 hO) 0 0 rfl rfl (tc_ix_in ⟨by decide, by decide⟩) dL_law_779 ?_
  rw [tc_c0, hfj hk0]
  refine lv_iload hx hb dL_law_780 (lv_at hl 0 rfl) ?_
  refine lv_i2l hx hb dL_law_782 rfl ?_
  refine W.lcmp hx hb dL_law_783 ?_
  rw [hv hk0, tc_cmp0]
  exact lv_if_eq (tgt := 789) hx hb dL_law_784 (by decide) (fun _ => key ls hl) (fun h9 => absurd rfl h9)
set_option maxHeartbeats 4000000 in
set_option maxRecDepth 100000 in
theorem law_crane {p : Program} {e : Env} {s : State} {m : MethodId} {below : List Frame} {meth : Method} {c : Code} (l : Launch) (hst : l.stackTraces = false) {b L : Nat} {xs : Nat → Int32} (hL : L ≤ 2560) (C0 : lw_At p s m meth c b L xs) {R : tc_X → tc_Y → Prop} (hop : ∀ (x : tc_X) (y : tc_Y) (a1 a2 : Int32), R x y → ∃ (k : Nat) (r : Int32) (v : Int32) (y' : tc_Y), f_X2_crane x a1 a2 = some (k, r) ∧ f_X3_crane y a1 a2 = some (v, y') ∧ k ≤ 1 ∧  y' 0 0 = tc_c3 k ∧ (k = 0 → v = r) ∧ R x y') {D : va_G} {cU cO cI cJ : ClassId} {e0 : Nat} (hKX0 : tc_KX D cU cO cI e0 (fun q => s.heap.size ≤ q) s) (hKL0 : tc_KL D cJ s) {E Em : Nat → Nat} {o : Nat} {x : tc_X} {y : tc_Y} {H : Heap} {locs : List Loc} {ls : Array Slot} {d0 : Drawn} (hd0 : s.drawn.sameBut d0 lw_cs) {j : Nat} (hj : j + 5 ≤ L) (hl : lv_has ls 9 (tc_lw b o j E Em)) (hI : tc_Inv R D cU cO cI cJ e0 s.heap.size E Em o x y H) (hS : va_S (fun q => s.heap.size ≤ q) s.heap H locs) {cells slots : Nat} (hcc : cells + 400 ≤ 847852) (hss : slots + 2300 ≤ 6552547)
    (K : ∀ (E' : Nat → Nat) (x' : tc_X) (y' : tc_Y) (H' : Heap) (locs' : List Loc) (d1 : Drawn), s.drawn.sameBut d1 lw_cs → tc_Inv R D cU cO cI cJ e0 s.heap.size E' Em o x' y' H' → va_S (fun q => s.heap.size ≤ q) s.heap H' locs' → ∀ ls', lv_has ls' 9 (tc_lw b o j E' Em) → W p l e room_1 (s.setDrawn d1) m #[Value.ref b] below meth c H' locs' (cells + 400) (slots + 2300) (lw_Z below #[Value.ref b] s) (F0 m 1243 ls' [])) : W p l e room_1 (s.setDrawn d0) m #[Value.ref b] below meth c H locs cells slots (lw_Z below #[Value.ref b] s) (F0 m 792 ls []) := by
  obtain ⟨hx, hb, hr, hml, hown, hts0, hX, hbl, hlocks, hgv⟩ := id C0
  have hts : ∀ w ∈ wsL_law, w.before #[Value.ref b] (s.setDrawn d0) = true := dr_words (fun w h => hts0 w (wsL_law_in w h)) d0
  have hbA : ¬ (fun q : Nat => s.heap.size ≤ q) b := Nat.not_le.mpr hbl
  have hX : va_X b L xs (s.setDrawn d0) s.heap := hX
  have hKX := hKX0.drawn d0
  have hKL := hKL0.moved (U := s.setDrawn d0) (Vm.Alike.refl s.vm)
  have hK := hKX.1.1
  have hl : lv_has ls 9 [(4, .int (nI j)), (3, .ref o), (2, .ref (Em 0)), (1, .ref (E 0)), (0, .ref b)] := hl
  have hIo : o < H.size := hI.2.2.1.elim (fun _ h => h.lt)
  refine lv_aload_n hx hb dL_law_792 rfl (lv_at hl 3 rfl) ?_
  refine lv_aload_n hx hb dL_law_793 rfl (lv_at hl 4 rfl) ?_
  refine lv_iload hx hb dL_law_794 (lv_at hl 0 rfl) ?_
  refine lv_iconst (v := nI 1) hx hb dL_law_796 (by decide) ?_
  refine lv_iadd hx hb dL_law_797 ?_
  refine va_sld hx hb hX hbl hbA hS (tc_hin (k := 1) hj (by decide) hL) dL_law_798 ?_
  refine lv_topi (fun a1 ea1 => ?_)
  refine lv_aload_n hx hb dL_law_799 rfl (lv_at hl 4 rfl) ?_
  refine lv_iload hx hb dL_law_800 (lv_at hl 0 rfl) ?_
  refine lv_iconst (v := nI 2) hx hb dL_law_802 (by decide) ?_
  refine lv_iadd hx hb dL_law_803 ?_
  refine va_sld hx hb hX hbl hbA hS (tc_hin (k := 2) hj (by decide) hL) dL_law_804 ?_
  refine lv_topi (fun a2 ea2 => ?_)
  refine lv_aload_n hx hb dL_law_805 rfl (lv_at hl 1 rfl) ?_
  obtain ⟨k, r, v, y', h2, h3, hk, hc, hv, hR'⟩ := hop x y a1 a2 hI.2.2.2.2
  obtain ⟨fj, hO⟩ := hI.2.2.1
  refine tc_cw (vx_runSW (As := [.ref (E 0), .int a1, .int a2, .ref o]) (rest := []) ⟨hx, hb, hml, hown, hts⟩ (mt_L_crane l hst D cU cO cI cJ e0 (tc_AC s.heap.size Em o) E x o fj a1 a2 k r (fun h9 => h9.2.2 rfl) hk h2) (vx_cwSW 4 hts gL_law_L_crane rfl rfl rfl (by decide +kernel) ⟨Nat.le_of_ble_eq_true rfl, Nat.le_of_ble_eq_true rfl⟩) ⟨fun a U g mk q => ⟨q.1, q.2.1, q.2.2.1.call, q.2.2.2.1.moved (Vm.Alike.refl U.vm), q.2.2.2.2⟩, fun U hU hW9 => ⟨rfl, by rw [hU]; exact hI.1, ((hKX.go hS hU hW9).narrow (fun _ h9 => h9.1) (by rw [hU]; exact tc_AC_new hI.2.1 hIo hS.1)), hKL.moved hW9.alike, by rw [hU]; exact hO⟩⟩ rfl rfl hl.1 rfl (lv_room (Nat.le_of_ble_eq_true rfl)) dL_law_806 ⟨by show cells + 2 ≤ 847852; omega, by show slots + 12 ≤ 6552547; omega⟩) hS (fun _ _ h => h.elim (fun h => h.1) (fun h => by rw [h]; exact hI.2.2.2.1)) (fun _ h => h.elim (fun h => h.1) (fun h => by rw [h]; exact hI.2.2.2.1)) (fun H1 locs hB z1 o1 hS => ?_)
  obtain ⟨E9, fj9, hE9, hW9, hM9, hO9, hfj⟩ := hI.afterC hB o1
  have hso := hI.2.2.2.1
  refine lv_istore (lv' := [(5, .int (tc_c3 k)), (4, .int (nI j)), (3, .ref o), (2, .ref (Em 0)), (1, .ref (E 0)), (0, .ref b)]) hx hb dL_law_809 hl (by decide) rfl (fun ls hl => ?_)
  refine lv_aload_n hx hb dL_law_811 rfl (lv_at hl 3 rfl) ?_
  refine lv_aload_n hx hb dL_law_812 rfl (lv_at hl 5 rfl) ?_
  refine lv_iload hx hb dL_law_813 (lv_at hl 1 rfl) ?_
  refine lv_iconst (v := nI 1) hx hb dL_law_815 (by decide) ?_
  refine lv_iadd hx hb dL_law_816 ?_
  refine va_sld hx hb hX hbl hbA hS (tc_hin (k := 1) hj (by decide) hL) dL_law_817 ?_
  rw [← ea1]
  refine lv_aload_n hx hb dL_law_818 rfl (lv_at hl 5 rfl) ?_
  refine lv_iload hx hb dL_law_819 (lv_at hl 1 rfl) ?_
  refine lv_iconst (v := nI 2) hx hb dL_law_821 (by decide) ?_
  refine lv_iadd hx hb dL_law_822 ?_
  refine va_sld hx hb hX hbl hbA hS (tc_hin (k := 2) hj (by decide) hL) dL_law_823 ?_
  rw [← ea2]
  refine tc_cw (va_runV (As := [.int a1, .int a2]) (rest := []) ⟨hx, hb, hml, hown, hts⟩ (mt_X3_crane l D cU cO cI (tc_AM s.heap.size E9 x o) Em y a1 a2 v y' h3) (cwV 2 hts gL_law_X3_crane rfl rfl rfl (by decide +kernel) ⟨Nat.le_of_ble_eq_true rfl, Nat.le_of_ble_eq_true rfl⟩) ⟨fun a U g mk q => ⟨q.1, q.2.1, q.2.2.call⟩, tc_rcv hM9.1 hK rfl, fun U hU hW8 => ⟨rfl, by rw [hU]; exact hM9, va_K.moved hW8.alike hK, by rw [hU]; exact tc_AM_new hW9 hO9.lt hS.1⟩⟩ rfl rfl hl.1 rfl (lv_room (Nat.le_of_ble_eq_true rfl)) dL_law_824 ⟨by show cells + 2 + 1 ≤ 847852; omega, by show slots + 12 + 9 ≤ 6552547; omega⟩) hS (fun _ _ h => h.1) (fun _ h => h.1) (fun H2 locs hM z2 o2 hS => ?_)
  obtain ⟨hI9, hO⟩ := tc_Inv.afterM (R := R) hW9 hO9 hso hM hR' o2
  refine lv_istore (lv' := [(6, .int v), (5, .int (tc_c3 k)), (4, .int (nI j)), (3, .ref o), (2, .ref (Em 0)), (1, .ref (E 0)), (0, .ref b)]) hx hb dL_law_827 hl (by decide) rfl (fun ls hl => ?_)
  refine lv_aload_n hx hb dL_law_829 rfl (lv_at hl 4 rfl) ?_
  refine tc_cr (W.runV (As := []) (rest := []) ⟨hx, hb, hml, hown, hts⟩ (mt_X3_thrown l D cU cO cI _ Em y' (y' 0 0) rfl) (cwV 0 hts gL_law_X3_thrown rfl rfl rfl (by decide +kernel) ⟨Nat.le_of_ble_eq_true rfl, Nat.le_of_ble_eq_true rfl⟩) ⟨fun a U g mk q => ⟨q.1, q.2.1, va_K.moved (Vm.Alike.refl U.vm) q.2.2⟩, tc_rcv hI9.2.1.1 hK rfl, fun U hU hW8 => ⟨rfl, by rw [hU]; exact hI9.2.1, va_K.moved hW8.alike hK⟩⟩ rfl rfl hl.1 rfl (lv_room (Nat.le_of_ble_eq_true rfl)) dL_law_830 ⟨by show cells + 2 + 1 + 0 ≤ 847852; omega, by show slots + 12 + 9 + 0 ≤ 6552547; omega⟩) ?_
  refine lv_iload hx hb dL_law_833 (lv_at hl 1 rfl) ?_
  have key : ∀ ls : Array Slot, lv_has ls 9 [(6, .int v), (5, .int (tc_c3 k)), (4, .int (nI j)), (3, .ref o), (2, .ref (Em 0)), (1, .ref (E 0)), (0, .ref b)] → W p l e room_1 (s.setDrawn d0) m #[Value.ref b] below meth c H2 locs (cells + 2 + 1) (slots + 12 + 9) (lw_Z below #[Value.ref b] s) (F0 m 857 ls []) := fun ls hl => by
    refine lv_goto (tgt := 1243) hx hb dL_law_857 (by decide) ?_
    refine W.widen (k := cells + 400) (n := slots + 2300) (by omega) (by omega) ?_
    exact K E9 x y' H2 locs d0 hd0 hI9 hS ls (by have h9 := lv_sub hl [2, 3, 4, 5, 6] rfl; show lv_has ls 9 [(4, .int (nI j)), (3, .ref o), (2, .ref (Em 0)), (1, .ref (E9 0)), (0, .ref b)]; rw [hE9]; exact h9)
  refine lv_icmp_eq (tgt := 840) hx hb dL_law_835 (by decide) (fun _ => ?_) (fun h9 => absurd hc h9)
  refine lv_iload hx hb dL_law_840 (lv_at hl 1 rfl) ?_
  refine lv_if_ne (tgt := 857) hx hb dL_law_842 (by decide) (fun _ => key ls hl) (fun h9 => ?_)
  have hk0 : k = 0 := tc_c3_0 h9
  refine lv_aload_n hx hb dL_law_845 rfl (lv_at hl 3 rfl) ?_
  refine lv_iconst (v := 0) hx hb dL_law_846 (by decide) ?_
  refine va_lald hx hb hKL.1 (tc_p1 hO) 0 0 rfl rfl (tc_ix_in ⟨by decide, by decide⟩) dL_law_847 ?_
  rw [tc_c0, hfj hk0]
  refine lv_iload hx hb dL_law_848 (lv_at hl 0 rfl) ?_
  refine lv_i2l hx hb dL_law_850 rfl ?_
  refine W.lcmp hx hb dL_law_851 ?_
  rw [hv hk0, tc_cmp0]
  exact lv_if_eq (tgt := 857) hx hb dL_law_852 (by decide) (fun _ => key ls hl) (fun h9 => absurd rfl h9)
set_option maxHeartbeats 4000000 in
set_option maxRecDepth 100000 in
theorem law_count {p : Program} {e : Env} {s : State} {m : MethodId} {below : List Frame} {meth : Method} {c : Code} (l : Launch) (hst : l.stackTraces = false) {b L : Nat} {xs : Nat → Int32} (hL : L ≤ 2560) (C0 : lw_At p s m meth c b L xs) {R : tc_X → tc_Y → Prop} (hop : ∀ (x : tc_X) (y : tc_Y) (a1 : Int32), R x y → ∃ (k : Nat) (r : Int32) (v : Int32) (y' : tc_Y), f_X2_count x a1 = some (k, r) ∧ f_X3_count y a1 = some (v, y') ∧ k ≤ 1 ∧  y' 0 0 = tc_c3 k ∧ (k = 0 → v = r) ∧ R x y') {D : va_G} {cU cO cI cJ : ClassId} {e0 : Nat} (hKX0 : tc_KX D cU cO cI e0 (fun q => s.heap.size ≤ q) s) (hKL0 : tc_KL D cJ s) {E Em : Nat → Nat} {o : Nat} {x : tc_X} {y : tc_Y} {H : Heap} {locs : List Loc} {ls : Array Slot} {d0 : Drawn} (hd0 : s.drawn.sameBut d0 lw_cs) {j : Nat} (hj : j + 5 ≤ L) (hl : lv_has ls 9 (tc_lw b o j E Em)) (hI : tc_Inv R D cU cO cI cJ e0 s.heap.size E Em o x y H) (hS : va_S (fun q => s.heap.size ≤ q) s.heap H locs) {cells slots : Nat} (hcc : cells + 400 ≤ 847852) (hss : slots + 2300 ≤ 6552547)
    (K : ∀ (E' : Nat → Nat) (x' : tc_X) (y' : tc_Y) (H' : Heap) (locs' : List Loc) (d1 : Drawn), s.drawn.sameBut d1 lw_cs → tc_Inv R D cU cO cI cJ e0 s.heap.size E' Em o x' y' H' → va_S (fun q => s.heap.size ≤ q) s.heap H' locs' → ∀ ls', lv_has ls' 9 (tc_lw b o j E' Em) → W p l e room_1 (s.setDrawn d1) m #[Value.ref b] below meth c H' locs' (cells + 400) (slots + 2300) (lw_Z below #[Value.ref b] s) (F0 m 1243 ls' [])) : W p l e room_1 (s.setDrawn d0) m #[Value.ref b] below meth c H locs cells slots (lw_Z below #[Value.ref b] s) (F0 m 860 ls []) := by
  obtain ⟨hx, hb, hr, hml, hown, hts0, hX, hbl, hlocks, hgv⟩ := id C0
  have hts : ∀ w ∈ wsL_law, w.before #[Value.ref b] (s.setDrawn d0) = true := dr_words (fun w h => hts0 w (wsL_law_in w h)) d0
  have hbA : ¬ (fun q : Nat => s.heap.size ≤ q) b := Nat.not_le.mpr hbl
  have hX : va_X b L xs (s.setDrawn d0) s.heap := hX
  have hKX := hKX0.drawn d0
  have hKL := hKL0.moved (U := s.setDrawn d0) (Vm.Alike.refl s.vm)
  have hK := hKX.1.1
  have hl : lv_has ls 9 [(4, .int (nI j)), (3, .ref o), (2, .ref (Em 0)), (1, .ref (E 0)), (0, .ref b)] := hl
  have hIo : o < H.size := hI.2.2.1.elim (fun _ h => h.lt)
  refine lv_aload_n hx hb dL_law_860 rfl (lv_at hl 3 rfl) ?_
  refine lv_aload_n hx hb dL_law_861 rfl (lv_at hl 4 rfl) ?_
  refine lv_iload hx hb dL_law_862 (lv_at hl 0 rfl) ?_
  refine lv_iconst (v := nI 1) hx hb dL_law_864 (by decide) ?_
  refine lv_iadd hx hb dL_law_865 ?_
  refine va_sld hx hb hX hbl hbA hS (tc_hin (k := 1) hj (by decide) hL) dL_law_866 ?_
  refine lv_topi (fun a1 ea1 => ?_)
  refine lv_aload_n hx hb dL_law_867 rfl (lv_at hl 1 rfl) ?_
  obtain ⟨k, r, v, y', h2, h3, hk, hc, hv, hR'⟩ := hop x y a1 hI.2.2.2.2
  obtain ⟨fj, hO⟩ := hI.2.2.1
  refine tc_cw (vx_runSW (As := [.ref (E 0), .int a1, .ref o]) (rest := []) ⟨hx, hb, hml, hown, hts⟩ (mt_L_count l hst D cU cO cI cJ e0 (tc_AC s.heap.size Em o) E x o fj a1 k r (fun h9 => h9.2.2 rfl) hk h2) (vx_cwSW 3 hts gL_law_L_count rfl rfl rfl (by decide +kernel) ⟨Nat.le_of_ble_eq_true rfl, Nat.le_of_ble_eq_true rfl⟩) ⟨fun a U g mk q => ⟨q.1, q.2.1, q.2.2.1.call, q.2.2.2.1.moved (Vm.Alike.refl U.vm), q.2.2.2.2⟩, fun U hU hW9 => ⟨rfl, by rw [hU]; exact hI.1, ((hKX.go hS hU hW9).narrow (fun _ h9 => h9.1) (by rw [hU]; exact tc_AC_new hI.2.1 hIo hS.1)), hKL.moved hW9.alike, by rw [hU]; exact hO⟩⟩ rfl rfl hl.1 rfl (lv_room (Nat.le_of_ble_eq_true rfl)) dL_law_868 ⟨by show cells + 1 ≤ 847852; omega, by show slots + 6 ≤ 6552547; omega⟩) hS (fun _ _ h => h.elim (fun h => h.1) (fun h => by rw [h]; exact hI.2.2.2.1)) (fun _ h => h.elim (fun h => h.1) (fun h => by rw [h]; exact hI.2.2.2.1)) (fun H1 locs hB z1 o1 hS => ?_)
  obtain ⟨E9, fj9, hE9, hW9, hM9, hO9, hfj⟩ := hI.afterC hB o1
  have hso := hI.2.2.2.1
  refine lv_istore (lv' := [(5, .int (tc_c3 k)), (4, .int (nI j)), (3, .ref o), (2, .ref (Em 0)), (1, .ref (E 0)), (0, .ref b)]) hx hb dL_law_871 hl (by decide) rfl (fun ls hl => ?_)
  refine lv_aload_n hx hb dL_law_873 rfl (lv_at hl 3 rfl) ?_
  refine lv_aload_n hx hb dL_law_874 rfl (lv_at hl 5 rfl) ?_
  refine lv_iload hx hb dL_law_875 (lv_at hl 1 rfl) ?_
  refine lv_iconst (v := nI 1) hx hb dL_law_877 (by decide) ?_
  refine lv_iadd hx hb dL_law_878 ?_
  refine va_sld hx hb hX hbl hbA hS (tc_hin (k := 1) hj (by decide) hL) dL_law_879 ?_
  rw [← ea1]
  refine tc_cw (va_runV (As := [.int a1]) (rest := []) ⟨hx, hb, hml, hown, hts⟩ (mt_X3_count l D cU cO cI (tc_AM s.heap.size E9 x o) Em y a1 v y' h3) (cwV 1 hts gL_law_X3_count rfl rfl rfl (by decide +kernel) ⟨Nat.le_of_ble_eq_true rfl, Nat.le_of_ble_eq_true rfl⟩) ⟨fun a U g mk q => ⟨q.1, q.2.1, q.2.2.call⟩, tc_rcv hM9.1 hK rfl, fun U hU hW8 => ⟨rfl, by rw [hU]; exact hM9, va_K.moved hW8.alike hK, by rw [hU]; exact tc_AM_new hW9 hO9.lt hS.1⟩⟩ rfl rfl hl.1 rfl (lv_room (Nat.le_of_ble_eq_true rfl)) dL_law_880 ⟨by show cells + 1 + 1 ≤ 847852; omega, by show slots + 6 + 7 ≤ 6552547; omega⟩) hS (fun _ _ h => h.1) (fun _ h => h.1) (fun H2 locs hM z2 o2 hS => ?_)
  obtain ⟨hI9, hO⟩ := tc_Inv.afterM (R := R) hW9 hO9 hso hM hR' o2
  refine lv_istore (lv' := [(6, .int v), (5, .int (tc_c3 k)), (4, .int (nI j)), (3, .ref o), (2, .ref (Em 0)), (1, .ref (E 0)), (0, .ref b)]) hx hb dL_law_883 hl (by decide) rfl (fun ls hl => ?_)
  refine lv_aload_n hx hb dL_law_885 rfl (lv_at hl 4 rfl) ?_
  refine tc_cr (W.runV (As := []) (rest := []) ⟨hx, hb, hml, hown, hts⟩ (mt_X3_thrown l D cU cO cI _ Em y' (y' 0 0) rfl) (cwV 0 hts gL_law_X3_thrown rfl rfl rfl (by decide +kernel) ⟨Nat.le_of_ble_eq_true rfl, Nat.le_of_ble_eq_true rfl⟩) ⟨fun a U g mk q => ⟨q.1, q.2.1, va_K.moved (Vm.Alike.refl U.vm) q.2.2⟩, tc_rcv hI9.2.1.1 hK rfl, fun U hU hW8 => ⟨rfl, by rw [hU]; exact hI9.2.1, va_K.moved hW8.alike hK⟩⟩ rfl rfl hl.1 rfl (lv_room (Nat.le_of_ble_eq_true rfl)) dL_law_886 ⟨by show cells + 1 + 1 + 0 ≤ 847852; omega, by show slots + 6 + 7 + 0 ≤ 6552547; omega⟩) ?_
  refine lv_iload hx hb dL_law_889 (lv_at hl 1 rfl) ?_
  have key : ∀ ls : Array Slot, lv_has ls 9 [(6, .int v), (5, .int (tc_c3 k)), (4, .int (nI j)), (3, .ref o), (2, .ref (Em 0)), (1, .ref (E 0)), (0, .ref b)] → W p l e room_1 (s.setDrawn d0) m #[Value.ref b] below meth c H2 locs (cells + 1 + 1) (slots + 6 + 7) (lw_Z below #[Value.ref b] s) (F0 m 913 ls []) := fun ls hl => by
    refine lv_goto (tgt := 1243) hx hb dL_law_913 (by decide) ?_
    refine W.widen (k := cells + 400) (n := slots + 2300) (by omega) (by omega) ?_
    exact K E9 x y' H2 locs d0 hd0 hI9 hS ls (by have h9 := lv_sub hl [2, 3, 4, 5, 6] rfl; show lv_has ls 9 [(4, .int (nI j)), (3, .ref o), (2, .ref (Em 0)), (1, .ref (E9 0)), (0, .ref b)]; rw [hE9]; exact h9)
  refine lv_icmp_eq (tgt := 896) hx hb dL_law_891 (by decide) (fun _ => ?_) (fun h9 => absurd hc h9)
  refine lv_iload hx hb dL_law_896 (lv_at hl 1 rfl) ?_
  refine lv_if_ne (tgt := 913) hx hb dL_law_898 (by decide) (fun _ => key ls hl) (fun h9 => ?_)
  have hk0 : k = 0 := tc_c3_0 h9
  refine lv_aload_n hx hb dL_law_901 rfl (lv_at hl 3 rfl) ?_
  refine lv_iconst (v := 0) hx hb dL_law_902 (by decide) ?_
  refine va_lald hx hb hKL.1 (tc_p1 hO) 0 0 rfl rfl (tc_ix_in ⟨by decide, by decide⟩) dL_law_903 ?_
  rw [tc_c0, hfj hk0]
  refine lv_iload hx hb dL_law_904 (lv_at hl 0 rfl) ?_
  refine lv_i2l hx hb dL_law_906 rfl ?_
  refine W.lcmp hx hb dL_law_907 ?_
  rw [hv hk0, tc_cmp0]
  exact lv_if_eq (tgt := 913) hx hb dL_law_908 (by decide) (fun _ => key ls hl) (fun h9 => absurd rfl h9)
set_option maxHeartbeats 4000000 in
set_option maxRecDepth 100000 in
theorem law_move {p : Program} {e : Env} {s : State} {m : MethodId} {below : List Frame} {meth : Method} {c : Code} (l : Launch) (hst : l.stackTraces = false) {b L : Nat} {xs : Nat → Int32} (hL : L ≤ 2560) (C0 : lw_At p s m meth c b L xs) {R : tc_X → tc_Y → Prop} (hop : ∀ (x : tc_X) (y : tc_Y) (a1 a2 a3 : Int32), R x y → ∃ (k : Nat) (r : Int32) (v : Int32) (y' : tc_Y), f_X2_move x a1 a2 a3 = some (k, r) ∧ f_X3_move y a1 a2 a3 = some (v, y') ∧ k ≤ 1 ∧  y' 0 0 = tc_c3 k ∧ (k = 0 → v = r) ∧ R x y') {D : va_G} {cU cO cI cJ : ClassId} {e0 : Nat} (hKX0 : tc_KX D cU cO cI e0 (fun q => s.heap.size ≤ q) s) (hKL0 : tc_KL D cJ s) {E Em : Nat → Nat} {o : Nat} {x : tc_X} {y : tc_Y} {H : Heap} {locs : List Loc} {ls : Array Slot} {d0 : Drawn} (hd0 : s.drawn.sameBut d0 lw_cs) {j : Nat} (hj : j + 5 ≤ L) (hl : lv_has ls 9 (tc_lw b o j E Em)) (hI : tc_Inv R D cU cO cI cJ e0 s.heap.size E Em o x y H) (hS : va_S (fun q => s.heap.size ≤ q) s.heap H locs) {cells slots : Nat} (hcc : cells + 400 ≤ 847852) (hss : slots + 2300 ≤ 6552547)
    (K : ∀ (E' : Nat → Nat) (x' : tc_X) (y' : tc_Y) (H' : Heap) (locs' : List Loc) (d1 : Drawn), s.drawn.sameBut d1 lw_cs → tc_Inv R D cU cO cI cJ e0 s.heap.size E' Em o x' y' H' → va_S (fun q => s.heap.size ≤ q) s.heap H' locs' → ∀ ls', lv_has ls' 9 (tc_lw b o j E' Em) → W p l e room_1 (s.setDrawn d1) m #[Value.ref b] below meth c H' locs' (cells + 400) (slots + 2300) (lw_Z below #[Value.ref b] s) (F0 m 1243 ls' [])) : W p l e room_1 (s.setDrawn d0) m #[Value.ref b] below meth c H locs cells slots (lw_Z below #[Value.ref b] s) (F0 m 916 ls []) := by
  obtain ⟨hx, hb, hr, hml, hown, hts0, hX, hbl, hlocks, hgv⟩ := id C0
  have hts : ∀ w ∈ wsL_law, w.before #[Value.ref b] (s.setDrawn d0) = true := dr_words (fun w h => hts0 w (wsL_law_in w h)) d0
  have hbA : ¬ (fun q : Nat => s.heap.size ≤ q) b := Nat.not_le.mpr hbl
  have hX : va_X b L xs (s.setDrawn d0) s.heap := hX
  have hKX := hKX0.drawn d0
  have hKL := hKL0.moved (U := s.setDrawn d0) (Vm.Alike.refl s.vm)
  have hK := hKX.1.1
  have hl : lv_has ls 9 [(4, .int (nI j)), (3, .ref o), (2, .ref (Em 0)), (1, .ref (E 0)), (0, .ref b)] := hl
  have hIo : o < H.size := hI.2.2.1.elim (fun _ h => h.lt)
  refine lv_aload_n hx hb dL_law_916 rfl (lv_at hl 3 rfl) ?_
  refine lv_aload_n hx hb dL_law_917 rfl (lv_at hl 4 rfl) ?_
  refine lv_iload hx hb dL_law_918 (lv_at hl 0 rfl) ?_
  refine lv_iconst (v := nI 1) hx hb dL_law_920 (by decide) ?_
  refine lv_iadd hx hb dL_law_921 ?_
  refine va_sld hx hb hX hbl hbA hS (tc_hin (k := 1) hj (by decide) hL) dL_law_922 ?_
  refine lv_topi (fun a1 ea1 => ?_)
  refine lv_aload_n hx hb dL_law_923 rfl (lv_at hl 4 rfl) ?_
  refine lv_iload hx hb dL_law_924 (lv_at hl 0 rfl) ?_
  refine lv_iconst (v := nI 2) hx hb dL_law_926 (by decide) ?_
  refine lv_iadd hx hb dL_law_927 ?_
  refine va_sld hx hb hX hbl hbA hS (tc_hin (k := 2) hj (by decide) hL) dL_law_928 ?_
  refine lv_topi (fun a2 ea2 => ?_)
  refine lv_aload_n hx hb dL_law_929 rfl (lv_at hl 4 rfl) ?_
  refine lv_iload hx hb dL_law_930 (lv_at hl 0 rfl) ?_
  refine lv_iconst (v := nI 3) hx hb dL_law_932 (by decide) ?_
  refine lv_iadd hx hb dL_law_933 ?_
  refine va_sld hx hb hX hbl hbA hS (tc_hin (k := 3) hj (by decide) hL) dL_law_934 ?_
  refine lv_topi (fun a3 ea3 => ?_)
  refine lv_aload_n hx hb dL_law_935 rfl (lv_at hl 1 rfl) ?_
  obtain ⟨k, r, v, y', h2, h3, hk, hc, hv, hR'⟩ := hop x y a1 a2 a3 hI.2.2.2.2
  obtain ⟨fj, hO⟩ := hI.2.2.1
  refine tc_cw (vx_runSW (As := [.ref (E 0), .int a1, .int a2, .int a3, .ref o]) (rest := []) ⟨hx, hb, hml, hown, hts⟩ (mt_L_move l hst D cU cO cI cJ e0 (tc_AC s.heap.size Em o) E x o fj a1 a2 a3 k r (fun h9 => h9.2.2 rfl) hk h2) (vx_cwSW 5 hts gL_law_L_move rfl rfl rfl (by decide +kernel) ⟨Nat.le_of_ble_eq_true rfl, Nat.le_of_ble_eq_true rfl⟩) ⟨fun a U g mk q => ⟨q.1, q.2.1, q.2.2.1.call, q.2.2.2.1.moved (Vm.Alike.refl U.vm), q.2.2.2.2⟩, fun U hU hW9 => ⟨rfl, by rw [hU]; exact hI.1, ((hKX.go hS hU hW9).narrow (fun _ h9 => h9.1) (by rw [hU]; exact tc_AC_new hI.2.1 hIo hS.1)), hKL.moved hW9.alike, by rw [hU]; exact hO⟩⟩ rfl rfl hl.1 rfl (lv_room (Nat.le_of_ble_eq_true rfl)) dL_law_936 ⟨by show cells + 3 ≤ 847852; omega, by show slots + 18 ≤ 6552547; omega⟩) hS (fun _ _ h => h.elim (fun h => h.1) (fun h => by rw [h]; exact hI.2.2.2.1)) (fun _ h => h.elim (fun h => h.1) (fun h => by rw [h]; exact hI.2.2.2.1)) (fun H1 locs hB z1 o1 hS => ?_)
  obtain ⟨E9, fj9, hE9, hW9, hM9, hO9, hfj⟩ := hI.afterC hB o1
  have hso := hI.2.2.2.1
  refine lv_istore (lv' := [(5, .int (tc_c3 k)), (4, .int (nI j)), (3, .ref o), (2, .ref (Em 0)), (1, .ref (E 0)), (0, .ref b)]) hx hb dL_law_939 hl (by decide) rfl (fun ls hl => ?_)
  refine lv_aload_n hx hb dL_law_941 rfl (lv_at hl 3 rfl) ?_
  refine lv_aload_n hx hb dL_law_942 rfl (lv_at hl 5 rfl) ?_
  refine lv_iload hx hb dL_law_943 (lv_at hl 1 rfl) ?_
  refine lv_iconst (v := nI 1) hx hb dL_law_945 (by decide) ?_
  refine lv_iadd hx hb dL_law_946 ?_
  refine va_sld hx hb hX hbl hbA hS (tc_hin (k := 1) hj (by decide) hL) dL_law_947 ?_
  rw [← ea1]
  refine lv_aload_n hx hb dL_law_948 rfl (lv_at hl 5 rfl) ?_
  refine lv_iload hx hb dL_law_949 (lv_at hl 1 rfl) ?_
  refine lv_iconst (v := nI 2) hx hb dL_law_951 (by decide) ?_
  refine lv_iadd hx hb dL_law_952 ?_
  refine va_sld hx hb hX hbl hbA hS (tc_hin (k := 2) hj (by decide) hL) dL_law_953 ?_
  rw [← ea2]
  refine lv_aload_n hx hb dL_law_954 rfl (lv_at hl 5 rfl) ?_
  refine lv_iload hx hb dL_law_955 (lv_at hl 1 rfl) ?_
  refine lv_iconst (v := nI 3) hx hb dL_law_957 (by decide) ?_
  refine lv_iadd hx hb dL_law_958 ?_
  refine va_sld hx hb hX hbl hbA hS (tc_hin (k := 3) hj (by decide) hL) dL_law_959 ?_
  rw [← ea3]
  refine tc_cw (va_runV (As := [.int a1, .int a2, .int a3]) (rest := []) ⟨hx, hb, hml, hown, hts⟩ (mt_X3_move l D cU cO cI (tc_AM s.heap.size E9 x o) Em y a1 a2 a3 v y' h3) (cwV 3 hts gL_law_X3_move rfl rfl rfl (by decide +kernel) ⟨Nat.le_of_ble_eq_true rfl, Nat.le_of_ble_eq_true rfl⟩) ⟨fun a U g mk q => ⟨q.1, q.2.1, q.2.2.call⟩, tc_rcv hM9.1 hK rfl, fun U hU hW8 => ⟨rfl, by rw [hU]; exact hM9, va_K.moved hW8.alike hK, by rw [hU]; exact tc_AM_new hW9 hO9.lt hS.1⟩⟩ rfl rfl hl.1 rfl (lv_room (Nat.le_of_ble_eq_true rfl)) dL_law_960 ⟨by show cells + 3 + 0 ≤ 847852; omega, by show slots + 18 + 0 ≤ 6552547; omega⟩) hS (fun _ _ h => h.1) (fun _ h => h.1) (fun H2 locs hM z2 o2 hS => ?_)
  obtain ⟨hI9, hO⟩ := tc_Inv.afterM (R := R) hW9 hO9 hso hM hR' o2
  refine lv_istore (lv' := [(6, .int v), (5, .int (tc_c3 k)), (4, .int (nI j)), (3, .ref o), (2, .ref (Em 0)), (1, .ref (E 0)), (0, .ref b)]) hx hb dL_law_963 hl (by decide) rfl (fun ls hl => ?_)
  refine lv_aload_n hx hb dL_law_965 rfl (lv_at hl 4 rfl) ?_
  refine tc_cr (W.runV (As := []) (rest := []) ⟨hx, hb, hml, hown, hts⟩ (mt_X3_thrown l D cU cO cI _ Em y' (y' 0 0) rfl) (cwV 0 hts gL_law_X3_thrown rfl rfl rfl (by decide +kernel) ⟨Nat.le_of_ble_eq_true rfl, Nat.le_of_ble_eq_true rfl⟩) ⟨fun a U g mk q => ⟨q.1, q.2.1, va_K.moved (Vm.Alike.refl U.vm) q.2.2⟩, tc_rcv hI9.2.1.1 hK rfl, fun U hU hW8 => ⟨rfl, by rw [hU]; exact hI9.2.1, va_K.moved hW8.alike hK⟩⟩ rfl rfl hl.1 rfl (lv_room (Nat.le_of_ble_eq_true rfl)) dL_law_966 ⟨by show cells + 3 + 0 + 0 ≤ 847852; omega, by show slots + 18 + 0 + 0 ≤ 6552547; omega⟩) ?_
  refine lv_iload hx hb dL_law_969 (lv_at hl 1 rfl) ?_
  have key : ∀ ls : Array Slot, lv_has ls 9 [(6, .int v), (5, .int (tc_c3 k)), (4, .int (nI j)), (3, .ref o), (2, .ref (Em 0)), (1, .ref (E 0)), (0, .ref b)] → W p l e room_1 (s.setDrawn d0) m #[Value.ref b] below meth c H2 locs (cells + 3 + 0) (slots + 18 + 0) (lw_Z below #[Value.ref b] s) (F0 m 993 ls []) := fun ls hl => by
    refine lv_goto (tgt := 1243) hx hb dL_law_993 (by decide) ?_
    refine W.widen (k := cells + 400) (n := slots + 2300) (by omega) (by omega) ?_
    exact K E9 x y' H2 locs d0 hd0 hI9 hS ls (by have h9 := lv_sub hl [2, 3, 4, 5, 6] rfl; show lv_has ls 9 [(4, .int (nI j)), (3, .ref o), (2, .ref (Em 0)), (1, .ref (E9 0)), (0, .ref b)]; rw [hE9]; exact h9)
  refine lv_icmp_eq (tgt := 976) hx hb dL_law_971 (by decide) (fun _ => ?_) (fun h9 => absurd hc h9)
  refine lv_iload hx hb dL_law_976 (lv_at hl 1 rfl) ?_
  refine lv_if_ne (tgt := 993) hx hb dL_law_978 (by decide) (fun _ => key ls hl) (fun h9 => ?_)
  have hk0 : k = 0 := tc_c3_0 h9
  refine lv_aload_n hx hb dL_law_981 rfl (lv_at hl 3 rfl) ?_
  refine lv_iconst (v := 0) hx hb dL_law_982 (by decide) ?_
  refine va_lald hx hb hKL.1 (tc_p1 hO) 0 0 rfl rfl (tc_ix_in ⟨by decide, by decide⟩) dL_law_983 ?_
  rw [tc_c0, hfj hk0]
  refine lv_iload hx hb dL_law_984 (lv_at hl 0 rfl) ?_
  refine lv_i2l hx hb dL_law_986 rfl ?_
  refine W.lcmp hx hb dL_law_987 ?_
  rw [hv hk0, tc_cmp0]
  exact lv_if_eq (tgt := 993) hx hb dL_law_988 (by decide) (fun _ => key ls hl) (fun h9 => absurd rfl h9)
set_option maxHeartbeats 4000000 in
set_option maxRecDepth 100000 in
theorem law_best {p : Program} {e : Env} {s : State} {m : MethodId} {below : List Frame} {meth : Method} {c : Code} (l : Launch) (hst : l.stackTraces = false) {b L : Nat} {xs : Nat → Int32} (hL : L ≤ 2560) (C0 : lw_At p s m meth c b L xs) {R : tc_X → tc_Y → Prop} (hop : ∀ (x : tc_X) (y : tc_Y) (a1 a2 : Int32), R x y → ∃ (k : Nat) (r : Int32) (v : Int32) (y' : tc_Y), f_X2_best x a1 a2 = some (k, r) ∧ f_X3_best y a1 a2 = some (v, y') ∧ k ≤ 1 ∧  y' 0 0 = tc_c3 k ∧ (k = 0 → v = r) ∧ R x y') {D : va_G} {cU cO cI cJ : ClassId} {e0 : Nat} (hKX0 : tc_KX D cU cO cI e0 (fun q => s.heap.size ≤ q) s) (hKL0 : tc_KL D cJ s) {E Em : Nat → Nat} {o : Nat} {x : tc_X} {y : tc_Y} {H : Heap} {locs : List Loc} {ls : Array Slot} {d0 : Drawn} (hd0 : s.drawn.sameBut d0 lw_cs) {j : Nat} (hj : j + 5 ≤ L) (hl : lv_has ls 9 (tc_lw b o j E Em)) (hI : tc_Inv R D cU cO cI cJ e0 s.heap.size E Em o x y H) (hS : va_S (fun q => s.heap.size ≤ q) s.heap H locs) {cells slots : Nat} (hcc : cells + 400 ≤ 847852) (hss : slots + 2300 ≤ 6552547)
    (K : ∀ (E' : Nat → Nat) (x' : tc_X) (y' : tc_Y) (H' : Heap) (locs' : List Loc) (d1 : Drawn), s.drawn.sameBut d1 lw_cs → tc_Inv R D cU cO cI cJ e0 s.heap.size E' Em o x' y' H' → va_S (fun q => s.heap.size ≤ q) s.heap H' locs' → ∀ ls', lv_has ls' 9 (tc_lw b o j E' Em) → W p l e room_1 (s.setDrawn d1) m #[Value.ref b] below meth c H' locs' (cells + 400) (slots + 2300) (lw_Z below #[Value.ref b] s) (F0 m 1243 ls' [])) : W p l e room_1 (s.setDrawn d0) m #[Value.ref b] below meth c H locs cells slots (lw_Z below #[Value.ref b] s) (F0 m 996 ls []) := by
  obtain ⟨hx, hb, hr, hml, hown, hts0, hX, hbl, hlocks, hgv⟩ := id C0
  have hts : ∀ w ∈ wsL_law, w.before #[Value.ref b] (s.setDrawn d0) = true := dr_words (fun w h => hts0 w (wsL_law_in w h)) d0
  have hbA : ¬ (fun q : Nat => s.heap.size ≤ q) b := Nat.not_le.mpr hbl
  have hX : va_X b L xs (s.setDrawn d0) s.heap := hX
  have hKX := hKX0.drawn d0
  have hKL := hKL0.moved (U := s.setDrawn d0) (Vm.Alike.refl s.vm)
  have hK := hKX.1.1
  have hl : lv_has ls 9 [(4, .int (nI j)), (3, .ref o), (2, .ref (Em 0)), (1, .ref (E 0)), (0, .ref b)] := hl
  have hIo : o < H.size := hI.2.2.1.elim (fun _ h => h.lt)
  refine lv_aload_n hx hb dL_law_996 rfl (lv_at hl 3 rfl) ?_
  refine lv_aload_n hx hb dL_law_997 rfl (lv_at hl 4 rfl) ?_
  refine lv_iload hx hb dL_law_998 (lv_at hl 0 rfl) ?_
  refine lv_iconst (v := nI 1) hx hb dL_law_1000 (by decide) ?_
  refine lv_iadd hx hb dL_law_1001 ?_
  refine va_sld hx hb hX hbl hbA hS (tc_hin (k := 1) hj (by decide) hL) dL_law_1002 ?_
  refine lv_topi (fun a1 ea1 => ?_)
  refine lv_aload_n hx hb dL_law_1003 rfl (lv_at hl 4 rfl) ?_
  refine lv_iload hx hb dL_law_1004 (lv_at hl 0 rfl) ?_
  refine lv_iconst (v := nI 2) hx hb dL_law_1006 (by decide) ?_
  refine lv_iadd hx hb dL_law_1007 ?_
  refine va_sld hx hb hX hbl hbA hS (tc_hin (k := 2) hj (by decide) hL) dL_law_1008 ?_
  refine lv_topi (fun a2 ea2 => ?_)
  refine lv_aload_n hx hb dL_law_1009 rfl (lv_at hl 1 rfl) ?_
  obtain ⟨k, r, v, y', h2, h3, hk, hc, hv, hR'⟩ := hop x y a1 a2 hI.2.2.2.2
  obtain ⟨fj, hO⟩ := hI.2.2.1
  refine tc_cw (vx_runSW (As := [.ref (E 0), .int a1, .int a2, .ref o]) (rest := []) ⟨hx, hb, hml, hown, hts⟩ (mt_L_best l hst D cU cO cI cJ e0 (tc_AC s.heap.size Em o) E x o fj a1 a2 k r (fun h9 => h9.2.2 rfl) hk h2) (vx_cwSW 4 hts gL_law_L_best rfl rfl rfl (by decide +kernel) ⟨Nat.le_of_ble_eq_true rfl, Nat.le_of_ble_eq_true rfl⟩) ⟨fun a U g mk q => ⟨q.1, q.2.1, q.2.2.1.call, q.2.2.2.1.moved (Vm.Alike.refl U.vm), q.2.2.2.2⟩, fun U hU hW9 => ⟨rfl, by rw [hU]; exact hI.1, ((hKX.go hS hU hW9).narrow (fun _ h9 => h9.1) (by rw [hU]; exact tc_AC_new hI.2.1 hIo hS.1)), hKL.moved hW9.alike, by rw [hU]; exact hO⟩⟩ rfl rfl hl.1 rfl (lv_room (Nat.le_of_ble_eq_true rfl)) dL_law_1010 ⟨by show cells + 2 ≤ 847852; omega, by show slots + 12 ≤ 6552547; omega⟩) hS (fun _ _ h => h.elim (fun h => h.1) (fun h => by rw [h]; exact hI.2.2.2.1)) (fun _ h => h.elim (fun h => h.1) (fun h => by rw [h]; exact hI.2.2.2.1)) (fun H1 locs hB z1 o1 hS => ?_)
  obtain ⟨E9, fj9, hE9, hW9, hM9, hO9, hfj⟩ := hI.afterC hB o1
  have hso := hI.2.2.2.1
  refine lv_istore (lv' := [(5, .int (tc_c3 k)), (4, .int (nI j)), (3, .ref o), (2, .ref (Em 0)), (1, .ref (E 0)), (0, .ref b)]) hx hb dL_law_1013 hl (by decide) rfl (fun ls hl => ?_)
  refine lv_aload_n hx hb dL_law_1015 rfl (lv_at hl 3 rfl) ?_
  refine lv_aload_n hx hb dL_law_1016 rfl (lv_at hl 5 rfl) ?_
  refine lv_iload hx hb dL_law_1017 (lv_at hl 1 rfl) ?_
  refine lv_iconst (v := nI 1) hx hb dL_law_1019 (by decide) ?_
  refine lv_iadd hx hb dL_law_1020 ?_
  refine va_sld hx hb hX hbl hbA hS (tc_hin (k := 1) hj (by decide) hL) dL_law_1021 ?_
  rw [← ea1]
  refine lv_aload_n hx hb dL_law_1022 rfl (lv_at hl 5 rfl) ?_
  refine lv_iload hx hb dL_law_1023 (lv_at hl 1 rfl) ?_
  refine lv_iconst (v := nI 2) hx hb dL_law_1025 (by decide) ?_
  refine lv_iadd hx hb dL_law_1026 ?_
  refine va_sld hx hb hX hbl hbA hS (tc_hin (k := 2) hj (by decide) hL) dL_law_1027 ?_
  rw [← ea2]
  refine tc_cw (va_runV (As := [.int a1, .int a2]) (rest := []) ⟨hx, hb, hml, hown, hts⟩ (mt_X3_best l D cU cO cI (tc_AM s.heap.size E9 x o) Em y a1 a2 v y' h3) (cwV 2 hts gL_law_X3_best rfl rfl rfl (by decide +kernel) ⟨Nat.le_of_ble_eq_true rfl, Nat.le_of_ble_eq_true rfl⟩) ⟨fun a U g mk q => ⟨q.1, q.2.1, q.2.2.call⟩, tc_rcv hM9.1 hK rfl, fun U hU hW8 => ⟨rfl, by rw [hU]; exact hM9, va_K.moved hW8.alike hK, by rw [hU]; exact tc_AM_new hW9 hO9.lt hS.1⟩⟩ rfl rfl hl.1 rfl (lv_room (Nat.le_of_ble_eq_true rfl)) dL_law_1028 ⟨by show cells + 2 + 0 ≤ 847852; omega, by show slots + 12 + 0 ≤ 6552547; omega⟩) hS (fun _ _ h => h.1) (fun _ h => h.1) (fun H2 locs hM z2 o2 hS => ?_)
  obtain ⟨hI9, hO⟩ := tc_Inv.afterM (R := R) hW9 hO9 hso hM hR' o2
  refine lv_istore (lv' := [(6, .int v), (5, .int (tc_c3 k)), (4, .int (nI j)), (3, .ref o), (2, .ref (Em 0)), (1, .ref (E 0)), (0, .ref b)]) hx hb dL_law_1031 hl (by decide) rfl (fun ls hl => ?_)
  refine lv_aload_n hx hb dL_law_1033 rfl (lv_at hl 4 rfl) ?_
  refine tc_cr (W.runV (As := []) (rest := []) ⟨hx, hb, hml, hown, hts⟩ (mt_X3_thrown l D cU cO cI _ Em y' (y' 0 0) rfl) (cwV 0 hts gL_law_X3_thrown rfl rfl rfl (by decide +kernel) ⟨Nat.le_of_ble_eq_true rfl, Nat.le_of_ble_eq_true rfl⟩) ⟨fun a U g mk q => ⟨q.1, q.2.1, va_K.moved (Vm.Alike.refl U.vm) q.2.2⟩, tc_rcv hI9.2.1.1 hK rfl, fun U hU hW8 => ⟨rfl, by rw [hU]; exact hI9.2.1, va_K.moved hW8.alike hK⟩⟩ rfl rfl hl.1 rfl (lv_room (Nat.le_of_ble_eq_true rfl)) dL_law_1034 ⟨by show cells + 2 + 0 + 0 ≤ 847852; omega, by show slots + 12 + 0 + 0 ≤ 6552547; omega⟩) ?_
  refine lv_iload hx hb dL_law_1037 (lv_at hl 1 rfl) ?_
  have key : ∀ ls : Array Slot, lv_has ls 9 [(6, .int v), (5, .int (tc_c3 k)), (4, .int (nI j)), (3, .ref o), (2, .ref (Em 0)), (1, .ref (E 0)), (0, .ref b)] → W p l e room_1 (s.setDrawn d0) m #[Value.ref b] below meth c H2 locs (cells + 2 + 0) (slots + 12 + 0) (lw_Z below #[Value.ref b] s) (F0 m 1061 ls []) := fun ls hl => by
    refine lv_goto (tgt := 1243) hx hb dL_law_1061 (by decide) ?_
    refine W.widen (k := cells + 400) (n := slots + 2300) (by omega) (by omega) ?_
    exact K E9 x y' H2 locs d0 hd0 hI9 hS ls (by have h9 := lv_sub hl [2, 3, 4, 5, 6] rfl; show lv_has ls 9 [(4, .int (nI j)), (3, .ref o), (2, .ref (Em 0)), (1, .ref (E9 0)), (0, .ref b)]; rw [hE9]; exact h9)
  refine lv_icmp_eq (tgt := 1044) hx hb dL_law_1039 (by decide) (fun _ => ?_) (fun h9 => absurd hc h9)
  refine lv_iload hx hb dL_law_1044 (lv_at hl 1 rfl) ?_
  refine lv_if_ne (tgt := 1061) hx hb dL_law_1046 (by decide) (fun _ => key ls hl) (fun h9 => ?_)
  have hk0 : k = 0 := tc_c3_0 h9
  refine lv_aload_n hx hb dL_law_1049 rfl (lv_at hl 3 rfl) ?_
  refine lv_iconst (v := 0) hx hb dL_law_1050 (by decide) ?_
  refine va_lald hx hb hKL.1 (tc_p1 hO) 0 0 rfl rfl (tc_ix_in ⟨by decide, by decide⟩) dL_law_1051 ?_
  rw [tc_c0, hfj hk0]
  refine lv_iload hx hb dL_law_1052 (lv_at hl 0 rfl) ?_
  refine lv_i2l hx hb dL_law_1054 rfl ?_
  refine W.lcmp hx hb dL_law_1055 ?_
  rw [hv hk0, tc_cmp0]
  exact lv_if_eq (tgt := 1061) hx hb dL_law_1056 (by decide) (fun _ => key ls hl) (fun h9 => absurd rfl h9)
set_option maxHeartbeats 4000000 in
set_option maxRecDepth 100000 in
theorem law_lasts {p : Program} {e : Env} {s : State} {m : MethodId} {below : List Frame} {meth : Method} {c : Code} (l : Launch) (hst : l.stackTraces = false) {b L : Nat} {xs : Nat → Int32} (hL : L ≤ 2560) (C0 : lw_At p s m meth c b L xs) {R : tc_X → tc_Y → Prop} (hop : ∀ (x : tc_X) (y : tc_Y) (a1 a2 : Int32), R x y → ∃ (k : Nat) (r : Int32) (v : Int32) (y' : tc_Y), f_X2_lasts x a1 a2 = some (k, r) ∧ f_X3_lasts y a1 a2 = some (v, y') ∧ k ≤ 2 ∧  y' 0 0 = tc_c3 k ∧ (k = 0 → v = r) ∧ R x y') {D : va_G} {cU cO cI cJ : ClassId} {e0 : Nat} (hKX0 : tc_KX D cU cO cI e0 (fun q => s.heap.size ≤ q) s) (hKL0 : tc_KL D cJ s) {E Em : Nat → Nat} {o : Nat} {x : tc_X} {y : tc_Y} {H : Heap} {locs : List Loc} {ls : Array Slot} {d0 : Drawn} (hd0 : s.drawn.sameBut d0 lw_cs) {j : Nat} (hj : j + 5 ≤ L) (hl : lv_has ls 9 (tc_lw b o j E Em)) (hI : tc_Inv R D cU cO cI cJ e0 s.heap.size E Em o x y H) (hS : va_S (fun q => s.heap.size ≤ q) s.heap H locs) {cells slots : Nat} (hcc : cells + 400 ≤ 847852) (hss : slots + 2300 ≤ 6552547)
    (K : ∀ (E' : Nat → Nat) (x' : tc_X) (y' : tc_Y) (H' : Heap) (locs' : List Loc) (d1 : Drawn), s.drawn.sameBut d1 lw_cs → tc_Inv R D cU cO cI cJ e0 s.heap.size E' Em o x' y' H' → va_S (fun q => s.heap.size ≤ q) s.heap H' locs' → ∀ ls', lv_has ls' 9 (tc_lw b o j E' Em) → W p l e room_1 (s.setDrawn d1) m #[Value.ref b] below meth c H' locs' (cells + 400) (slots + 2300) (lw_Z below #[Value.ref b] s) (F0 m 1243 ls' [])) : W p l e room_1 (s.setDrawn d0) m #[Value.ref b] below meth c H locs cells slots (lw_Z below #[Value.ref b] s) (F0 m 1064 ls []) := by
  obtain ⟨hx, hb, hr, hml, hown, hts0, hX, hbl, hlocks, hgv⟩ := id C0
  have hts : ∀ w ∈ wsL_law, w.before #[Value.ref b] (s.setDrawn d0) = true := dr_words (fun w h => hts0 w (wsL_law_in w h)) d0
  have hbA : ¬ (fun q : Nat => s.heap.size ≤ q) b := Nat.not_le.mpr hbl
  have hX : va_X b L xs (s.setDrawn d0) s.heap := hX
  have hKX := hKX0.drawn d0
  have hKL := hKL0.moved (U := s.setDrawn d0) (Vm.Alike.refl s.vm)
  have hK := hKX.1.1
  have hl : lv_has ls 9 [(4, .int (nI j)), (3, .ref o), (2, .ref (Em 0)), (1, .ref (E 0)), (0, .ref b)] := hl
  have hIo : o < H.size := hI.2.2.1.elim (fun _ h => h.lt)
  refine lv_aload_n hx hb dL_law_1064 rfl (lv_at hl 3 rfl) ?_
  refine lv_aload_n hx hb dL_law_1065 rfl (lv_at hl 4 rfl) ?_
  refine lv_iload hx hb dL_law_1066 (lv_at hl 0 rfl) ?_
  refine lv_iconst (v := nI 1) hx hb dL_law_1068 (by decide) ?_
  refine lv_iadd hx hb dL_law_1069 ?_
  refine va_sld hx hb hX hbl hbA hS (tc_hin (k := 1) hj (by decide) hL) dL_law_1070 ?_
  refine lv_topi (fun a1 ea1 => ?_)
  refine lv_aload_n hx hb dL_law_1071 rfl (lv_at hl 4 rfl) ?_
  refine lv_iload hx hb dL_law_1072 (lv_at hl 0 rfl) ?_
  refine lv_iconst (v := nI 2) hx hb dL_law_1074 (by decide) ?_
  refine lv_iadd hx hb dL_law_1075 ?_
  refine va_sld hx hb hX hbl hbA hS (tc_hin (k := 2) hj (by decide) hL) dL_law_1076 ?_
  refine lv_topi (fun a2 ea2 => ?_)
  refine lv_aload_n hx hb dL_law_1077 rfl (lv_at hl 1 rfl) ?_
  obtain ⟨k, r, v, y', h2, h3, hk, hc, hv, hR'⟩ := hop x y a1 a2 hI.2.2.2.2
  obtain ⟨fj, hO⟩ := hI.2.2.1
  refine tc_cw (vx_runSW (As := [.ref (E 0), .int a1, .int a2, .ref o]) (rest := []) ⟨hx, hb, hml, hown, hts⟩ (mt_L_lasts l hst D cU cO cI cJ e0 (tc_AC s.heap.size Em o) E x o fj a1 a2 k r (fun h9 => h9.2.2 rfl) hk h2) (vx_cwSW 4 hts gL_law_L_lasts rfl rfl rfl (by decide +kernel) ⟨Nat.le_of_ble_eq_true rfl, Nat.le_of_ble_eq_true rfl⟩) ⟨fun a U g mk q => ⟨q.1, q.2.1, q.2.2.1.call, q.2.2.2.1.moved (Vm.Alike.refl U.vm), q.2.2.2.2⟩, fun U hU hW9 => ⟨rfl, by rw [hU]; exact hI.1, ((hKX.go hS hU hW9).narrow (fun _ h9 => h9.1) (by rw [hU]; exact tc_AC_new hI.2.1 hIo hS.1)), hKL.moved hW9.alike, by rw [hU]; exact hO⟩⟩ rfl rfl hl.1 rfl (lv_room (Nat.le_of_ble_eq_true rfl)) dL_law_1078 ⟨by show cells + 2 ≤ 847852; omega, by show slots + 12 ≤ 6552547; omega⟩) hS (fun _ _ h => h.elim (fun h => h.1) (fun h => by rw [h]; exact hI.2.2.2.1)) (fun _ h => h.elim (fun h => h.1) (fun h => by rw [h]; exact hI.2.2.2.1)) (fun H1 locs hB z1 o1 hS => ?_)
  obtain ⟨E9, fj9, hE9, hW9, hM9, hO9, hfj⟩ := hI.afterC hB o1
  have hso := hI.2.2.2.1
  refine lv_istore (lv' := [(5, .int (tc_c3 k)), (4, .int (nI j)), (3, .ref o), (2, .ref (Em 0)), (1, .ref (E 0)), (0, .ref b)]) hx hb dL_law_1081 hl (by decide) rfl (fun ls hl => ?_)
  refine lv_aload_n hx hb dL_law_1083 rfl (lv_at hl 3 rfl) ?_
  refine lv_aload_n hx hb dL_law_1084 rfl (lv_at hl 5 rfl) ?_
  refine lv_iload hx hb dL_law_1085 (lv_at hl 1 rfl) ?_
  refine lv_iconst (v := nI 1) hx hb dL_law_1087 (by decide) ?_
  refine lv_iadd hx hb dL_law_1088 ?_
  refine va_sld hx hb hX hbl hbA hS (tc_hin (k := 1) hj (by decide) hL) dL_law_1089 ?_
  rw [← ea1]
  refine lv_aload_n hx hb dL_law_1090 rfl (lv_at hl 5 rfl) ?_
  refine lv_iload hx hb dL_law_1091 (lv_at hl 1 rfl) ?_
  refine lv_iconst (v := nI 2) hx hb dL_law_1093 (by decide) ?_
  refine lv_iadd hx hb dL_law_1094 ?_
  refine va_sld hx hb hX hbl hbA hS (tc_hin (k := 2) hj (by decide) hL) dL_law_1095 ?_
  rw [← ea2]
  refine tc_cw (va_runV (As := [.int a1, .int a2]) (rest := []) ⟨hx, hb, hml, hown, hts⟩ (mt_X3_lasts l D cU cO cI (tc_AM s.heap.size E9 x o) Em y a1 a2 v y' h3) (cwV 2 hts gL_law_X3_lasts rfl rfl rfl (by decide +kernel) ⟨Nat.le_of_ble_eq_true rfl, Nat.le_of_ble_eq_true rfl⟩) ⟨fun a U g mk q => ⟨q.1, q.2.1, q.2.2.call⟩, tc_rcv hM9.1 hK rfl, fun U hU hW8 => ⟨rfl, by rw [hU]; exact hM9, va_K.moved hW8.alike hK, by rw [hU]; exact tc_AM_new hW9 hO9.lt hS.1⟩⟩ rfl rfl hl.1 rfl (lv_room (Nat.le_of_ble_eq_true rfl)) dL_law_1096 ⟨by show cells + 2 + 0 ≤ 847852; omega, by show slots + 12 + 0 ≤ 6552547; omega⟩) hS (fun _ _ h => h.1) (fun _ h => h.1) (fun H2 locs hM z2 o2 hS => ?_)
  obtain ⟨hI9, hO⟩ := tc_Inv.afterM (R := R) hW9 hO9 hso hM hR' o2
  refine lv_istore (lv' := [(6, .int v), (5, .int (tc_c3 k)), (4, .int (nI j)), (3, .ref o), (2, .ref (Em 0)), (1, .ref (E 0)), (0, .ref b)]) hx hb dL_law_1099 hl (by decide) rfl (fun ls hl => ?_)
  refine lv_aload_n hx hb dL_law_1101 rfl (lv_at hl 4 rfl) ?_
  refine tc_cr (W.runV (As := []) (rest := []) ⟨hx, hb, hml, hown, hts⟩ (mt_X3_thrown l D cU cO cI _ Em y' (y' 0 0) rfl) (cwV 0 hts gL_law_X3_thrown rfl rfl rfl (by decide +kernel) ⟨Nat.le_of_ble_eq_true rfl, Nat.le_of_ble_eq_true rfl⟩) ⟨fun a U g mk q => ⟨q.1, q.2.1, va_K.moved (Vm.Alike.refl U.vm) q.2.2⟩, tc_rcv hI9.2.1.1 hK rfl, fun U hU hW8 => ⟨rfl, by rw [hU]; exact hI9.2.1, va_K.moved hW8.alike hK⟩⟩ rfl rfl hl.1 rfl (lv_room (Nat.le_of_ble_eq_true rfl)) dL_law_1102 ⟨by show cells + 2 + 0 + 0 ≤ 847852; omega, by show slots + 12 + 0 + 0 ≤ 6552547; omega⟩) ?_
  refine lv_iload hx hb dL_law_1105 (lv_at hl 1 rfl) ?_
  have key : ∀ ls : Array Slot, lv_has ls 9 [(6, .int v), (5, .int (tc_c3 k)), (4, .int (nI j)), (3, .ref o), (2, .ref (Em 0)), (1, .ref (E 0)), (0, .ref b)] → W p l e room_1 (s.setDrawn d0) m #[Value.ref b] below meth c H2 locs (cells + 2 + 0) (slots + 12 + 0) (lw_Z below #[Value.ref b] s) (F0 m 1129 ls []) := fun ls hl => by
    refine lv_goto (tgt := 1243) hx hb dL_law_1129 (by decide) ?_
    refine W.widen (k := cells + 400) (n := slots + 2300) (by omega) (by omega) ?_
    exact K E9 x y' H2 locs d0 hd0 hI9 hS ls (by have h9 := lv_sub hl [2, 3, 4, 5, 6] rfl; show lv_has ls 9 [(4, .int (nI j)), (3, .ref o), (2, .ref (Em 0)), (1, .ref (E9 0)), (0, .ref b)]; rw [hE9]; exact h9)
  refine lv_icmp_eq (tgt := 1112) hx hb dL_law_1107 (by decide) (fun _ => ?_) (fun h9 => absurd hc h9)
  refine lv_iload hx hb dL_law_1112 (lv_at hl 1 rfl) ?_
  refine lv_if_ne (tgt := 1129) hx hb dL_law_1114 (by decide) (fun _ => key ls hl) (fun h9 => ?_)
  have hk0 : k = 0 := tc_c3_0 h9
  refine lv_aload_n hx hb dL_law_1117 rfl (lv_at hl 3 rfl) ?_
  refine lv_iconst (v := 0) hx hb dL_law_1118 (by decide) ?_
  refine va_lald hx hb hKL.1 (tc_p1 hO) 0 0 rfl rfl (tc_ix_in ⟨by decide, by decide⟩) dL_law_1119 ?_
  rw [tc_c0, hfj hk0]
  refine lv_iload hx hb dL_law_1120 (lv_at hl 0 rfl) ?_
  refine lv_i2l hx hb dL_law_1122 rfl ?_
  refine W.lcmp hx hb dL_law_1123 ?_
  rw [hv hk0, tc_cmp0]
  exact lv_if_eq (tgt := 1129) hx hb dL_law_1124 (by decide) (fun _ => key ls hl) (fun h9 => absurd rfl h9)
set_option maxHeartbeats 4000000 in
set_option maxRecDepth 100000 in
theorem law_within {p : Program} {e : Env} {s : State} {m : MethodId} {below : List Frame} {meth : Method} {c : Code} (l : Launch) (hst : l.stackTraces = false) {b L : Nat} {xs : Nat → Int32} (hL : L ≤ 2560) (C0 : lw_At p s m meth c b L xs) {R : tc_X → tc_Y → Prop} (hop : ∀ (x : tc_X) (y : tc_Y) (a1 : Int32), R x y → ∃ (k : Nat) (r : Int32) (v : Int32) (y' : tc_Y), f_X2_within x a1 = some (k, r) ∧ f_X3_within y a1 = some (v, y') ∧ k ≤ 1 ∧  y' 0 0 = tc_c3 k ∧ (k = 0 → v = r) ∧ R x y') {D : va_G} {cU cO cI cJ : ClassId} {e0 : Nat} (hKX0 : tc_KX D cU cO cI e0 (fun q => s.heap.size ≤ q) s) (hKL0 : tc_KL D cJ s) {E Em : Nat → Nat} {o : Nat} {x : tc_X} {y : tc_Y} {H : Heap} {locs : List Loc} {ls : Array Slot} {d0 : Drawn} (hd0 : s.drawn.sameBut d0 lw_cs) {j : Nat} (hj : j + 5 ≤ L) (hl : lv_has ls 9 (tc_lw b o j E Em)) (hI : tc_Inv R D cU cO cI cJ e0 s.heap.size E Em o x y H) (hS : va_S (fun q => s.heap.size ≤ q) s.heap H locs) {cells slots : Nat} (hcc : cells + 400 ≤ 847852) (hss : slots + 2300 ≤ 6552547)
    (K : ∀ (E' : Nat → Nat) (x' : tc_X) (y' : tc_Y) (H' : Heap) (locs' : List Loc) (d1 : Drawn), s.drawn.sameBut d1 lw_cs → tc_Inv R D cU cO cI cJ e0 s.heap.size E' Em o x' y' H' → va_S (fun q => s.heap.size ≤ q) s.heap H' locs' → ∀ ls', lv_has ls' 9 (tc_lw b o j E' Em) → W p l e room_1 (s.setDrawn d1) m #[Value.ref b] below meth c H' locs' (cells + 400) (slots + 2300) (lw_Z below #[Value.ref b] s) (F0 m 1243 ls' [])) : W p l e room_1 (s.setDrawn d0) m #[Value.ref b] below meth c H locs cells slots (lw_Z below #[Value.ref b] s) (F0 m 1132 ls []) := by
  obtain ⟨hx, hb, hr, hml, hown, hts0, hX, hbl, hlocks, hgv⟩ := id C0
  have hts : ∀ w ∈ wsL_law, w.before #[Value.ref b] (s.setDrawn d0) = true := dr_words (fun w h => hts0 w (wsL_law_in w h)) d0
  have hbA : ¬ (fun q : Nat => s.heap.size ≤ q) b := Nat.not_le.mpr hbl
  have hX : va_X b L xs (s.setDrawn d0) s.heap := hX
  have hKX := hKX0.drawn d0
  have hKL := hKL0.moved (U := s.setDrawn d0) (Vm.Alike.refl s.vm)
  have hK := hKX.1.1
  have hl : lv_has ls 9 [(4, .int (nI j)), (3, .ref o), (2, .ref (Em 0)), (1, .ref (E 0)), (0, .ref b)] := hl
  have hIo : o < H.size := hI.2.2.1.elim (fun _ h => h.lt)
  refine lv_aload_n hx hb dL_law_1132 rfl (lv_at hl 3 rfl) ?_
  refine lv_aload_n hx hb dL_law_1133 rfl (lv_at hl 4 rfl) ?_
  refine lv_iload hx hb dL_law_1134 (lv_at hl 0 rfl) ?_
  refine lv_iconst (v := nI 1) hx hb dL_law_1136 (by decide) ?_
  refine lv_iadd hx hb dL_law_1137 ?_
  refine va_sld hx hb hX hbl hbA hS (tc_hin (k := 1) hj (by decide) hL) dL_law_1138 ?_
  refine lv_topi (fun a1 ea1 => ?_)
  refine lv_aload_n hx hb dL_law_1139 rfl (lv_at hl 1 rfl) ?_
  obtain ⟨k, r, v, y', h2, h3, hk, hc, hv, hR'⟩ := hop x y a1 hI.2.2.2.2
  obtain ⟨fj, hO⟩ := hI.2.2.1
  refine tc_cw (vx_runSW (As := [.ref (E 0), .int a1, .ref o]) (rest := []) ⟨hx, hb, hml, hown, hts⟩ (mt_L_within l hst D cU cO cI cJ e0 (tc_AC s.heap.size Em o) E x o fj a1 k r (fun h9 => h9.2.2 rfl) hk h2) (vx_cwSW 3 hts gL_law_L_within rfl rfl rfl (by decide +kernel) ⟨Nat.le_of_ble_eq_true rfl, Nat.le_of_ble_eq_true rfl⟩) ⟨fun a U g mk q => ⟨q.1, q.2.1, q.2.2.1.call, q.2.2.2.1.moved (Vm.Alike.refl U.vm), q.2.2.2.2⟩, fun U hU hW9 => ⟨rfl, by rw [hU]; exact hI.1, ((hKX.go hS hU hW9).narrow (fun _ h9 => h9.1) (by rw [hU]; exact tc_AC_new hI.2.1 hIo hS.1)), hKL.moved hW9.alike, by rw [hU]; exact hO⟩⟩ rfl rfl hl.1 rfl (lv_room (Nat.le_of_ble_eq_true rfl)) dL_law_1140 ⟨by show cells + 1 ≤ 847852; omega, by show slots + 6 ≤ 6552547; omega⟩) hS (fun _ _ h => h.elim (fun h => h.1) (fun h => by rw [h]; exact hI.2.2.2.1)) (fun _ h => h.elim (fun h => h.1) (fun h => by rw [h]; exact hI.2.2.2.1)) (fun H1 locs hB z1 o1 hS => ?_)
  obtain ⟨E9, fj9, hE9, hW9, hM9, hO9, hfj⟩ := hI.afterC hB o1
  have hso := hI.2.2.2.1
  refine lv_istore (lv' := [(5, .int (tc_c3 k)), (4, .int (nI j)), (3, .ref o), (2, .ref (Em 0)), (1, .ref (E 0)), (0, .ref b)]) hx hb dL_law_1143 hl (by decide) rfl (fun ls hl => ?_)
  refine lv_aload_n hx hb dL_law_1145 rfl (lv_at hl 3 rfl) ?_
  refine lv_aload_n hx hb dL_law_1146 rfl (lv_at hl 5 rfl) ?_
  refine lv_iload hx hb dL_law_1147 (lv_at hl 1 rfl) ?_
  refine lv_iconst (v := nI 1) hx hb dL_law_1149 (by decide) ?_
  refine lv_iadd hx hb dL_law_1150 ?_
  refine va_sld hx hb hX hbl hbA hS (tc_hin (k := 1) hj (by decide) hL) dL_law_1151 ?_
  rw [← ea1]
  refine tc_cw (va_runV (As := [.int a1]) (rest := []) ⟨hx, hb, hml, hown, hts⟩ (mt_X3_within l D cU cO cI (tc_AM s.heap.size E9 x o) Em y a1 v y' h3) (cwV 1 hts gL_law_X3_within rfl rfl rfl (by decide +kernel) ⟨Nat.le_of_ble_eq_true rfl, Nat.le_of_ble_eq_true rfl⟩) ⟨fun a U g mk q => ⟨q.1, q.2.1, q.2.2.call⟩, tc_rcv hM9.1 hK rfl, fun U hU hW8 => ⟨rfl, by rw [hU]; exact hM9, va_K.moved hW8.alike hK, by rw [hU]; exact tc_AM_new hW9 hO9.lt hS.1⟩⟩ rfl rfl hl.1 rfl (lv_room (Nat.le_of_ble_eq_true rfl)) dL_law_1152 ⟨by show cells + 1 + 0 ≤ 847852; omega, by show slots + 6 + 0 ≤ 6552547; omega⟩) hS (fun _ _ h => h.1) (fun _ h => h.1) (fun H2 locs hM z2 o2 hS => ?_)
  obtain ⟨hI9, hO⟩ := tc_Inv.afterM (R := R) hW9 hO9 hso hM hR' o2
  refine lv_istore (lv' := [(6, .int v), (5, .int (tc_c3 k)), (4, .int (nI j)), (3, .ref o), (2, .ref (Em 0)), (1, .ref (E 0)), (0, .ref b)]) hx hb dL_law_1155 hl (by decide) rfl (fun ls hl => ?_)
  refine lv_aload_n hx hb dL_law_1157 rfl (lv_at hl 4 rfl) ?_
  refine tc_cr (W.runV (As := []) (rest := []) ⟨hx, hb, hml, hown, hts⟩ (mt_X3_thrown l D cU cO cI _ Em y' (y' 0 0) rfl) (cwV 0 hts gL_law_X3_thrown rfl rfl rfl (by decide +kernel) ⟨Nat.le_of_ble_eq_true rfl, Nat.le_of_ble_eq_true rfl⟩) ⟨fun a U g mk q => ⟨q.1, q.2.1, va_K.moved (Vm.Alike.refl U.vm) q.2.2⟩, tc_rcv hI9.2.1.1 hK rfl, fun U hU hW8 => ⟨rfl, by rw [hU]; exact hI9.2.1, va_K.moved hW8.alike hK⟩⟩ rfl rfl hl.1 rfl (lv_room (Nat.le_of_ble_eq_true rfl)) dL_law_1158 ⟨by show cells + 1 + 0 + 0 ≤ 847852; omega, by show slots + 6 + 0 + 0 ≤ 6552547; omega⟩) ?_
  refine lv_iload hx hb dL_law_1161 (lv_at hl 1 rfl) ?_
  have key : ∀ ls : Array Slot, lv_has ls 9 [(6, .int v), (5, .int (tc_c3 k)), (4, .int (nI j)), (3, .ref o), (2, .ref (Em 0)), (1, .ref (E 0)), (0, .ref b)] → W p l e room_1 (s.setDrawn d0) m #[Value.ref b] below meth c H2 locs (cells + 1 + 0) (slots + 6 + 0) (lw_Z below #[Value.ref b] s) (F0 m 1185 ls []) := fun ls hl => by
    refine lv_goto (tgt := 1243) hx hb dL_law_1185 (by decide) ?_
    refine W.widen (k := cells + 400) (n := slots + 2300) (by omega) (by omega) ?_
    exact K E9 x y' H2 locs d0 hd0 hI9 hS ls (by have h9 := lv_sub hl [2, 3, 4, 5, 6] rfl; show lv_has ls 9 [(4, .int (nI j)), (3, .ref o), (2, .ref (Em 0)), (1, .ref (E9 0)), (0, .ref b)]; rw [hE9]; exact h9)
  refine lv_icmp_eq (tgt := 1168) hx hb dL_law_1163 (by decide) (fun _ => ?_) (fun h9 => absurd hc h9)
  refine lv_iload hx hb dL_law_1168 (lv_at hl 1 rfl) ?_
  refine lv_if_ne (tgt := 1185) hx hb dL_law_1170 (by decide) (fun _ => key ls hl) (fun h9 => ?_)
  have hk0 : k = 0 := tc_c3_0 h9
  refine lv_aload_n hx hb dL_law_1173 rfl (lv_at hl 3 rfl) ?_
  refine lv_iconst (v := 0) hx hb dL_law_1174 (by decide) ?_
  refine va_lald hx hb hKL.1 (tc_p1 hO) 0 0 rfl rfl (tc_ix_in ⟨by decide, by decide⟩) dL_law_1175 ?_
  rw [tc_c0, hfj hk0]
  refine lv_iload hx hb dL_law_1176 (lv_at hl 0 rfl) ?_
  refine lv_i2l hx hb dL_law_1178 rfl ?_
  refine W.lcmp hx hb dL_law_1179 ?_
  rw [hv hk0, tc_cmp0]
  exact lv_if_eq (tgt := 1185) hx hb dL_law_1180 (by decide) (fun _ => key ls hl) (fun h9 => absurd rfl h9)
set_option maxHeartbeats 4000000 in
set_option maxRecDepth 100000 in
theorem law_mean {p : Program} {e : Env} {s : State} {m : MethodId} {below : List Frame} {meth : Method} {c : Code} (l : Launch) (hst : l.stackTraces = false) {b L : Nat} {xs : Nat → Int32} (hL : L ≤ 2560) (C0 : lw_At p s m meth c b L xs) {R : tc_X → tc_Y → Prop} (hop : ∀ (x : tc_X) (y : tc_Y), R x y → ∃ (v : UInt64) (y' : tc_Y), f_X2_mean x = some v ∧ f_X3_mean y = some (v, y') ∧ R x y') {D : va_G} {cU cO cI cJ : ClassId} {e0 : Nat} (hKX0 : tc_KX D cU cO cI e0 (fun q => s.heap.size ≤ q) s) (hKL0 : tc_KL D cJ s) {E Em : Nat → Nat} {o : Nat} {x : tc_X} {y : tc_Y} {H : Heap} {locs : List Loc} {ls : Array Slot} {d0 : Drawn} (hd0 : s.drawn.sameBut d0 lw_cs) {j : Nat} (hj : j + 5 ≤ L) (hl : lv_has ls 9 (tc_lw b o j E Em)) (hI : tc_Inv R D cU cO cI cJ e0 s.heap.size E Em o x y H) (hS : va_S (fun q => s.heap.size ≤ q) s.heap H locs) {cells slots : Nat} (hcc : cells + 400 ≤ 847852) (hss : slots + 2300 ≤ 6552547)
    (K : ∀ (E' : Nat → Nat) (x' : tc_X) (y' : tc_Y) (H' : Heap) (locs' : List Loc) (d1 : Drawn), s.drawn.sameBut d1 lw_cs → tc_Inv R D cU cO cI cJ e0 s.heap.size E' Em o x' y' H' → va_S (fun q => s.heap.size ≤ q) s.heap H' locs' → ∀ ls', lv_has ls' 9 (tc_lw b o j E' Em) → W p l e room_1 (s.setDrawn d1) m #[Value.ref b] below meth c H' locs' (cells + 400) (slots + 2300) (lw_Z below #[Value.ref b] s) (F0 m 1243 ls' [])) : W p l e room_1 (s.setDrawn d0) m #[Value.ref b] below meth c H locs cells slots (lw_Z below #[Value.ref b] s) (F0 m 1188 ls []) := by
  obtain ⟨hx, hb, hr, hml, hown, hts0, hX, hbl, hlocks, hgv⟩ := id C0
  have hts : ∀ w ∈ wsL_law, w.before #[Value.ref b] (s.setDrawn d0) = true := dr_words (fun w h => hts0 w (wsL_law_in w h)) d0
  have hbA : ¬ (fun q : Nat => s.heap.size ≤ q) b := Nat.not_le.mpr hbl
  have hX : va_X b L xs (s.setDrawn d0) s.heap := hX
  have hKX := hKX0.drawn d0
  have hKL := hKL0.moved (U := s.setDrawn d0) (Vm.Alike.refl s.vm)
  have hK := hKX.1.1
  have hl : lv_has ls 9 [(4, .int (nI j)), (3, .ref o), (2, .ref (Em 0)), (1, .ref (E 0)), (0, .ref b)] := hl
  have hIo : o < H.size := hI.2.2.1.elim (fun _ h => h.lt)
  have hsb : ∀ r1 r2 v : UInt64, alike64 r1 v = true → alike64 r2 v = true → r1 = r2 ∨ (isNaN64 r1 = true ∧ isNaN64 r2 = true) := fun r1 r2 v h1 h2 => by
    simp only [alike64, Bool.or_eq_true, decide_eq_true_eq, Bool.and_eq_true] at h1 h2
    rcases h1 with h1 | h1
    · rcases h2 with h2 | h2
      · exact Or.inl (h1.trans h2.symm)
      · exact Or.inr ⟨by rw [h1]; exact h2.2, h2.1⟩
    · rcases h2 with h2 | h2
      · exact Or.inr ⟨h1.1, by rw [h2]; exact h1.2⟩
      · exact Or.inr ⟨h1.1, h2.1⟩
  obtain ⟨fj, hO⟩ := hI.2.2.1
  obtain ⟨v, y', h2, h3, hR'⟩ := hop x y hI.2.2.2.2
  refine lv_aload_n hx hb dL_law_1188 rfl (lv_at hl 3 rfl) ?_
  refine tc_cdD hd0 (va_runV_D (As := []) (rest := []) ⟨hx, hb, hml, hown, hts⟩ (mt_X2_mean l D cU cO cI e0 (tc_AC s.heap.size Em o) E x v h2) (cwV 0 hts gL_law_X2_mean rfl rfl rfl (by decide +kernel) ⟨Nat.le_of_ble_eq_true rfl, Nat.le_of_ble_eq_true rfl⟩) ⟨fun a U g mk q => ⟨q.1, q.2.1, q.2.2.call⟩, tc_rcv hI.1.o hK rfl, fun U hU hW9 => ⟨rfl, by rw [hU]; exact hI.1, hKX.1.warm hW9⟩⟩ rfl rfl hl.1 rfl (lv_room (Nat.le_of_ble_eq_true rfl)) dL_law_1189 ⟨by show cells + 0 ≤ 847852; omega, by show slots + 0 ≤ 6552547; omega⟩) hS (fun _ _ h => h.elim) (fun _ h => h.elim) (fun r1 H1 locs hr1 _ z1 o1 hS d1 hd1 => ?_)
  have hts : ∀ w ∈ wsL_law, w.before #[Value.ref b] (s.setDrawn d1) = true := dr_words (fun w h => hts0 w (wsL_law_in w h)) d1
  have hKX := hKX0.drawn d1
  have hK := hKX.1.1
  have hW1 := hI.1.grown (fun q hq => o1 q hq id)
  have hM1 := hI.2.1.grown (fun q hq => o1 q hq id)
  have hO1 := hO.kept (o1 _ hO.lt id)
  refine lv_dstore (lv' := [(5, .double r1), (4, .int (nI j)), (3, .ref o), (2, .ref (Em 0)), (1, .ref (E 0)), (0, .ref b)]) hx hb dL_law_1192 hl (by decide) rfl (fun ls hl => ?_)
  refine lv_aload_n hx hb dL_law_1194 rfl (lv_at hl 3 rfl) ?_
  refine tc_cdD hd1 (va_runV_D (As := []) (rest := []) ⟨hx, hb, hml, hown, hts⟩ (mt_X3_mean l D cU cO cI (tc_AM s.heap.size E x o) Em y v y' h3) (cwV 0 hts gL_law_X3_mean rfl rfl rfl (by decide +kernel) ⟨Nat.le_of_ble_eq_true rfl, Nat.le_of_ble_eq_true rfl⟩) ⟨fun a U g mk q => ⟨q.1, q.2.1, q.2.2.call⟩, tc_rcv hM1.1 hK rfl, fun U hU hW9 => ⟨rfl, by rw [hU]; exact hM1, va_K.moved hW9.alike hK, by rw [hU]; exact tc_AM_new hW1 hO1.lt hS.1⟩⟩ rfl rfl hl.1 rfl (lv_room (Nat.le_of_ble_eq_true rfl)) dL_law_1195 ⟨by show cells + 0 + 0 ≤ 847852; omega, by show slots + 0 + 0 ≤ 6552547; omega⟩) hS (fun _ _ h => h.1) (fun _ h => h.1) (fun r2 H2 locs hr2 hM z2 o2 hS d2 hd2 => ?_)
  obtain ⟨hI9, hO2⟩ := tc_Inv.afterM (R := R) hW1 hO1 hI.2.2.2.1 hM hR' o2
  refine lv_dstore (lv' := [(7, .double r2), (5, .double r1), (4, .int (nI j)), (3, .ref o), (2, .ref (Em 0)), (1, .ref (E 0)), (0, .ref b)]) hx hb dL_law_1198 hl (by decide) rfl (fun ls hl => ?_)
  have key : ∀ ls : Array Slot, lv_has ls 9 [(7, .double r2), (5, .double r1), (4, .int (nI j)), (3, .ref o), (2, .ref (Em 0)), (1, .ref (E 0)), (0, .ref b)] → W p l e room_1 (s.setDrawn d2) m #[Value.ref b] below meth c H2 locs (cells + 0 + 0) (slots + 0 + 0) (lw_Z below #[Value.ref b] s) (F0 m 1226 ls []) := fun ls hl => by
    refine lv_goto (tgt := 1243) hx hb dL_law_1226 (by decide) ?_
    refine W.widen (k := cells + 400) (n := slots + 2300) (by omega) (by omega) ?_
    exact K E x y' H2 locs d2 hd2 hI9 hS ls (lv_sub hl [2, 3, 4, 5, 6] rfl)
  refine lv_dload hx hb dL_law_1200 (lv_at hl 1 rfl) ?_
  refine lv_dload hx hb dL_law_1202 (lv_at hl 0 rfl) ?_
  refine lv_dcmp hx hb dL_law_1204 ?_
  refine lv_if_eq (tgt := 1226) hx hb dL_law_1205 (by decide) (fun _ => key ls hl) (fun h1 => ?_)
  have hne : ¬ Op.cmpValue (FP.dcmp r1 r1) .l = 0 ∧ ¬ Op.cmpValue (FP.dcmp r2 r2) .l = 0 := by
    rcases hsb r1 r2 v hr1 hr2 with z | z
    · subst z; exact ⟨h1, h1⟩
    · exact ⟨tc_nanne z.1, tc_nanne z.2⟩
  refine lv_dload hx hb dL_law_1208 (lv_at hl 1 rfl) ?_
  refine lv_dload hx hb dL_law_1210 (lv_at hl 1 rfl) ?_
  refine lv_dcmp hx hb dL_law_1212 ?_
  refine lv_if_eq (tgt := 1224) hx hb dL_law_1213 (by decide) (fun h => absurd h hne.1) (fun _ => ?_)
  refine lv_dload hx hb dL_law_1216 (lv_at hl 0 rfl) ?_
  refine lv_dload hx hb dL_law_1218 (lv_at hl 0 rfl) ?_
  refine lv_dcmp hx hb dL_law_1220 ?_
  exact lv_if_ne (tgt := 1226) hx hb dL_law_1221 (by decide) (fun _ => key ls hl) (fun h => absurd h hne.2)
set_option maxHeartbeats 4000000 in
set_option maxRecDepth 100000 in
theorem law_digest {p : Program} {e : Env} {s : State} {m : MethodId} {below : List Frame} {meth : Method} {c : Code} (l : Launch) (hst : l.stackTraces = false) {b L : Nat} {xs : Nat → Int32} (hL : L ≤ 2560) (C0 : lw_At p s m meth c b L xs) {R : tc_X → tc_Y → Prop} (hop : ∀ (x : tc_X) (y : tc_Y), R x y → ∃ (v : Int64) (y' : tc_Y), f_X2_digest x = some v ∧ f_X3_digest y = some (v, y') ∧ R x y') {D : va_G} {cU cO cI cJ : ClassId} {e0 : Nat} (hKX0 : tc_KX D cU cO cI e0 (fun q => s.heap.size ≤ q) s) (hKL0 : tc_KL D cJ s) {E Em : Nat → Nat} {o : Nat} {x : tc_X} {y : tc_Y} {H : Heap} {locs : List Loc} {ls : Array Slot} {d0 : Drawn} (hd0 : s.drawn.sameBut d0 lw_cs) {j : Nat} (hj : j + 5 ≤ L) (hl : lv_has ls 9 (tc_lw b o j E Em)) (hI : tc_Inv R D cU cO cI cJ e0 s.heap.size E Em o x y H) (hS : va_S (fun q => s.heap.size ≤ q) s.heap H locs) {cells slots : Nat} (hcc : cells + 400 ≤ 847852) (hss : slots + 2300 ≤ 6552547)
    (K : ∀ (E' : Nat → Nat) (x' : tc_X) (y' : tc_Y) (H' : Heap) (locs' : List Loc) (d1 : Drawn), s.drawn.sameBut d1 lw_cs → tc_Inv R D cU cO cI cJ e0 s.heap.size E' Em o x' y' H' → va_S (fun q => s.heap.size ≤ q) s.heap H' locs' → ∀ ls', lv_has ls' 9 (tc_lw b o j E' Em) → W p l e room_1 (s.setDrawn d1) m #[Value.ref b] below meth c H' locs' (cells + 400) (slots + 2300) (lw_Z below #[Value.ref b] s) (F0 m 1243 ls' [])) : W p l e room_1 (s.setDrawn d0) m #[Value.ref b] below meth c H locs cells slots (lw_Z below #[Value.ref b] s) (F0 m 1229 ls []) := by
  obtain ⟨hx, hb, hr, hml, hown, hts0, hX, hbl, hlocks, hgv⟩ := id C0
  have hts : ∀ w ∈ wsL_law, w.before #[Value.ref b] (s.setDrawn d0) = true := dr_words (fun w h => hts0 w (wsL_law_in w h)) d0
  have hbA : ¬ (fun q : Nat => s.heap.size ≤ q) b := Nat.not_le.mpr hbl
  have hX : va_X b L xs (s.setDrawn d0) s.heap := hX
  have hKX := hKX0.drawn d0
  have hKL := hKL0.moved (U := s.setDrawn d0) (Vm.Alike.refl s.vm)
  have hK := hKX.1.1
  have hl : lv_has ls 9 [(4, .int (nI j)), (3, .ref o), (2, .ref (Em 0)), (1, .ref (E 0)), (0, .ref b)] := hl
  have hIo : o < H.size := hI.2.2.1.elim (fun _ h => h.lt)
  obtain ⟨fj, hO⟩ := hI.2.2.1
  obtain ⟨v, y', h2, h3, hR'⟩ := hop x y hI.2.2.2.2
  refine lv_aload_n hx hb dL_law_1229 rfl (lv_at hl 3 rfl) ?_
  refine tc_cr (W.runV (As := []) (rest := []) ⟨hx, hb, hml, hown, hts⟩ (mt_X2_digest l D cU cO cI e0 (tc_AC s.heap.size Em o) E x v h2) (cwV 0 hts gL_law_X2_digest rfl rfl rfl (by decide +kernel) ⟨Nat.le_of_ble_eq_true rfl, Nat.le_of_ble_eq_true rfl⟩) ⟨fun a U g mk q => ⟨q.1, q.2.1, q.2.2.call⟩, tc_rcv hI.1.o hK rfl, fun U hU hW9 => ⟨rfl, by rw [hU]; exact hI.1, hKX.1.warm hW9⟩⟩ rfl rfl hl.1 rfl (lv_room (Nat.le_of_ble_eq_true rfl)) dL_law_1230 ⟨by show cells + 0 ≤ 847852; omega, by show slots + 0 ≤ 6552547; omega⟩) ?_
  refine lv_aload_n hx hb dL_law_1233 rfl (lv_at hl 2 rfl) ?_
  refine tc_cw (va_runV (As := []) (rest := [.long v]) ⟨hx, hb, hml, hown, hts⟩ (mt_X3_digest l D cU cO cI (tc_AM s.heap.size E x o) Em y v y' h3) (cwV 0 hts gL_law_X3_digest rfl rfl rfl (by decide +kernel) ⟨Nat.le_of_ble_eq_true rfl, Nat.le_of_ble_eq_true rfl⟩) ⟨fun a U g mk q => ⟨q.1, q.2.1, q.2.2.call⟩, tc_rcv hI.2.1.1 hK rfl, fun U hU hW9 => ⟨rfl, by rw [hU]; exact hI.2.1, va_K.moved hW9.alike hK, by rw [hU]; exact tc_AM_new hI.1 hO.lt hS.1⟩⟩ rfl rfl hl.1 rfl (lv_room (Nat.le_of_ble_eq_true rfl)) dL_law_1234 ⟨by show cells + 399 ≤ 847852; omega, by show slots + 2166 ≤ 6552547; omega⟩) hS (fun _ _ h => h.1) (fun _ h => h.1) (fun H2 locs hM z2 o2 hS => ?_)
  obtain ⟨hI9, hO2⟩ := tc_Inv.afterM (R := R) hI.1 hO hI.2.2.2.1 hM hR' o2
  refine W.lcmp hx hb dL_law_1237 ?_
  rw [tc_cmp0]
  refine lv_if_eq (tgt := 1243) hx hb dL_law_1238 (by decide) (fun _ => ?_) (fun h9 => absurd rfl h9)
  refine W.widen (k := cells + 400) (n := slots + 2300) (by omega) (by omega) ?_
  exact K E x y' H2 locs d0 hd0 hI9 hS ls hl
