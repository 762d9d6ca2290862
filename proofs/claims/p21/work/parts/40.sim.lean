/-! The law's own wharf: a picture of its cells; rows over single cells of arrays of arrays and of truths. Rows by their numbers: 2 weights, 4 what is broken, 5 and up the places, 21 and up the cranes. -/
abbrev tc_Z : Type := (Nat → Int32) × (Nat → Nat) × (Nat → Nat → Int32) × Nat
abbrev tc_zn (z : tc_Z) : Nat := z.2.2.2
abbrev tc_zl (z : tc_Z) (i : Nat) : Nat := z.2.1 i
abbrev tc_zf (z : tc_Z) (i : Nat) : Nat → Int32 := z.2.2.1 i
def tc_zg (z : tc_Z) (c : Nat) (v : Int32) : tc_Z := (upd z.1 c v, z.2)
def tc_zs (z : tc_Z) (i j : Nat) (v : Int32) : tc_Z := (z.1, z.2.1, va_up z.2.2.1 i (upd (z.2.2.1 i) j v), z.2.2.2)
def tc_zR (z : tc_Z) (i n : Nat) (f : Nat → Int32) : tc_Z := (z.1, va_up z.2.1 i n, va_up z.2.2.1 i f, z.2.2.2)
def tc_zC (z : tc_Z) (f : Nat → Int32) : tc_Z := (z.1, va_up z.2.1 (21 + z.2.2.2) 8, va_up z.2.2.1 (21 + z.2.2.2) f, z.2.2.2 + 1)
abbrev tc_isr (z : tc_Z) (i : Nat) : Prop := i = 2 ∨ (5 ≤ i ∧ i < 21 + tc_zn z)
abbrev tc_isc (z : tc_Z) (i : Nat) : Prop := 21 ≤ i ∧ i < 21 + tc_zn z
abbrev tc_sl (z : tc_Z) (i : Nat) : Prop := i < 21 + tc_zn z
abbrev tc_oS (F : Nat → Nat) (z : tc_Z) : va_E := .inr (4, [.int (z.1 0), .int (z.1 1), .ref (F 1), .ref (F 2), .ref (F 3), .ref (F 4)])
abbrev tc_oQ (cII : ClassId) (F : Nat → Nat) : va_E := .inl (cII, 16, .inr (.inr (.inr (.inr (fun p => some (F (5 + p)))))))
abbrev tc_oC (cII : ClassId) (F : Nat → Nat) (z : tc_Z) : va_E := .inl (cII, tc_zn z, .inr (.inr (.inr (.inr (fun k => some (F (21 + k)))))))
abbrev tc_oB (cZ : ClassId) (z : tc_Z) : va_E := .inl (cZ, 40, .inl (tc_zf z 4))
abbrev tc_oR (cI : ClassId) (z : tc_Z) (i : Nat) : va_E := .inl (cI, tc_zl z i, .inl (tc_zf z i))
def tc_WS (D : va_G) (cI cII cZ : ClassId) (A : Nat → Prop) (F : Nat → Nat) (z : tc_Z) (H : Heap) : Prop := va_at D vwCl (F 0, tc_oS F z) H ∧ va_at D vwCl (F 1, tc_oQ cII F) H ∧ va_at D vwCl (F 3, tc_oC cII F z) H ∧ va_at D vwCl (F 4, tc_oB cZ z) H ∧ (∀ i, tc_isr z i → va_at D vwCl (F i, tc_oR cI z i) H) ∧ (∀ i j, tc_sl z i → tc_sl z j → F i = F j → i = j) ∧ (∀ i, tc_sl z i → A (F i)) ∧ tc_zn z ≤ 5
theorem tc_isr.sl {z : tc_Z} {i : Nat} (h : tc_isr z i) : tc_sl z i := by
  rcases h with h | h
  · subst h; show 2 < 21 + tc_zn z; omega
  · exact h.2
theorem tc_isc.r {z : tc_Z} {i : Nat} (h : tc_isc z i) : tc_isr z i := Or.inr ⟨Nat.le_trans (by decide) h.1, h.2⟩
theorem tc_slf {z : tc_Z} {i : Nat} (h : i < 21) : tc_sl z i := Nat.lt_of_lt_of_le h (Nat.le_add_right _ _)
theorem tc_isrQ {z : tc_Z} {p : Nat} (h : p < 16) : tc_isr z (5 + p) := Or.inr ⟨Nat.le_add_right _ _, by omega⟩
theorem tc_isrK {z : tc_Z} {k : Nat} (h : k < tc_zn z) : tc_isr z (21 + k) := Or.inr ⟨by omega, by omega⟩
theorem tc_isrW {z : tc_Z} : tc_isr z 2 := Or.inl rfl
section TSW
variable {D : va_G} {cI cII cZ : ClassId} {A A' : Nat → Prop} {F : Nat → Nat} {z : tc_Z} {H H1 : Heap}
theorem tc_WS.o (h : tc_WS D cI cII cZ A F z H) : va_at D vwCl (F 0, tc_oS F z) H := h.1
theorem tc_WS.q (h : tc_WS D cI cII cZ A F z H) : va_at D vwCl (F 1, tc_oQ cII F) H := h.2.1
theorem tc_WS.c (h : tc_WS D cI cII cZ A F z H) : va_at D vwCl (F 3, tc_oC cII F z) H := h.2.2.1
theorem tc_WS.b (h : tc_WS D cI cII cZ A F z H) : va_at D vwCl (F 4, tc_oB cZ z) H := h.2.2.2.1
theorem tc_WS.r (h : tc_WS D cI cII cZ A F z H) {i : Nat} (hi : tc_isr z i) : va_at D vwCl (F i, tc_oR cI z i) H := h.2.2.2.2.1 i hi
theorem tc_WS.inj (h : tc_WS D cI cII cZ A F z H) {i j : Nat} (hi : tc_sl z i) (hj : tc_sl z j) (e : F i = F j) : i = j := h.2.2.2.2.2.1 i j hi hj e
theorem tc_WS.own (h : tc_WS D cI cII cZ A F z H) {i : Nat} (hi : tc_sl z i) : A (F i) := h.2.2.2.2.2.2.1 i hi
theorem tc_WS.n5 (h : tc_WS D cI cII cZ A F z H) : tc_zn z ≤ 5 := h.2.2.2.2.2.2.2
theorem tc_WS.lt (h : tc_WS D cI cII cZ A F z H) {i : Nat} (hi : tc_sl z i) : F i < H.size := by
  by_cases h0 : i = 0
  · subst h0; exact h.o.lt
  by_cases h1 : i = 1
  · subst h1; exact h.q.lt
  by_cases h3 : i = 3
  · subst h3; exact h.c.lt
  by_cases h4 : i = 4
  · subst h4; exact h.b.lt
  have hi' : i < 21 + tc_zn z := hi
  exact (h.r (i := i) (by unfold tc_isr; omega)).lt
theorem tc_WS.kept (h : tc_WS D cI cII cZ A F z H) (o : ∀ i, tc_sl z i → H1[F i]? = H[F i]?) : tc_WS D cI cII cZ A F z H1 := by
  obtain ⟨h0, h1, h3, h4, h5, h6, h7, h8⟩ := h
  exact ⟨h0.kept (o 0 (tc_slf (by decide))), h1.kept (o 1 (tc_slf (by decide))), h3.kept (o 3 (tc_slf (by decide))), h4.kept (o 4 (tc_slf (by decide))), fun i hi => (h5 i hi).kept (o i hi.sl), h6, h7, h8⟩
theorem tc_WS.grown (h : tc_WS D cI cII cZ A F z H) (o : ∀ q, q < H.size → H1[q]? = H[q]?) : tc_WS D cI cII cZ A F z H1 := h.kept (fun i hi => o _ (h.lt hi))
theorem tc_WS.reA (h : tc_WS D cI cII cZ A F z H) (q : ∀ i, tc_sl z i → A' (F i)) : tc_WS D cI cII cZ A' F z H := by
  obtain ⟨h0, h1, h3, h4, h5, h6, h7, h8⟩ := h
  exact ⟨h0, h1, h3, h4, h5, h6, q, h8⟩
/-- the object's numbers -/
theorem tc_WS.sg0 (h : tc_WS D cI cII cZ A F z H) {v : Int32} (e1 : va_at D vwCl (F 0, .inr (4, [.int v, .int (z.1 1), .ref (F 1), .ref (F 2), .ref (F 3), .ref (F 4)])) H1) (o : ∀ q, q ≠ F 0 → H1[q]? = H[q]?) : tc_WS D cI cII cZ A F (tc_zg z 0 v) H1 := by
  obtain ⟨h0, h1, h3, h4, h5, h6, h7, h8⟩ := h
  have ne : ∀ i, tc_sl z i → i ≠ 0 → H1[F i]? = H[F i]? := fun i hi hn => o _ (fun q => hn (h6 _ _ hi (tc_slf (by decide)) q))
  exact ⟨e1, h1.kept (ne 1 (tc_slf (by decide)) (by decide)), h3.kept (ne 3 (tc_slf (by decide)) (by decide)), h4.kept (ne 4 (tc_slf (by decide)) (by decide)), fun i hi => (h5 i hi).kept (ne i hi.sl (by rcases hi with hi | hi <;> omega)), h6, h7, h8⟩
theorem tc_WS.sg1 (h : tc_WS D cI cII cZ A F z H) {v : Int32} (e1 : va_at D vwCl (F 0, .inr (4, [.int (z.1 0), .int v, .ref (F 1), .ref (F 2), .ref (F 3), .ref (F 4)])) H1) (o : ∀ q, q ≠ F 0 → H1[q]? = H[q]?) : tc_WS D cI cII cZ A F (tc_zg z 1 v) H1 := by
  obtain ⟨h0, h1, h3, h4, h5, h6, h7, h8⟩ := h
  have ne : ∀ i, tc_sl z i → i ≠ 0 → H1[F i]? = H[F i]? := fun i hi hn => o _ (fun q => hn (h6 _ _ hi (tc_slf (by decide)) q))
  exact ⟨e1, h1.kept (ne 1 (tc_slf (by decide)) (by decide)), h3.kept (ne 3 (tc_slf (by decide)) (by decide)), h4.kept (ne 4 (tc_slf (by decide)) (by decide)), fun i hi => (h5 i hi).kept (ne i hi.sl (by rcases hi with hi | hi <;> omega)), h6, h7, h8⟩
theorem tc_zs_f {z : tc_Z} {i j k : Nat} {v : Int32} (h : k ≠ i) : tc_zf (tc_zs z i j v) k = tc_zf z k := va_up_ne _ _ h
theorem tc_zs_s {z : tc_Z} {i j : Nat} {v : Int32} : tc_zf (tc_zs z i j v) i = upd (tc_zf z i) j v := va_up_self _ _ _
/-- a place of a row -/
theorem tc_WS.ss (h : tc_WS D cI cII cZ A F z H) {i j : Nat} {v : Int32} (hi : tc_isr z i) (e1 : va_at D vwCl (F i, .inl (cI, tc_zl z i, .inl (upd (tc_zf z i) j v))) H1) (o : ∀ q, q ≠ F i → H1[q]? = H[q]?) : tc_WS D cI cII cZ A F (tc_zs z i j v) H1 := by
  obtain ⟨h0, h1, h3, h4, h5, h6, h7, h8⟩ := h
  have ne : ∀ k, tc_sl z k → k ≠ i → H1[F k]? = H[F k]? := fun k hk hn => o _ (fun q => hn (h6 _ _ hk hi.sl q))
  have n : i ≠ 0 ∧ i ≠ 1 ∧ i ≠ 3 ∧ i ≠ 4 := by unfold tc_isr at hi; omega
  refine ⟨h0.kept (ne 0 (tc_slf (by decide)) (Ne.symm n.1)), h1.kept (ne 1 (tc_slf (by decide)) (Ne.symm n.2.1)), h3.kept (ne 3 (tc_slf (by decide)) (Ne.symm n.2.2.1)), ?_, fun k hk => ?_, h6, h7, h8⟩
  · show va_at D vwCl (F 4, .inl (cZ, 40, .inl (tc_zf (tc_zs z i j v) 4))) H1
    rw [tc_zs_f (Ne.symm n.2.2.2)]
    exact h4.kept (ne 4 (tc_slf (by decide)) (Ne.symm n.2.2.2))
  · show va_at D vwCl (F k, .inl (cI, tc_zl z k, .inl (tc_zf (tc_zs z i j v) k))) H1
    by_cases e : k = i
    · subst e; rw [tc_zs_s]; exact e1
    · rw [tc_zs_f e]; exact (h5 k hk).kept (ne k (tc_isr.sl (z := z) hk) e)
theorem tc_WS.sb (h : tc_WS D cI cII cZ A F z H) {j : Nat} {v : Int32} (e1 : va_at D vwCl (F 4, .inl (cZ, 40, .inl (upd (tc_zf z 4) j v))) H1) (o : ∀ q, q ≠ F 4 → H1[q]? = H[q]?) : tc_WS D cI cII cZ A F (tc_zs z 4 j v) H1 := by
  obtain ⟨h0, h1, h3, h4, h5, h6, h7, h8⟩ := h
  have ne : ∀ k, tc_sl z k → k ≠ 4 → H1[F k]? = H[F k]? := fun k hk hn => o _ (fun q => hn (h6 _ _ hk (tc_slf (by decide)) q))
  refine ⟨h0.kept (ne 0 (tc_slf (by decide)) (by decide)), h1.kept (ne 1 (tc_slf (by decide)) (by decide)), h3.kept (ne 3 (tc_slf (by decide)) (by decide)), ?_, fun k hk => ?_, h6, h7, h8⟩
  · show va_at D vwCl (F 4, .inl (cZ, 40, .inl (tc_zf (tc_zs z 4 j v) 4))) H1
    rw [tc_zs_s]; exact e1
  · have e : k ≠ 4 := by have hk' : tc_isr z k := hk; unfold tc_isr at hk'; omega
    show va_at D vwCl (F k, .inl (cI, tc_zl z k, .inl (tc_zf (tc_zs z 4 j v) k))) H1
    rw [tc_zs_f e]; exact (h5 k hk).kept (ne k (tc_isr.sl (z := z) hk) e)
theorem tc_zR_f {z : tc_Z} {i n k : Nat} {f : Nat → Int32} (h : k ≠ i) : tc_zf (tc_zR z i n f) k = tc_zf z k := va_up_ne _ _ h
theorem tc_zR_s {z : tc_Z} {i n : Nat} {f : Nat → Int32} : tc_zf (tc_zR z i n f) i = f := va_up_self _ _ _
theorem tc_zR_l {z : tc_Z} {i n k : Nat} {f : Nat → Int32} (h : k ≠ i) : tc_zl (tc_zR z i n f) k = tc_zl z k := va_up_ne _ _ h
theorem tc_zR_ls {z : tc_Z} {i n : Nat} {f : Nat → Int32} : tc_zl (tc_zR z i n f) i = n := va_up_self _ _ _
/-- another array at a place -/
theorem tc_WS.sQ (h : tc_WS D cI cII cZ A F z H) {p q n : Nat} {f : Nat → Int32} (hp : p < 16) (e1 : va_at D vwCl (F 1, .inl (cII, 16, .inr (.inr (.inr (.inr (va_up (fun p => some (F (5 + p))) p (some q))))))) H1) (o : ∀ a, a ≠ F 1 → H1[a]? = H[a]?) (et : va_at D vwCl (q, .inl (cI, n, .inl f)) H1) (hq : A q) (hn : ∀ i, tc_sl z i → F i ≠ q) : tc_WS D cI cII cZ A (va_up F (5 + p) q) (tc_zR z (5 + p) n f) H1 := by
  obtain ⟨h0, h1, h3, h4, h5, h6, h7, h8⟩ := h
  have ne : ∀ k, tc_sl z k → k ≠ 1 → H1[F k]? = H[F k]? := fun k hk hn => o _ (fun q => hn (h6 _ _ hk (tc_slf (by decide)) q))
  have f0 : ∀ k, k < 5 → va_up F (5 + p) q k = F k := fun k hk => va_up_ne _ _ (by omega)
  have fs : va_up F (5 + p) q (5 + p) = q := va_up_self _ _ _
  refine ⟨?_, ?_, ?_, ?_, fun k hk => ?_, fun i j hi hj e => ?_, fun i hi => ?_, h8⟩
  · unfold tc_oS; rw [f0 0 (by decide), f0 1 (by decide), f0 2 (by decide), f0 3 (by decide), f0 4 (by decide)]
    exact h0.kept (ne 0 (tc_slf (by decide)) (by decide))
  · rw [f0 1 (by decide)]
    have ef : (fun p9 => some (va_up F (5 + p) q (5 + p9))) = va_up (fun p => some (F (5 + p))) p (some q) := by
      funext p9
      by_cases e : p9 = p
      · subst e; rw [va_up_self, va_up_self]
      · rw [va_up_ne _ _ e, va_up_ne _ _ (show 5 + p9 ≠ 5 + p by omega)]
    show va_at D vwCl (F 1, .inl (cII, 16, .inr (.inr (.inr (.inr (fun p9 => some (va_up F (5 + p) q (5 + p9)))))))) H1
    rw [ef]; exact e1
  · rw [f0 3 (by decide)]
    have ef : (fun k => some (va_up F (5 + p) q (21 + k))) = fun k => some (F (21 + k)) := by
      funext k; rw [va_up_ne _ _ (show 21 + k ≠ 5 + p by omega)]
    show va_at D vwCl (F 3, .inl (cII, tc_zn z, .inr (.inr (.inr (.inr (fun k => some (va_up F (5 + p) q (21 + k)))))))) H1
    rw [ef]; exact h3.kept (ne 3 (tc_slf (by decide)) (by decide))
  · rw [f0 4 (by decide)]
    show va_at D vwCl (F 4, .inl (cZ, 40, .inl (tc_zf (tc_zR z (5 + p) n f) 4))) H1
    rw [tc_zR_f (by omega)]; exact h4.kept (ne 4 (tc_slf (by decide)) (by decide))
  · show va_at D vwCl (va_up F (5 + p) q k, .inl (cI, tc_zl (tc_zR z (5 + p) n f) k, .inl (tc_zf (tc_zR z (5 + p) n f) k))) H1
    by_cases e : k = 5 + p
    · subst e; rw [fs, tc_zR_s, tc_zR_ls]; exact et
    · rw [va_up_ne _ _ e, tc_zR_f e, tc_zR_l e]
      exact (h5 k hk).kept (ne k (tc_isr.sl (z := z) hk) (by have hk' : tc_isr z k := hk; unfold tc_isr at hk'; omega))
  · by_cases ei : i = 5 + p <;> by_cases ej : j = 5 + p
    · omega
    · subst ei; rw [fs, va_up_ne _ _ ej] at e; exact absurd e.symm (hn j hj)
    · subst ej; rw [fs, va_up_ne _ _ ei] at e; exact absurd e (hn i hi)
    · rw [va_up_ne _ _ ei, va_up_ne _ _ ej] at e; exact h6 i j hi hj e
  · by_cases ei : i = 5 + p
    · subst ei; rw [fs]; exact hq
    · rw [va_up_ne _ _ ei]; exact h7 i hi
/-- other weights -/
theorem tc_WS.sW (h : tc_WS D cI cII cZ A F z H) {q n : Nat} {f : Nat → Int32} (e1 : va_at D vwCl (F 0, .inr (4, [.int (z.1 0), .int (z.1 1), .ref (F 1), .ref q, .ref (F 3), .ref (F 4)])) H1) (o : ∀ a, a ≠ F 0 → H1[a]? = H[a]?) (et : va_at D vwCl (q, .inl (cI, n, .inl f)) H1) (hq : A q) (hn : ∀ i, tc_sl z i → F i ≠ q) : tc_WS D cI cII cZ A (va_up F 2 q) (tc_zR z 2 n f) H1 := by
  obtain ⟨h0, h1, h3, h4, h5, h6, h7, h8⟩ := h
  have ne : ∀ k, tc_sl z k → k ≠ 0 → H1[F k]? = H[F k]? := fun k hk hn => o _ (fun q => hn (h6 _ _ hk (tc_slf (by decide)) q))
  have f0 : ∀ k, k ≠ 2 → va_up F 2 q k = F k := fun k hk => va_up_ne _ _ hk
  have fs : va_up F 2 q 2 = q := va_up_self _ _ _
  refine ⟨?_, ?_, ?_, ?_, fun k hk => ?_, fun i j hi hj e => ?_, fun i hi => ?_, h8⟩
  · unfold tc_oS; rw [f0 0 (by decide), f0 1 (by decide), fs, f0 3 (by decide), f0 4 (by decide)]; exact e1
  · rw [f0 1 (by decide)]
    have ef : (fun p9 => some (va_up F 2 q (5 + p9))) = fun p => some (F (5 + p)) := by
      funext p9; rw [f0 _ (by omega)]
    show va_at D vwCl (F 1, .inl (cII, 16, .inr (.inr (.inr (.inr (fun p9 => some (va_up F 2 q (5 + p9)))))))) H1
    rw [ef]; exact h1.kept (ne 1 (tc_slf (by decide)) (by decide))
  · rw [f0 3 (by decide)]
    have ef : (fun k => some (va_up F 2 q (21 + k))) = fun k => some (F (21 + k)) := by
      funext k; rw [f0 _ (by omega)]
    show va_at D vwCl (F 3, .inl (cII, tc_zn z, .inr (.inr (.inr (.inr (fun k => some (va_up F 2 q (21 + k)))))))) H1
    rw [ef]; exact h3.kept (ne 3 (tc_slf (by decide)) (by decide))
  · rw [f0 4 (by decide)]
    show va_at D vwCl (F 4, .inl (cZ, 40, .inl (tc_zf (tc_zR z 2 n f) 4))) H1
    rw [tc_zR_f (by decide)]; exact h4.kept (ne 4 (tc_slf (by decide)) (by decide))
  · show va_at D vwCl (va_up F 2 q k, .inl (cI, tc_zl (tc_zR z 2 n f) k, .inl (tc_zf (tc_zR z 2 n f) k))) H1
    by_cases e : k = 2
    · subst e; rw [fs, tc_zR_s, tc_zR_ls]; exact et
    · rw [va_up_ne _ _ e, tc_zR_f e, tc_zR_l e]
      exact (h5 k hk).kept (ne k (tc_isr.sl (z := z) hk) (by have hk' : tc_isr z k := hk; unfold tc_isr at hk'; omega))
  · by_cases ei : i = 2 <;> by_cases ej : j = 2
    · omega
    · subst ei; rw [fs, va_up_ne _ _ ej] at e; exact absurd e.symm (hn j hj)
    · subst ej; rw [fs, va_up_ne _ _ ei] at e; exact absurd e (hn i hi)
    · rw [va_up_ne _ _ ei, va_up_ne _ _ ej] at e; exact h6 i j hi hj e
  · by_cases ei : i = 2
    · subst ei; rw [fs]; exact hq
    · rw [va_up_ne _ _ ei]; exact h7 i hi
/-- one crane more: its row q, the outer row g -/
theorem tc_WS.sC (h : tc_WS D cI cII cZ A F z H) {q g : Nat} {f : Nat → Int32} {fo : Nat → Option Nat} (h5' : tc_zn z < 5) (e1 : va_at D vwCl (F 0, .inr (4, [.int (z.1 0), .int (z.1 1), .ref (F 1), .ref (F 2), .ref g, .ref (F 4)])) H1) (o : ∀ a, a ≠ F 0 → H1[a]? = H[a]?) (eo : va_at D vwCl (g, .inl (cII, tc_zn z + 1, .inr (.inr (.inr (.inr fo))))) H1) (ho : ∀ k, k < tc_zn z → fo k = some (F (21 + k))) (ho2 : fo (tc_zn z) = some q) (et : va_at D vwCl (q, .inl (cI, 8, .inl f)) H1) (hq : A q) (hg : A g) (hqg : q ≠ g) (hn : ∀ i, tc_sl z i → F i ≠ q) (hn2 : ∀ i, tc_sl z i → F i ≠ g) : tc_WS D cI cII cZ A (va_up (va_up F 3 g) (21 + tc_zn z) q) (tc_zC z f) H1 := by
  obtain ⟨h0, h1, h3, h4, h5, h6, h7, h8⟩ := h
  have ne : ∀ k, tc_sl z k → k ≠ 0 → H1[F k]? = H[F k]? := fun k hk hn => o _ (fun q => hn (h6 _ _ hk (tc_slf (by decide)) q))
  obtain ⟨n, en⟩ : ∃ n, n = tc_zn z := ⟨_, rfl⟩
  obtain ⟨F1, eF⟩ : ∃ F1, F1 = va_up (va_up F 3 g) (21 + tc_zn z) q := ⟨_, rfl⟩
  have f0 : ∀ k, k ≠ 3 → k ≠ 21 + n → F1 k = F k := fun k hk hk2 => by rw [eF, ← en, va_up_ne _ _ hk2, va_up_ne _ _ hk]
  have f3 : F1 3 = g := by rw [eF, va_up_ne _ _ (by omega), va_up_self]
  have fs : F1 (21 + n) = q := by rw [eF, en, va_up_self]
  have l0 : ∀ k, k ≠ 21 + n → tc_zl (tc_zC z f) k = tc_zl z k := fun k hk => va_up_ne _ _ (fun e9 => hk (by rw [en]; exact e9))
  have r0 : ∀ k, k ≠ 21 + n → tc_zf (tc_zC z f) k = tc_zf z k := fun k hk => va_up_ne _ _ (fun e9 => hk (by rw [en]; exact e9))
  have ls : tc_zl (tc_zC z f) (21 + n) = 8 := by rw [en]; exact va_up_self _ _ _
  have rs : tc_zf (tc_zC z f) (21 + n) = f := by rw [en]; exact va_up_self _ _ _
  have zn : tc_zn (tc_zC z f) = n + 1 := by rw [en]; rfl
  rw [← eF]
  have sl' : ∀ i, tc_sl (tc_zC z f) i → i = 21 + n ∨ tc_sl z i := fun i hi => by
    have hi' : i < 21 + tc_zn (tc_zC z f) := hi
    rw [zn] at hi'
    by_cases e : i = 21 + n
    · exact Or.inl e
    · exact Or.inr (show i < 21 + tc_zn z by rw [← en]; omega)
  refine ⟨?_, ?_, ?_, ?_, fun k hk => ?_, fun i j hi hj e => ?_, fun i hi => ?_, by rw [zn, en]; omega⟩
  · unfold tc_oS; rw [f0 0 (by decide) (by omega), f0 1 (by decide) (by omega), f0 2 (by decide) (by omega), f3, f0 4 (by decide) (by omega)]; exact e1
  · rw [f0 1 (by decide) (by omega)]
    have k1 := h1.kept (ne 1 (tc_slf (by decide)) (by decide))
    show H1[F 1]? = some (vp_cell cII (16, .inr (.inr (.inr (.inr (fun p9 => some (F1 (5 + p9))))))))
    have k2 : H1[F 1]? = some (vp_cell cII (16, .inr (.inr (.inr (.inr (fun p9 => some (F (5 + p9)))))))) := k1
    rw [k2, vp_cell_q, vp_cell_q]
    congr 1
    unfold arrV
    congr 1
    apply Array.ext
    · simp
    · intro i h1 h2
      have hi : i < 16 := by simpa using h1
      simp only [Array.getElem_ofFn]
      rw [f0 (5 + i) (by omega) (by omega)]
  · rw [f3]
    show H1[g]? = some (vp_cell cII (tc_zn (tc_zC z f), .inr (.inr (.inr (.inr (fun k => some (F1 (21 + k))))))))
    have k2 : H1[g]? = some (vp_cell cII (tc_zn z + 1, .inr (.inr (.inr (.inr fo))))) := eo
    rw [k2, zn, ← en, vp_cell_q, vp_cell_q]
    congr 1
    unfold arrV
    congr 1
    apply Array.ext
    · simp
    · intro i h1 h2
      have hi : i < n + 1 := by simpa using h1
      simp only [Array.getElem_ofFn]
      by_cases e : i = n
      · subst e; rw [fs, en, ho2]
      · rw [f0 (21 + i) (by omega) (by omega), ho i (by rw [← en]; omega)]
  · rw [f0 4 (by decide) (by omega)]
    show va_at D vwCl (F 4, .inl (cZ, 40, .inl (tc_zf (tc_zC z f) 4))) H1
    rw [r0 4 (by omega)]; exact h4.kept (ne 4 (tc_slf (by decide)) (by decide))
  · show va_at D vwCl (F1 k, .inl (cI, tc_zl (tc_zC z f) k, .inl (tc_zf (tc_zC z f) k))) H1
    by_cases e : k = 21 + n
    · subst e; rw [fs, ls, rs]; exact et
    · have hk' : k = 2 ∨ (5 ≤ k ∧ k < 21 + tc_zn (tc_zC z f)) := hk
      rw [zn] at hk'
      have hr : tc_isr z k := by show k = 2 ∨ (5 ≤ k ∧ k < 21 + tc_zn z); rw [← en]; omega
      rw [f0 k (by omega) e, l0 k e, r0 k e]
      exact (h5 k hr).kept (ne k hr.sl (by omega))
  · rcases sl' i hi with ei | ei <;> rcases sl' j hj with ej | ej
    · omega
    · subst ei
      rw [fs] at e
      by_cases e3 : j = 3
      · subst e3; rw [f3] at e; exact absurd e hqg
      · have : j ≠ 21 + n := by have : j < 21 + tc_zn z := ej; omega
        rw [f0 j e3 this] at e; exact absurd e.symm (hn j ej)
    · subst ej
      rw [fs] at e
      by_cases e3 : i = 3
      · subst e3; rw [f3] at e; exact absurd e.symm hqg
      · have : i ≠ 21 + n := by have : i < 21 + tc_zn z := ei; omega
        rw [f0 i e3 this] at e; exact absurd e (hn i ei)
    · have hi9 : i ≠ 21 + n := by have : i < 21 + tc_zn z := ei; omega
      have hj9 : j ≠ 21 + n := by have : j < 21 + tc_zn z := ej; omega
      by_cases e3 : i = 3 <;> by_cases e4 : j = 3
      · omega
      · subst e3; rw [f3, f0 j e4 hj9] at e; exact absurd e.symm (hn2 j ej)
      · subst e4; rw [f3, f0 i e3 hi9] at e; exact absurd e (hn2 i ei)
      · rw [f0 i e3 hi9, f0 j e4 hj9] at e; exact h6 i j ei ej e
  · rcases sl' i hi with ei | ei
    · subst ei; rw [fs]; exact hq
    · by_cases e3 : i = 3
      · subst e3; rw [f3]; exact hg
      · rw [f0 i e3 (by have : i < 21 + tc_zn z := ei; omega)]; exact h7 i ei
end TSW
