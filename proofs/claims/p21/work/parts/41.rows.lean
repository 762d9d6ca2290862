/-! Rows over single cells: arrays of arrays, of truths; both worlds together. -/
abbrev tc_ts (cII cZ : ClassId) : List (ClassId × FieldType) := [(cII, .array .int), (cZ, .boolean)]
theorem va_AOA.moved {ty : FieldType} {u U : State} (hvm : u.vm.Alike U.vm) (h : va_AOA ty u) : va_AOA ty U := by
  obtain ⟨comp, c, k, h1, h2, h3, h4, h5⟩ := arrayOverA_spec h
  obtain ⟨k', hk', he⟩ := hvm.2.2 _ _ h3
  have hi : (U.vm.classes.findIdx? fun (x : Class) => match x.kind with | .array component _ => component == comp | _ => false) = some c := by
    have e1 := va_idx_bare U.vm comp
    have e2 := va_idx_bare u.vm comp
    have e3 : u.vm.bare = U.vm.bare := by first | exact hvm.bare_eq | exact hvm.bare_eq.symm
    rw [e3] at e2
    exact e1.symm.trans (e2.trans h2)
  have hkind : k'.kind = .array comp (.array ty) := by rw [he]; exact h4
  have f1 : U.vm.findClass (FieldType.array ty).toString = some comp := by rw [hvm.findClass]; exact h1
  have f2 : U.vm.findClass ("[" ++ (FieldType.array ty).toString) = some c := by rw [hvm.findClass]; exact h5
  unfold va_AOA Cond.before Cond.holds
  simp only [Cond.value]
  rw [f1, Option.bind_some]
  refine (congrArg (fun o : Option Nat => (o.bind (fun c => (U.vm.classes[c]?).map fun (k : Class) => match k.kind with | .array _ t9 => decide (t9 = FieldType.array ty) && decide (U.vm.findClass ("[" ++ (FieldType.array ty).toString) = some c) | _ => false) == some true)) hi).trans ?_
  simp [hk', hkind, f2]
def tc_KS (D : va_G) (cI cII cZ : ClassId) (U : State) : Prop := va_K D vwCl (tc_ts cII cZ) U ∧ va_AOA .int U ∧ ∃ kA : Class, U.vm.classes[cII]? = some kA ∧ kA.kind = .array cI (.array .int)
theorem tc_KS.moved {D : va_G} {cI cII cZ : ClassId} {u U : State} (al : u.vm.Alike U.vm) (h : tc_KS D cI cII cZ u) : tc_KS D cI cII cZ U := by
  obtain ⟨h1, h2, kA, h3, h4⟩ := h
  obtain ⟨k', hk', he⟩ := al.2.2 _ _ h3
  exact ⟨va_K.moved al h1, h2.moved al, k', hk', by rw [he]; exact h4⟩
theorem tc_strAI : (FieldType.array .int).toString = "[I" ∧ "[" ++ (FieldType.array .int).toString = "[[I" ∧ "[" ++ FieldType.int.toString = "[I" := by decide +kernel
section TC2
variable {p : Program} {l : Launch} {e : Env} {R : Room} {s : State} {m : MethodId} {args : Array Value} {below : List Frame} {meth : Method} {c : Code} {H : Heap} {locs : List Loc} {cells slots : Nat} {Q : State → Prop}
variable {cc : ByteArray} {pc : Nat} {ls : Array Slot} {rest : List Value} {D : va_G} {cl : List vw_C} {tys : List (ClassId × FieldType)} {A : Nat → Prop} {H0 : Heap} {a : Nat} {cI cII cZ : ClassId}
theorem tc_alen (hexec : p.tables.exec = Jvm.exec) (hb : c.code = cc) (hK : va_K D cl tys s) {cA : ClassId} {x : vp_A} (he : va_at D cl (a, .inl (cA, x)) H) (t0 : Nat) {ty : FieldType} (ht : tys[t0]? = some (cA, ty)) {v : Int32} (hv : Int32.ofNat x.1 = v) (hdg : decode cc pc = .ok (.arraylength, 1))
    (kk : W p l e R s m args below meth c H locs cells slots Q (F0 m (pc + 1) ls (.int v :: rest))) : W p l e R s m args below meth c H locs cells slots Q (F0 m pc ls (.ref a :: rest)) :=
  va_alen hexec hb hK (tc_p1 he) 0 t0 rfl ht hv hdg kk
theorem tc_zald (hexec : p.tables.exec = Jvm.exec) (hb : c.code = cc) (hK : va_K D cl tys s) {cA : ClassId} {n : Nat} {f : Nat → Int32} (he : va_at D cl (a, .inl (cA, n, .inl f)) H) (t0 : Nat) (ht : tys[t0]? = some (cA, .boolean)) {i : Int32} (hin : ¬ i < 0 ∧ i.toNatClampNeg < n) (hdg : decode cc pc = .ok (.baload, 1))
    (kk : W p l e R s m args below meth c H locs cells slots Q (F0 m (pc + 1) ls (.int (f i.toNatClampNeg) :: rest))) : W p l e R s m args below meth c H locs cells slots Q (F0 m pc ls (.int i :: .ref a :: rest)) :=
  va_zald hexec hb hK (tc_p1 he) 0 t0 rfl ht (tc_ix_in hin) hdg kk
theorem tc_zast (hexec : p.tables.exec = Jvm.exec) (hb : c.code = cc) (hK : va_K D cl tys s) {cA : ClassId} {n : Nat} {f : Nat → Int32} (he : va_at D cl (a, .inl (cA, n, .inl f)) H) (hS : va_S A H0 H locs) (ha : A a) (t0 : Nat) (ht : tys[t0]? = some (cA, .boolean)) {i x : Int32} (hx01 : x = 0 ∨ x = 1) (hin : ¬ i < 0 ∧ i.toNatClampNeg < n) (hdg : decode cc pc = .ok (.bastore, 1))
    (kk : ∀ (H1 : Heap) (locs1 : List Loc), va_at D cl (a, .inl (cA, n, .inl (upd f i.toNatClampNeg x))) H1 → H1.size = H.size → (∀ q, q ≠ a → H1[q]? = H[q]?) → va_S A H0 H1 locs1 → W p l e R s m args below meth c H1 locs1 cells slots Q (F0 m (pc + 1) ls rest)) : W p l e R s m args below meth c H locs cells slots Q (F0 m pc ls (.int x :: .int i :: .ref a :: rest)) := by
  refine W.zast hexec hb he ((hK.2 t0 _ ht).1 n (fun j => .int (f j))) (fun q => by cases q) (by show ¬ (i < 0 ∨ (arrV _ _ _).slots.size ≤ _); rw [arrV_size]; exact tc_ix_in hin) rfl rfl hdg fun H1 e z oq => ?_
  rw [tc_nz hx01] at e
  refine kk H1 _ ?_ z oq (hS.put z oq ha)
  show H1[a]? = some (vp_cell _ _)
  rw [e]
  rw [vp_cell_i, vp_cell_i, arrV_store]
  congr 2
  funext q
  by_cases hq : q = i.toNatClampNeg
  · subst hq
    simp [updV, upd]
  · simp [updV, upd, hq]
theorem tc_aaldA (hexec : p.tables.exec = Jvm.exec) (hb : c.code = cc) (hK : va_K D cl tys s) {cA : ClassId} {n : Nat} {f : Nat → Option Nat} (he : va_at D cl (a, .inl (cA, n, .inr (.inr (.inr (.inr f))))) H) (t0 : Nat) {C : FieldType} (ht : tys[t0]? = some (cA, .array C)) {i : Int32} (hin : ¬ i < 0 ∧ i.toNatClampNeg < n) (hdg : decode cc pc = .ok (.aaload, 1)) {q : Nat} (hq : f i.toNatClampNeg = some q)
    (kk : W p l e R s m args below meth c H locs cells slots Q (F0 m (pc + 1) ls (.ref q :: rest))) : W p l e R s m args below meth c H locs cells slots Q (F0 m pc ls (.int i :: .ref a :: rest)) := by
  refine W.aald (v := .ref q) (ty := .array C) hexec hb he ((hK.2 t0 _ ht).1 n (fun j => va_rf (f j))) rfl (fun q => by cases q) (by show ¬ (i < 0 ∨ (arrV _ _ _).slots.size ≤ _); rw [arrV_size]; exact tc_ix_in hin) ?_ rfl rfl hdg kk
  show (arrV _ _ _).slots[_]? = _
  rw [arrV_read _ _ hin.2, hq]
  rfl
theorem tc_aastA (hexec : p.tables.exec = Jvm.exec) (hb : c.code = cc) (hKI : va_K D cl tys s) (t1 : Nat) (ht1 : tys[t1]? = some (cI, .int)) (hKS : tc_KS D cI cII cZ s) {n : Nat} {f : Nat → Option Nat} (he : va_at D cl (a, .inl (cII, n, .inr (.inr (.inr (.inr f))))) H) (hS : va_S A H0 H locs) (ha : A a) {v nv : Nat} {fv : Nat → Int32} (hv : va_at D cl (v, .inl (cI, nv, .inl fv)) H) {i : Int32} (hin : ¬ i < 0 ∧ i.toNatClampNeg < n) (hdg : decode cc pc = .ok (.aastore, 1))
    (kk : ∀ (H1 : Heap) (locs1 : List Loc), va_at D cl (a, .inl (cII, n, .inr (.inr (.inr (.inr (va_up f i.toNatClampNeg (some v))))))) H1 → H1.size = H.size → (∀ q, q ≠ a → H1[q]? = H[q]?) → va_S A H0 H1 locs1 → W p l e R s m args below meth c H1 locs1 cells slots Q (F0 m (pc + 1) ls rest)) : W p l e R s m args below meth c H locs cells slots Q (F0 m pc ls (.ref v :: .int i :: .ref a :: rest)) := by
  have hlt : i.toNatClampNeg < n := hin.2
  have h0 : ¬ i < 0 := hin.1
  obtain ⟨kA, k1, k2⟩ := hKS.2.2
  obtain ⟨-, kC, hkC, -⟩ := (hKI.2 t1 _ ht1).1 0 (fun _ => .null)
  have hkC : s.vm.classes[cI]? = some kC := hkC
  refine W.aast hexec hb he (fun q h => by cases h) (fun h => by cases h) k1 k2 rfl hkC ⟨h0, by show _ < (arrV _ _ _).slots.size; rw [arrV_size]; exact hlt⟩ hv (fun q h => by cases h) hkC (by show s.vm.assignable cI cI = true; unfold Vm.assignable Vm.assignableAux; simp) rfl rfl hdg fun H1 e z oq => ?_
  refine kk H1 _ ?_ z oq (hS.put z oq ha)
  show H1[a]? = some (vp_cell _ _)
  rw [e]
  rw [vp_cell_q, vp_cell_q, arrV_store]
  congr 2
  funext q
  by_cases hq : q = i.toNatClampNeg
  · subst hq
    simp [updV, va_up, va_rf]
  · simp [updV, va_up, hq]
theorem tc_newZ (hexec : p.tables.exec = Jvm.exec) (hb : c.code = cc) (harr : (Cond.arrayClass .boolean).before args s = true) (hS : va_S A H0 H locs) (hK : va_K D cl tys s) (hA : ∀ q, H0.size ≤ q → A q)
    {n : Int32} {N : Nat} (hn : ¬ n < 0) (hN : n.toNatClampNeg = N) (hbytes : N * 1 ≤ 536870912) (hcells : cells + 1 ≤ R.cells) (hslots : slots + N ≤ R.slots) (hdg : decode cc pc = .ok (.newarray .boolean, 2)) (t0 : Nat) (ht : tys[t0]? = some (cZ, .boolean))
    (kk : ∀ (q : Nat) (H1 : Heap), H.size ≤ q → A q → va_at D cl (q, .inl (cZ, N, .inl (fun _ : Nat => (0 : Int32)))) H1 → H1.size = H.size + 1 → (∀ z, z < H.size → H1[z]? = H[z]?) → va_S A H0 H1 locs →
      W p l e R s m args below meth c H1 locs (cells + 1) (slots + N) Q (F0 m (pc + 2) ls (.ref q :: rest))) : W p l e R s m args below meth c H locs cells slots Q (F0 m pc ls (.int n :: rest)) := by
  refine va_newaK (atype := .boolean) hexec hb harr rfl hdg rfl hn hN hbytes hcells hslots rfl fun H1 cA e1 z1 o1 hAr hNm => ?_
  have hc : cA = cZ := Option.some.inj (hNm.symm.trans (hK.2 t0 _ ht).2)
  subst hc
  exact kk H.size H1 (Nat.le_refl _) (hA _ hS.1) e1 z1 o1 (tc_S_new hS z1 o1)
theorem tc_newAA (hexec : p.tables.exec = Jvm.exec) (hb : c.code = cc) {own : String} {index : Nat} (hown : s.vm.findClass own = some m.cls) (hclink : (Cond.classLink own index "[I").before args s = true) (hKS : tc_KS D cI cII cZ s) (hS : va_S A H0 H locs) (hA : ∀ q, H0.size ≤ q → A q)
    {n : Int32} {N : Nat} (hn : ¬ n < 0) (hN : n.toNatClampNeg = N) (hbytes : N * 4 ≤ 536870912) (hcells : cells + 1 ≤ R.cells) (hslots : slots + N ≤ R.slots) (hdg : decode cc pc = .ok (.anewarray index, 3))
    (kk : ∀ (q : Nat) (H1 : Heap), H.size ≤ q → A q → va_at D cl (q, .inl (cII, N, .inr (.inr (.inr (.inr (fun _ : Nat => none)))))) H1 → H1.size = H.size + 1 → (∀ z, z < H.size → H1[z]? = H[z]?) → va_S A H0 H1 locs →
      W p l e R s m args below meth c H1 locs (cells + 1) (slots + N) Q (F0 m (pc + 3) ls (.ref q :: rest))) : W p l e R s m args below meth c H locs cells slots Q (F0 m pc ls (.int n :: rest)) := by
  subst hN
  refine W.anewA (t := .int) hexec hb hown (by rw [tc_strAI.1]; exact hclink) hKS.2.1.use rfl hdg rfl hn hbytes hcells hslots fun cA kA comp f1 f2 f3 f4 => ?_
  have hc : cA = cII := Option.some.inj (f1.symm.trans (hKS.1.2 0 _ rfl).2)
  subst hc
  generalize hH1 : H.push ({ cls := cA, slots := Array.replicate n.toNatClampNeg .null, vm := .none } : Cell) = H1
  have z1 : H1.size = H.size + 1 := by rw [← hH1, Array.size_push]
  have e1 : H1[H.size]? = some (arrV cA n.toNatClampNeg (fun _ => .null)) := by rw [← hH1, Array.getElem?_push_size, ← arrV_new]
  have o1 : ∀ q : Nat, q < H.size → H1[q]? = H[q]? := fun q hq => by rw [← hH1, Array.getElem?_push, if_neg (Nat.ne_of_lt hq)]
  exact kk H.size H1 (Nat.le_refl _) (hA _ hS.1) e1 z1 o1 (tc_S_new hS z1 o1)
theorem tc_mna (hexec : p.tables.exec = Jvm.exec) (hb : c.code = cc) {own : String} {index : Nat} (hown : s.vm.findClass own = some m.cls) (hclink : (Cond.classLink own index "[[I").before args s = true) (harr : (Cond.arrayClass .int).before args s = true) (hKI : va_K D cl tys s) (t1 : Nat) (ht1 : tys[t1]? = some (cI, .int)) (hKS : tc_KS D cI cII cZ s) (hS : va_S A H0 H locs) (hA : ∀ q, H0.size ≤ q → A q)
    {n k : Int32} {N M : Nat} (hn : ¬ n < 0) (hk : ¬ k < 0) (hN : n.toNatClampNeg = N) (hM : k.toNatClampNeg = M) (hb1 : N * 4 ≤ 536870912) (hb2 : M * 4 ≤ 536870912) (hb3 : M ≤ 536870912) (hcells : cells + (1 + N) ≤ R.cells) (hslots : slots + (N + N * M) ≤ R.slots) (hdg : decode cc pc = .ok (.multianewarray index 2, 4))
    (kk : ∀ (q : Nat) (r : Nat → Nat) (H1 : Heap), H.size ≤ q → A q → (∀ j, H.size ≤ r j ∧ A (r j) ∧ r j ≠ q) → (∀ i j, r i = r j → i = j) → va_at D cl (q, .inl (cII, N, .inr (.inr (.inr (.inr (fun j => some (r j))))))) H1 → (∀ j, j < N → va_at D cl (r j, .inl (cI, M, .inl (fun _ : Nat => (0 : Int32)))) H1) → (∀ z, z < H.size → H1[z]? = H[z]?) → va_S A H0 H1 locs →
      W p l e R s m args below meth c H1 locs (cells + 1 + N) (slots + N + N * M) Q (F0 m (pc + 4) ls (.ref q :: rest))) : W p l e R s m args below meth c H locs cells slots Q (F0 m pc ls (.int k :: .int n :: rest)) := by
  subst hN
  subst hM
  intro T hT Xs
  obtain ⟨vm₁, cA, comp, -, fA, fC, hO, -, X', step⟩ := Xs.multianewarray2F (ty := .int) hexec hown (by rw [tc_strAI.2.1]; exact hclink) hKS.2.1.use harr (g := F0 m pc ls (.int k :: .int n :: rest)) rfl (by rw [hb]; exact hdg) rfl hn hk hb1 hb2 hb3 rfl rfl hcells hslots
  have ec : comp = cI := Option.some.inj (fC.symm.trans (hKI.2 t1 _ ht1).2)
  have ea : cA = cII := Option.some.inj (fA.symm.trans (hKS.1.2 0 _ rfl).2)
  subst ec
  subst ea
  generalize hF : Jvm.Free.Multi.fill (T.setVm vm₁) cA comp n.toNatClampNeg k.toNatClampNeg (defaultValue .int) n.toNatClampNeg = F at X' step
  have hTh : (T.setVm vm₁).heap = H := hT
  obtain ⟨f1, f2, -, -⟩ := Jvm.Free.Multi.fill_facts (T.setVm vm₁) cA comp n.toNatClampNeg k.toNatClampNeg (defaultValue .int) n.toNatClampNeg
  rw [hF, hTh] at f1 f2
  have hold : ∀ x : Nat, x < H.size → F.heap[x]? = H[x]? := fun x hx => by
    have := Jvm.Free.Multi.fill_old (T.setVm vm₁) cA comp n.toNatClampNeg k.toNatClampNeg (defaultValue .int) (a := x) (by rw [hTh]; exact hx) n.toNatClampNeg
    rw [hF, hTh] at this
    exact this
  have hrow : ∀ j : Nat, j < n.toNatClampNeg → va_at D cl (H.size + 1 + j, .inl (comp, k.toNatClampNeg, .inl (fun _ : Nat => (0 : Int32)))) F.heap := fun j hj => by
    have := Jvm.Free.Multi.fill_inner (T.setVm vm₁) cA comp n.toNatClampNeg k.toNatClampNeg (defaultValue .int) n.toNatClampNeg j hj
    rw [hF, hTh] at this
    show F.heap[H.size + 1 + j]? = some (vp_cell _ _)
    rw [this, vp_cell_i, ← arrV_new]
    rfl
  have hout : va_at D cl (H.size, .inl (cA, n.toNatClampNeg, .inr (.inr (.inr (.inr (fun j => some (H.size + 1 + j))))))) F.heap := by
    show F.heap[H.size]? = some (vp_cell _ _)
    rw [f2, vp_cell_q, vr_outer]
    congr 1
    unfold arrV
    congr 1
    apply Array.ext
    · simp
    · intro i h1 h2
      have hi : i < n.toNatClampNeg := by simpa using h1
      simp only [Array.getElem_ofFn]
      rw [if_pos hi]
  have hS1 : va_S A H0 F.heap locs := ⟨Nat.le_trans hS.1 (by rw [f1]; omega), fun x h1 h2 => (hold x (Nat.lt_of_lt_of_le h1 hS.1)).trans (hS.2.1 x h1 h2), hS.2.2⟩
  obtain ⟨t, a1, b1⟩ := kk H.size (fun j => H.size + 1 + j) F.heap (Nat.le_refl _) (hA _ hS.1) (fun j => ⟨by omega, hA _ (by have := hS.1; omega), by omega⟩) (fun i j h => by have h9 : H.size + 1 + i = H.size + 1 + j := h; omega) hout hrow hold hS1 F rfl X'
  refine ⟨t, step t ?_, b1⟩
  have e9 : T.heap.size = H.size := by rw [hT]
  rw [e9]
  exact a1
theorem tc_iald2 {j : Nat} {i : Int32} (hj : i.toNatClampNeg = j) (hexec : p.tables.exec = Jvm.exec) (hb : c.code = cc) (hK : va_K D cl tys s) {cA : ClassId} {n : Nat} {f : Nat → Int32} (he : va_at D cl (a, .inl (cA, n, .inl f)) H) (t0 : Nat) (ht : tys[t0]? = some (cA, .int)) (hin : ¬ i < 0 ∧ j < n) (hdg : decode cc pc = .ok (.iaload, 1))
    (kk : W p l e R s m args below meth c H locs cells slots Q (F0 m (pc + 1) ls (.int (f j) :: rest))) : W p l e R s m args below meth c H locs cells slots Q (F0 m pc ls (.int i :: .ref a :: rest)) := by
  subst hj; exact tc_iald hexec hb hK he t0 ht hin hdg kk
theorem tc_zald2 {j : Nat} {i : Int32} (hj : i.toNatClampNeg = j) (hexec : p.tables.exec = Jvm.exec) (hb : c.code = cc) (hK : va_K D cl tys s) {cA : ClassId} {n : Nat} {f : Nat → Int32} (he : va_at D cl (a, .inl (cA, n, .inl f)) H) (t0 : Nat) (ht : tys[t0]? = some (cA, .boolean)) (hin : ¬ i < 0 ∧ j < n) (hdg : decode cc pc = .ok (.baload, 1))
    (kk : W p l e R s m args below meth c H locs cells slots Q (F0 m (pc + 1) ls (.int (f j) :: rest))) : W p l e R s m args below meth c H locs cells slots Q (F0 m pc ls (.int i :: .ref a :: rest)) := by
  subst hj; exact tc_zald hexec hb hK he t0 ht hin hdg kk
theorem tc_iast2 {j : Nat} {i : Int32} (hj : i.toNatClampNeg = j) (hexec : p.tables.exec = Jvm.exec) (hb : c.code = cc) (hK : va_K D cl tys s) {cA : ClassId} {n : Nat} {f : Nat → Int32} (he : va_at D cl (a, .inl (cA, n, .inl f)) H) (hS : va_S A H0 H locs) (ha : A a) (t0 : Nat) (ht : tys[t0]? = some (cA, .int)) {x : Int32} (hin : ¬ i < 0 ∧ j < n) (hdg : decode cc pc = .ok (.iastore, 1))
    (kk : ∀ (H1 : Heap) (locs1 : List Loc), va_at D cl (a, .inl (cA, n, .inl (upd f j x))) H1 → H1.size = H.size → (∀ q, q ≠ a → H1[q]? = H[q]?) → va_S A H0 H1 locs1 → W p l e R s m args below meth c H1 locs1 cells slots Q (F0 m (pc + 1) ls rest)) : W p l e R s m args below meth c H locs cells slots Q (F0 m pc ls (.int x :: .int i :: .ref a :: rest)) := by
  subst hj; exact tc_iast hexec hb hK he hS ha t0 ht hin hdg kk
theorem tc_zast2 {j : Nat} {i : Int32} (hj : i.toNatClampNeg = j) (hexec : p.tables.exec = Jvm.exec) (hb : c.code = cc) (hK : va_K D cl tys s) {cA : ClassId} {n : Nat} {f : Nat → Int32} (he : va_at D cl (a, .inl (cA, n, .inl f)) H) (hS : va_S A H0 H locs) (ha : A a) (t0 : Nat) (ht : tys[t0]? = some (cA, .boolean)) {x : Int32} (hx01 : x = 0 ∨ x = 1) (hin : ¬ i < 0 ∧ j < n) (hdg : decode cc pc = .ok (.bastore, 1))
    (kk : ∀ (H1 : Heap) (locs1 : List Loc), va_at D cl (a, .inl (cA, n, .inl (upd f j x))) H1 → H1.size = H.size → (∀ q, q ≠ a → H1[q]? = H[q]?) → va_S A H0 H1 locs1 → W p l e R s m args below meth c H1 locs1 cells slots Q (F0 m (pc + 1) ls rest)) : W p l e R s m args below meth c H locs cells slots Q (F0 m pc ls (.int x :: .int i :: .ref a :: rest)) := by
  subst hj; exact tc_zast hexec hb hK he hS ha t0 ht hx01 hin hdg kk
theorem tc_aaldA2 {j : Nat} {i : Int32} {q : Nat} (hj : i.toNatClampNeg = j) (hexec : p.tables.exec = Jvm.exec) (hb : c.code = cc) (hK : va_K D cl tys s) {cA : ClassId} {n : Nat} {f : Nat → Option Nat} (he : va_at D cl (a, .inl (cA, n, .inr (.inr (.inr (.inr f))))) H) (t0 : Nat) {C : FieldType} (ht : tys[t0]? = some (cA, .array C)) (hin : ¬ i < 0 ∧ j < n) (hdg : decode cc pc = .ok (.aaload, 1)) (hq : f j = some q)
    (kk : W p l e R s m args below meth c H locs cells slots Q (F0 m (pc + 1) ls (.ref q :: rest))) : W p l e R s m args below meth c H locs cells slots Q (F0 m pc ls (.int i :: .ref a :: rest)) := by
  subst hj; exact tc_aaldA hexec hb hK he t0 ht hin hdg hq kk
theorem tc_aastA2 {j : Nat} {i : Int32} (hj : i.toNatClampNeg = j) (hexec : p.tables.exec = Jvm.exec) (hb : c.code = cc) (hKI : va_K D cl tys s) (t1 : Nat) (ht1 : tys[t1]? = some (cI, .int)) (hKS : tc_KS D cI cII cZ s) {n : Nat} {f : Nat → Option Nat} (he : va_at D cl (a, .inl (cII, n, .inr (.inr (.inr (.inr f))))) H) (hS : va_S A H0 H locs) (ha : A a) {v nv : Nat} {fv : Nat → Int32} (hv : va_at D cl (v, .inl (cI, nv, .inl fv)) H) (hin : ¬ i < 0 ∧ j < n) (hdg : decode cc pc = .ok (.aastore, 1))
    (kk : ∀ (H1 : Heap) (locs1 : List Loc), va_at D cl (a, .inl (cII, n, .inr (.inr (.inr (.inr (va_up f j (some v))))))) H1 → H1.size = H.size → (∀ q, q ≠ a → H1[q]? = H[q]?) → va_S A H0 H1 locs1 → W p l e R s m args below meth c H1 locs1 cells slots Q (F0 m (pc + 1) ls rest)) : W p l e R s m args below meth c H locs cells slots Q (F0 m pc ls (.ref v :: .int i :: .ref a :: rest)) := by
  subst hj; exact tc_aastA hexec hb hKI t1 ht1 hKS he hS ha hv hin hdg kk
theorem tc_hideQ {R9 : Room} {g : JFrame} (hR : R = R9) (k : ∀ QQ : State → Prop, QQ = Q → W p l e R9 s m args below meth c H locs cells slots QQ g) : W p l e R s m args below meth c H locs cells slots Q g := by
  subst hR; exact k Q rfl
end TC2
/-! a value's way to a merge; a reader that answers -/
def tc_jn {α β : Type} (K : α) (b : α → β) : β := b K
theorem tc_jx {α β : Type} {K : α} {b : α → β} {r : β} (h : tc_jn K b = r) : ∃ kc, kc = K ∧ b kc = r := ⟨K, rfl, h⟩
def tc_rd (o : Option (Nat × Int32)) : Option Int32 := match o with
  | some (0, r) => some r
  | _ => none
theorem tc_rdx {o : Option (Nat × Int32)} {r : Int32} (h : tc_rd o = some r) : o = some (0, r) := by
  unfold tc_rd at h
  split at h
  · cases h; rfl
  · cases h
def tc_af (F : Nat → Nat) (o : Option Nat) : Option Nat := o.map F
theorem tc_acmp {D : va_G} {cI cII cZ : ClassId} {A : Nat → Prop} {F : Nat → Nat} {z : tc_Z} {H : Heap} (h : tc_WS D cI cII cZ A F z H) {o : Option Nat} (ho : ∀ j, o = some j → tc_isc z j) {i : Nat} (hi : tc_isr z i) : (some (F i) = tc_af F o) ↔ o = some i := by
  cases o with
  | none => exact ⟨fun h9 => absurd (show some (F i) = none from h9) (by simp), fun h9 => absurd h9 (by simp)⟩
  | some j =>
    refine ⟨fun e => ?_, fun e => by cases e; rfl⟩
    have e2 : F i = F j := Option.some.inj e
    rw [h.inj hi.sl (ho j rfl).2 e2]
section TC3
variable {p : Program} {l : Launch} {e : Env} {R : Room} {s : State} {m : MethodId} {args : Array Value} {below : List Frame} {meth : Method} {c : Code} {H : Heap} {locs : List Loc} {cells slots : Nat} {Q : State → Prop}
variable {cc : ByteArray} {pc : Nat} {ls : Array Slot} {rest : List Value} {A0 A1 : Nat → Prop} {H0 : Heap}
theorem tc_aloadO (hexec : p.tables.exec = Jvm.exec) (hb : c.code = cc) {i nL : Nat} {o : Option Nat} {lv : List (Nat × Value)} (hdg : decode cc pc = .ok (.aload i, 2)) (hl : ls[i]? = some (.val (va_rf o)))
    (kk : W p l e R s m args below meth c H locs cells slots Q (F0 m (pc + 2) ls (va_rf o :: rest))) : W p l e R s m args below meth c H locs cells slots Q (F0 m pc ls rest) := by
  cases o with
  | none => exact lv_aloadN hexec hb hdg hl kk
  | some j => exact lv_aload hexec hb hdg hl kk
theorem tc_aloadO_n (hexec : p.tables.exec = Jvm.exec) (hb : c.code = cc) {i : Nat} {n : Fin 4} {o : Option Nat} (hdg : decode cc pc = .ok (.aload_n n, 1)) (hi : n.val = i) (hl : ls[i]? = some (.val (va_rf o)))
    (kk : W p l e R s m args below meth c H locs cells slots Q (F0 m (pc + 1) ls (va_rf o :: rest))) : W p l e R s m args below meth c H locs cells slots Q (F0 m pc ls rest) := by
  cases o with
  | none => exact lv_aload_nN hexec hb hdg hi hl kk
  | some j => exact lv_aload_n hexec hb hdg hi hl kk
theorem tc_astoreO (hexec : p.tables.exec = Jvm.exec) (hb : c.code = cc) {i nL : Nat} {o : Option Nat} {lv lv' : List (Nat × Value)} (hdg : decode cc pc = .ok (.astore i, 2)) (h : lv_has ls nL lv) (hn : i < nL) (hl : (i, va_rf o) :: lv.filter (fun q => !(q.1 == i) && !(q.1 + 1 == i && q.2.category == 2)) = lv')
    (kk : ∀ ls' : Array Slot, lv_has ls' nL lv' → W p l e R s m args below meth c H locs cells slots Q (F0 m (pc + 2) ls' rest)) : W p l e R s m args below meth c H locs cells slots Q (F0 m pc ls (va_rf o :: rest)) := by
  cases o with
  | none => exact lv_astoreN hexec hb hdg h hn hl kk
  | some j => exact lv_astore hexec hb hdg h hn hl kk
/-- what a method that makes a row answers -/
def tc_Qn (B : Nat → Heap → Prop) (A : Nat → Prop) : Array Value → State → Outcome → State → Prop := fun _ st oc t => (∃ q, oc = .returned (some (.ref q)) ∧ (st.heap.size ≤ q ∧ A q) ∧ B q t.heap) ∧ va_F (fun z => st.heap.size ≤ z) st t
theorem tc_cn {mc ms : Nat} {free : Addr → Prop} {a : Array Value} {st0 : List Value} {B : Nat → Heap → Prop} (hr : va_Run p l e R s m args below meth c H locs cells slots mc ms (F0 m pc ls st0) rest (tc_Qn B A1 a) free) (hS : va_S A0 H0 H locs) (hf : ∀ q, free q → A0 q)
    (kk : ∀ (q : Nat) (H1 : Heap) (locs1 : List Loc), (H.size ≤ q ∧ A1 q) → B q H1 → (∀ z : Nat, z < H.size → H1[z]? = H[z]?) → va_S A0 H0 H1 locs1 → W p l e R s m args below meth c H1 locs1 (cells + mc) (slots + ms) Q (F0 m (pc + 3) ls (.ref q :: rest))) : W p l e R s m args below meth c H locs cells slots Q (F0 m pc ls st0) := by
  intro T hT X
  obtain ⟨v, st₀, t, T', L, h0, X', hL, e1, e2, ⟨⟨q, hv, hq, hb⟩, hF⟩, st⟩ := hr T hT X
  cases hv
  rw [h0] at hF hq
  obtain ⟨k1, k2, k3⟩ := vx_keep h0 e1 hS (A1 := fun z => H.size ≤ z) (fun z h1 h2 => absurd h1 (Nat.not_lt.mpr h2)) hf hL hF
  obtain ⟨t2, a1, b1⟩ := kk q T'.heap (locs ++ L) hq (by rw [e1]; exact hb) (fun z hz => k2 z hz (Nat.not_le.mpr hz)) k3 T' rfl X'
  exact ⟨t2, st t2 a1, b1⟩
end TC3
theorem tc_rowset {D : va_G} {cl : List vw_C} {cI : ClassId} {N M j0 : Nat} {r : Nat → Nat} {f : Nat → Nat → Int32} {g : Nat → Int32} {H H1 : Heap} (hri : ∀ i j, r i = r j → i = j) (he : ∀ j, j < N → va_at D cl (r j, .inl (cI, M, .inl (f j))) H) (e1 : va_at D cl (r j0, .inl (cI, M, .inl g)) H1) (o : ∀ q, q ≠ r j0 → H1[q]? = H[q]?) : ∀ j, j < N → va_at D cl (r j, .inl (cI, M, .inl (va_up f j0 g j))) H1 := fun j hj => by
  by_cases h : j = j0
  · subst h; rw [va_up_self]; exact e1
  · rw [va_up_ne _ _ h]; exact (he j hj).kept (o _ (fun q => h (hri _ _ q)))
/-! ===== both worlds ===== -/
def tc_A1 (A : Nat → Prop) (F : Nat → Nat) (z : tc_Z) (q : Nat) : Prop := A q ∧ ∀ i, tc_sl z i → q ≠ F i
def tc_WL (D : va_G) (cU cO cI cII cZ : ClassId) (e0 : Nat) (A : Nat → Prop) (E F : Nat → Nat) (x : tc_X) (z : tc_Z) (H : Heap) : Prop := tc_WC D cU cO e0 (tc_A1 A F z) E x H ∧ tc_WS D cI cII cZ A F z H ∧ ¬ A e0
section TWL
variable {D : va_G} {cU cO cI cII cZ : ClassId} {e0 : Nat} {A A' : Nat → Prop} {E E9 F F' : Nat → Nat} {x x' : tc_X} {z z' : tc_Z} {H H1 : Heap}
theorem tc_WL.newA (h : tc_WL D cU cO cI cII cZ e0 A E F x z H) (hA : ∀ q, H.size ≤ q → A q) : ∀ q, H.size ≤ q → tc_A1 A F z q := fun q hq => ⟨hA q hq, fun i hi e => absurd (h.2.1.lt hi) (Nat.not_lt.mpr (by rw [← e]; exact hq))⟩
theorem tc_WL.neE (h : tc_WL D cU cO cI cII cZ e0 A E F x z H) {q : Nat} (hq : H.size ≤ q) : ∀ j, tc_lv x j → E j ≠ q := h.1.ne hq
theorem tc_WL.neF (h : tc_WL D cU cO cI cII cZ e0 A E F x z H) {q : Nat} (hq : H.size ≤ q) : ∀ i, tc_sl z i → F i ≠ q := fun i hi e => absurd (h.2.1.lt hi) (Nat.not_lt.mpr (by rw [e]; exact hq))
theorem tc_WL.nEF (h : tc_WL D cU cO cI cII cZ e0 A E F x z H) {i j : Nat} (hj : tc_lv x j) (hi : tc_sl z i) : E j ≠ F i := (h.1.own hj).2 i hi
/-- behind a call of the class -/
theorem tc_WL.afterC (h : tc_WL D cU cO cI cII cZ e0 A E F x z H) (hB : tc_WC D cU cO e0 (tc_A1 A F z) E9 x' H1) (o : ∀ q : Nat, q < H.size → ¬ tc_A1 A F z q → H1[q]? = H[q]?) : tc_WL D cU cO cI cII cZ e0 A E9 F x' z H1 :=
  ⟨hB, h.2.1.kept (fun i hi => o _ (h.2.1.lt hi) (fun q => q.2 i hi rfl)), h.2.2⟩
theorem tc_WL.grown (h : tc_WL D cU cO cI cII cZ e0 A E F x z H) (o : ∀ q, q < H.size → H1[q]? = H[q]?) : tc_WL D cU cO cI cII cZ e0 A E F x z H1 := ⟨h.1.grown o, h.2.1.grown o, h.2.2⟩
theorem tc_WL.reA (h : tc_WL D cU cO cI cII cZ e0 A E F x z H) (q : ∀ j, tc_lv x j → A' (E j)) (q2 : ∀ i, tc_sl z i → A' (F i)) (he : ¬ A' e0) : tc_WL D cU cO cI cII cZ e0 A' E F x z H := ⟨h.1.reA (fun j hj => ⟨q j hj, (h.1.own hj).2⟩) (fun e => he e.1), h.2.1.reA q2, he⟩
theorem tc_WL.up (h : tc_WL D cU cO cI cII cZ e0 A E F x z H) (hs : ∀ q, A q → A' q) (he : ¬ A' e0) : tc_WL D cU cO cI cII cZ e0 A' E F x z H := h.reA (fun j hj => hs _ (h.1.own hj).1) (fun i hi => hs _ (h.2.1.own hi)) he
/-- another cell changes, out of the region -/
theorem tc_WL.tmp (h : tc_WL D cU cO cI cII cZ e0 A E F x z H) {q : Nat} (hq : ¬ A q) (o : ∀ a, a ≠ q → H1[a]? = H[a]?) : tc_WL D cU cO cI cII cZ e0 A E F x z H1 :=
  ⟨h.1.kept2 (fun j hj => o _ (fun e => hq (by rw [← e]; exact (h.1.own hj).1))), h.2.1.kept (fun i hi => o _ (fun e => hq (by rw [← e]; exact h.2.1.own hi))), h.2.2⟩
/-- behind a step of the law's own -/
theorem tc_WL.simS (h : tc_WL D cU cO cI cII cZ e0 A E F x z H) (hS : tc_WS D cI cII cZ A F' z' H1) (o : ∀ j, tc_lv x j → H1[E j]? = H[E j]?) (hn : ∀ j i, tc_lv x j → tc_sl z' i → E j ≠ F' i) : tc_WL D cU cO cI cII cZ e0 A E F' x z' H1 :=
  ⟨(h.1.kept2 o).reA (fun j hj => ⟨(h.1.own hj).1, fun i hi => hn j i hj hi⟩) (fun q => h.2.2 q.1), hS, h.2.2⟩
theorem tc_WL.at1 (h : tc_WL D cU cO cI cII cZ e0 A E F x z H) {i : Nat} (hi : tc_sl z i) (hz : tc_zn z' = tc_zn z) (hS : tc_WS D cI cII cZ A F z' H1) (o : ∀ q, q ≠ F i → H1[q]? = H[q]?) : tc_WL D cU cO cI cII cZ e0 A E F x z' H1 :=
  h.simS hS (fun j hj => o _ (h.nEF hj hi)) (fun j k hj hk => h.nEF hj (show k < 21 + tc_zn z by rw [← hz]; exact hk))
theorem tc_WL.sQ (h : tc_WL D cU cO cI cII cZ e0 A E F x z H) {p q n : Nat} {f : Nat → Int32} (hp : p < 16) (hq : A q) (hc : ∀ j, tc_lv x j → E j ≠ q) (hn : ∀ i, tc_sl z i → F i ≠ q) (e1 : va_at D vwCl (F 1, .inl (cII, 16, .inr (.inr (.inr (.inr (va_up (fun p => some (F (5 + p))) p (some q))))))) H1) (o : ∀ a, a ≠ F 1 → H1[a]? = H[a]?) (et : va_at D vwCl (q, .inl (cI, n, .inl f)) H1) : tc_WL D cU cO cI cII cZ e0 A E (va_up F (5 + p) q) x (tc_zR z (5 + p) n f) H1 :=
  h.simS (h.2.1.sQ hp e1 o et hq hn) (fun j hj => o _ (h.nEF hj (tc_slf (by decide)))) (fun j i hj hi => by
    by_cases e : i = 5 + p
    · subst e; rw [va_up_self]; exact hc j hj
    · rw [va_up_ne _ _ e]; exact h.nEF hj hi)
theorem tc_WL.sW (h : tc_WL D cU cO cI cII cZ e0 A E F x z H) {q n : Nat} {f : Nat → Int32} (hq : A q) (hc : ∀ j, tc_lv x j → E j ≠ q) (hn : ∀ i, tc_sl z i → F i ≠ q) (e1 : va_at D vwCl (F 0, .inr (4, [.int (z.1 0), .int (z.1 1), .ref (F 1), .ref q, .ref (F 3), .ref (F 4)])) H1) (o : ∀ a, a ≠ F 0 → H1[a]? = H[a]?) (et : va_at D vwCl (q, .inl (cI, n, .inl f)) H1) : tc_WL D cU cO cI cII cZ e0 A E (va_up F 2 q) x (tc_zR z 2 n f) H1 :=
  h.simS (h.2.1.sW e1 o et hq hn) (fun j hj => o _ (h.nEF hj (tc_slf (by decide)))) (fun j i hj hi => by
    by_cases e : i = 2
    · subst e; rw [va_up_self]; exact hc j hj
    · rw [va_up_ne _ _ e]; exact h.nEF hj hi)
end TWL
section TKX
variable {D : va_G} {cU cO cI : ClassId} {e0 : Nat} {A A' : Nat → Prop}
theorem tc_KX.narrow {U : State} (h : tc_KX D cU cO cI e0 A U) (hs : ∀ q, A' q → A q) (hA : ∀ q, U.heap.size ≤ q → A' q) : tc_KX D cU cO cI e0 A' U := by
  obtain ⟨h1, h2, h3, h4, h5, h6, h0, h7, h8, h9, g1, g⟩ := h
  exact ⟨h1, hA, h3.narrow hs, h4.narrow hs, h5.narrow hs, h6, h0, h7, h8, h9, g1.narrow hs, g⟩
theorem tc_KX.drawn {s : State} (h : tc_KX D cU cO cI e0 A s) (d : Drawn) : tc_KX D cU cO cI e0 A (s.setDrawn d) := by
  obtain ⟨h1, h2, h3, h4, h5, h6, h0, h7, h8, h9, g1, ⟨mi, g2⟩, g3, g4, g5, g6, g7⟩ := h
  have al : s.vm.Alike (s.setDrawn d).vm := Vm.Alike.refl s.vm
  exact ⟨⟨va_K.moved al h1.1, va_Nw.same rfl rfl h1.2.1, va_Nw.same rfl rfl h1.2.2⟩, h2, vx_Zq.moved al h3, vx_Zq.moved al h4, va_Z.moved al h5, fun q hq => (h6 q hq).elim fun sa z => ⟨sa, vk_R.same rfl z⟩, fun n hn => va_Nw.same rfl rfl (h0 n hn), va_Nw.same rfl rfl h7, va_Nw.same rfl rfl h8, va_Nw.same rfl rfl h9, va_T.moved al g1, ⟨mi, va_Mi.moved al g2⟩, va_Dc.moved al g3, va_AO.moved al g4, va_AO.moved al g5, va_Nw.same rfl rfl g6, va_Nw.same rfl rfl g7⟩
end TKX
