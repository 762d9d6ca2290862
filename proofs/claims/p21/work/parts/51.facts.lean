/-! What the tables give at the law's entry (written by wip/p21/run6.py, after whole's part 18). -/
theorem tc_str {s : State} {args : Array Value} {k : Nat} {tx : String} (h1 : (Cond.stringRef RX2 k tx).before args s = true) (h2 : (Cond.exactly (.string RX2 k) "java/lang/String").before args s = true) : ∃ sa, vk_R RX2 k tx sa s := by
  obtain ⟨a, c, cA, kA, q1, q2, q3, q4, q5, q6, -⟩ := Cond.exactly_spec (args := args) (first := s) (o := none) (s := s) (idx := []) (t := .string RX2 k) (cls := "java/lang/String") h2
  exact ⟨a, vk_R.of h1 q1⟩
theorem tc_arrO {s : State} {args : Array Value} {C : String} (h : (Cond.arrayOver (.object C)).before args s = true) : ∃ cA : ClassId, ArrOfT s cA (.object C) ∧ va_RA s cA (.object C) := by
  obtain ⟨comp, c, k, h1, h2, h3, h4, h5⟩ := Cond.arrayOver_spec h
  exact ⟨c, fun N z => ⟨(fun k h => by cases h), k, h3, comp, h4⟩, k, comp, h3, h4, h1, h5⟩
theorem tc_arrI {s : State} {args : Array Value} (h : (Cond.arrayClass .int).before args s = true) : ∃ cA : ClassId, ArrOfT s cA .int ∧ va_RA s cA .int := by
  obtain ⟨c, k, comp, h1, h2, h3⟩ := Cond.arrayClass_spec h
  exact ⟨c, fun N z => ⟨(fun k h => by cases h), k, h2, comp, h3⟩, h1⟩
theorem tc_arrZ {s : State} {args : Array Value} (h : (Cond.arrayClass .boolean).before args s = true) : ∃ cA : ClassId, ArrOfT s cA .boolean ∧ va_RA s cA .boolean := by
  obtain ⟨c, k, comp, h1, h2, h3⟩ := Cond.arrayClass_spec h
  exact ⟨c, fun N z => ⟨(fun k h => by cases h), k, h2, comp, h3⟩, h1⟩
theorem tc_arrII {s : State} {args : Array Value} {cI : ClassId} (h : (Cond.arrayOver (.array .int)).before args s = true) (hI : s.vm.findClass (FieldType.array .int).toString = some cI) : ∃ cA : ClassId, ArrOfT s cA (.array .int) ∧ va_RA s cA (.array .int) ∧ ∃ kA : Class, s.vm.classes[cA]? = some kA ∧ kA.kind = .array cI (.array .int) := by
  obtain ⟨comp, c, k, h1, h2, h3, h4, h5⟩ := arrayOverA_spec h
  have e : comp = cI := Option.some.inj (h1.symm.trans hI)
  subst e
  exact ⟨c, fun N z => ⟨(fun k h => by cases h), k, h3, comp, h4⟩, h5, k, h3, h4⟩
set_option maxHeartbeats 8000000 in
set_option maxRecDepth 100000 in
theorem tc_facts {p : Program} {s : State} {m : MethodId} {meth : Method} {c : Code} {b L : Nat} {xs : Nat → Int32} (C0 : lw_At p s m meth c b L xs) : ∃ (D : va_G) (cU cO cI cII cZ : ClassId) (e0 : Nat), tc_KX D cU cO cI e0 (fun q => s.heap.size ≤ q) s ∧ tc_KS D cI cII cZ s ∧ e0 < s.heap.size ∧ va_Nw (.methodLinkNest RL 99 yX3_init RL) s := by
  obtain ⟨hx, hb, hr, hml, hown, hts, hX, hbl, hlocks, hgv⟩ := id C0
  have hs := flat_of_before _ hgv
  have hA : ∀ a : Nat, a < s.heap.size → ¬ (fun q : Nat => s.heap.size ≤ q) a := fun a h => Nat.not_le.mpr h
  obtain ⟨c0, i0, k0⟩ := u_known (C := RJx4a65c) (T := TJx4a65c) (N := 3) (n := 3) hts inJx4a65c (hts (.instantiable RJx4a65c 3) (by decide +kernel))
  obtain ⟨c1, i1, k1⟩ := u_known (C := RX0) (T := TX0) (N := 7) (n := 7) hts inX0 (hts (.instantiable RX0 7) (by decide +kernel))
  obtain ⟨c2, i2, k2⟩ := u_known (C := RX1) (T := TX1) (N := 8) (n := 8) hts inX1 (hts (.instantiable RX1 8) (by decide +kernel))
  obtain ⟨c3, i3, k3⟩ := u_known (C := RX2) (T := TX2) (N := 4) (n := 4) hts inX2 (hts (.instantiable RX2 4) (by decide +kernel))
  obtain ⟨c4, i4, k4⟩ := u_known (C := RX3) (T := TX3) (N := 6) (n := 6) hts inX3 (hts (.instantiable RX3 6) (by decide +kernel))
  have hAOB := hts (.arrayOver (.object "TreadCranes$Barrel")) (by decide +kernel)
  have hAOO := hts (.arrayOver (.object "java/lang/Object")) (by decide +kernel)
  obtain ⟨cU, hU1, hU2⟩ := tc_arrO hAOB
  obtain ⟨cO, hO1, hO2⟩ := tc_arrO hAOO
  obtain ⟨cI, hI1, hI2⟩ := tc_arrI (hts (.arrayClass .int) (by decide +kernel))
  obtain ⟨cZ, hZ1, hZ2⟩ := tc_arrZ (hts (.arrayClass .boolean) (by decide +kernel))
  have hAOA := hts (.arrayOver (.array .int)) (by decide +kernel)
  obtain ⟨cII, hJ1, hJ2, hJ3⟩ := tc_arrII hAOA hI2
  obtain ⟨D, hKc⟩ : ∃ D : va_G, ∀ (k : Nat) (q : vw_C), vwCl[k]? = some q → u_Kn s q.1 q.2.1 q.2.2 (D.1 k) (D.2 k) := by
    refine ⟨(fun k => if k = 0 then c0 else if k = 1 then c1 else if k = 2 then c2 else if k = 3 then c3 else c4, fun k => if k = 0 then i0 else if k = 1 then i1 else if k = 2 then i2 else if k = 3 then i3 else i4), ?_⟩
    intro k q hq
    match k, hq with
    | 0, hq => cases hq; exact k0
    | 1, hq => cases hq; exact k1
    | 2, hq => cases hq; exact k2
    | 3, hq => cases hq; exact k3
    | 4, hq => cases hq; exact k4
    | k + 5, hq => simp [vwCl] at hq
  obtain ⟨e0, he0, hT⟩ := va_Tof (N := 0) (f := fun _ => .null) (A := fun q => s.heap.size ≤ q) (by decide) (hs (.arrayOf (.static "java/util/ArrayList" "DEFAULTCAPACITY_EMPTY_ELEMENTDATA" "[Ljava/lang/Object;") (.object "java/lang/Object")) (by decide +kernel)) (va_eqt (hs (.eq (.length (.static "java/util/ArrayList" "DEFAULTCAPACITY_EMPTY_ELEMENTDATA" "[Ljava/lang/Object;")) (.int 0)) (by decide +kernel))) (fun j hj => absurd hj (Nat.not_lt_zero _)) hA
  have hZ : va_Z "java/util/ArrayList" "DEFAULTCAPACITY_EMPTY_ELEMENTDATA" "[Ljava/lang/Object;" (.ref e0) (fun q => s.heap.size ≤ q) s s.heap := va_Zof (hts (.laysStatic "java/util/ArrayList" "DEFAULTCAPACITY_EMPTY_ELEMENTDATA" "[Ljava/lang/Object;") (by decide +kernel)) (hts (.initialized "java/util/ArrayList") (by decide +kernel)) he0 hA
  have hUS : vx_Zq Bundle.tN "UNASSIGNED_STACK" Bundle.steD (fun q => s.heap.size ≤ q) s s.heap := vx_Zqof (hts (.laysStatic "java/lang/Throwable" "UNASSIGNED_STACK" "[Ljava/lang/StackTraceElement;") (by decide +kernel)) (hts (.initialized "java/lang/Throwable") (by decide +kernel)) (hs (.isRef (.static "java/lang/Throwable" "UNASSIGNED_STACK" "[Ljava/lang/StackTraceElement;")) (by decide +kernel)) hA
  have hSS : vx_Zq Bundle.tN "SUPPRESSED_SENTINEL" Bundle.listD (fun q => s.heap.size ≤ q) s s.heap := vx_Zqof (hts (.laysStatic "java/lang/Throwable" "SUPPRESSED_SENTINEL" "Ljava/util/List;") (by decide +kernel)) (hts (.initialized "java/lang/Throwable") (by decide +kernel)) (hs (.isRef (.static "java/lang/Throwable" "SUPPRESSED_SENTINEL" "Ljava/util/List;")) (by decide +kernel)) hA
  obtain ⟨mi, hMi⟩ := va_Mi.of (hs (.isRef (.mirror "[Ljava/lang/Object;")) (by decide +kernel))
  have hK : va_K D vwCl (tc_ty cU cO cI) s := ⟨hKc, fun k q hq => by
    match k, hq with
    | 0, hq => cases hq; exact ⟨hU1, hU2⟩
    | 1, hq => cases hq; exact ⟨hO1, hO2⟩
    | 2, hq => cases hq; exact ⟨hI1, hI2⟩
    | k + 3, hq => simp at hq⟩
  have hKJ : va_K D vwCl (tc_ts cII cZ) s := ⟨hKc, fun k q hq => by
    match k, hq with
    | 0, hq => cases hq; exact ⟨hJ1, hJ2⟩
    | 1, hq => cases hq; exact ⟨hZ1, hZ2⟩
    | k + 2, hq => simp at hq⟩
  have hKC : tc_KC D cU cO cI s := ⟨hK, va_Nw.of rfl (hts (.methodLinkNest RX1 34 yX2_distance RX2) (by decide +kernel)), va_Nw.of rfl (hts (.methodLinkNest RX1 45 yX2_wearInATick RX2) (by decide +kernel))⟩
  have hStr : ∀ q ∈ tc_tx, ∃ sa, vk_R RX2 q.1 q.2 sa s := List.forall_mem_cons.mpr ⟨tc_str (hts (.stringRef RX2 42 "no room for another barrel") (by decide +kernel)) (hs (.exactly (.string RX2 42) "java/lang/String") (by decide +kernel)), List.forall_mem_cons.mpr ⟨tc_str (hts (.stringRef RX2 51 "a hook is in the way") (by decide +kernel)) (hs (.exactly (.string RX2 51) "java/lang/String") (by decide +kernel)), List.forall_mem_cons.mpr ⟨tc_str (hts (.stringRef RX2 73 "no such reach or drum") (by decide +kernel)) (hs (.exactly (.string RX2 73) "java/lang/String") (by decide +kernel)), List.forall_mem_cons.mpr ⟨tc_str (hts (.stringRef RX2 79 "no room for another crane") (by decide +kernel)) (hs (.exactly (.string RX2 79) "java/lang/String") (by decide +kernel)), List.forall_mem_cons.mpr ⟨tc_str (hts (.stringRef RX2 103 "the place is out of reach") (by decide +kernel)) (hs (.exactly (.string RX2 103) "java/lang/String") (by decide +kernel)), List.forall_mem_cons.mpr ⟨tc_str (hts (.stringRef RX2 118 "a place is in the way") (by decide +kernel)) (hs (.exactly (.string RX2 118) "java/lang/String") (by decide +kernel)), List.forall_mem_cons.mpr ⟨tc_str (hts (.stringRef RX2 126 "no such height") (by decide +kernel)) (hs (.exactly (.string RX2 126) "java/lang/String") (by decide +kernel)), List.forall_mem_cons.mpr ⟨tc_str (hts (.stringRef RX2 128 "the place below is in the way") (by decide +kernel)) (hs (.exactly (.string RX2 128) "java/lang/String") (by decide +kernel)), List.forall_mem_cons.mpr ⟨tc_str (hts (.stringRef RX2 140 "the load is too heavy") (by decide +kernel)) (hs (.exactly (.string RX2 140) "java/lang/String") (by decide +kernel)), List.forall_mem_cons.mpr ⟨tc_str (hts (.stringRef RX2 153 "no barrel can be taken") (by decide +kernel)) (hs (.exactly (.string RX2 153) "java/lang/String") (by decide +kernel)), List.forall_mem_cons.mpr ⟨tc_str (hts (.stringRef RX2 161 "no load can be set down") (by decide +kernel)) (hs (.exactly (.string RX2 161) "java/lang/String") (by decide +kernel)), List.forall_mem_cons.mpr ⟨tc_str (hts (.stringRef RX2 163 "another hook is in the way") (by decide +kernel)) (hs (.exactly (.string RX2 163) "java/lang/String") (by decide +kernel)), List.forall_mem_cons.mpr ⟨tc_str (hts (.stringRef RX2 173 "no such barrel") (by decide +kernel)) (hs (.exactly (.string RX2 173) "java/lang/String") (by decide +kernel)), List.forall_mem_cons.mpr ⟨tc_str (hts (.stringRef RX2 207 "no such place") (by decide +kernel)) (hs (.exactly (.string RX2 207) "java/lang/String") (by decide +kernel)), List.forall_mem_cons.mpr ⟨tc_str (hts (.stringRef RX2 209 "no such crane") (by decide +kernel)) (hs (.exactly (.string RX2 209) "java/lang/String") (by decide +kernel)), List.forall_mem_cons.mpr ⟨tc_str (hts (.stringRef RX2 211 "nothing is told under this number") (by decide +kernel)) (hs (.exactly (.string RX2 211) "java/lang/String") (by decide +kernel)), List.forall_mem_cons.mpr ⟨tc_str (hts (.stringRef RX2 213 "no such weight") (by decide +kernel)) (hs (.exactly (.string RX2 213) "java/lang/String") (by decide +kernel)), List.forall_mem_cons.mpr ⟨tc_str (hts (.stringRef RX2 215 "no such number of walkers") (by decide +kernel)) (hs (.exactly (.string RX2 215) "java/lang/String") (by decide +kernel)), fun _ h => absurd h List.not_mem_nil⟩⟩⟩⟩⟩⟩⟩⟩⟩⟩⟩⟩⟩⟩⟩⟩⟩⟩
  have hDn : ∀ n ∈ tc_dn, va_Nw (.declares (Bundle.initS n)) s := List.forall_mem_cons.mpr ⟨va_Nw.of rfl (hts (.declares (Bundle.initS "java/lang/RuntimeException")) (by decide +kernel)), List.forall_mem_cons.mpr ⟨va_Nw.of rfl (hts (.declares (Bundle.initS "java/lang/Exception")) (by decide +kernel)), List.forall_mem_cons.mpr ⟨va_Nw.of rfl (hts (.declares (Bundle.initS "java/lang/Throwable")) (by decide +kernel)), fun _ h => absurd h List.not_mem_nil⟩⟩⟩
  have cst : ∀ A B : String, Cond.castable A B ∈ lw_tbl → va_Nw (.castable A B) s := fun A B h => va_Nw.of rfl (hts _ h)
  obtain ⟨ce, hce, -⟩ := id hT
  refine ⟨D, cU, cO, cI, cII, cZ, e0, ⟨hKC, fun q h => h, hUS, hSS, hZ, hStr, hDn, cst _ _ (by decide +kernel), cst _ _ (by decide +kernel), cst _ _ (by decide +kernel), hT, ⟨mi, hMi⟩, va_Dc.of (hts (.declares ⟨"java/lang/Object", "getClass", "()Ljava/lang/Class;"⟩) (by decide +kernel)), va_AO.of hAOO, va_AO.of hAOB, cst _ _ (by decide +kernel), cst _ _ (by decide +kernel)⟩, ⟨hKJ, va_AOA.of hAOA, hJ3⟩, (Array.getElem?_eq_some_iff.mp hce).1, va_Nw.of rfl (hts (.methodLinkNest RL 99 yX3_init RL) (by decide +kernel))⟩
