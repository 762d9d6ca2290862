section
-- ===== PART A: goes FIRST, ahead of the names: the tables' words, and 'selects' of the private methods out of them =====
/-- a private method of a class that the tables say can be made, by its rows of tables_1 -/
def lw_okq (q : MethodName × Nat) : Prop := (q.1.cls ≠ "java/lang/invoke/MethodHandle" ∧ q.1.cls ≠ "java/lang/invoke/VarHandle") ∧ Cond.instantiable q.1.cls q.2 ∈ tables_1 ∧ Cond.privateMethod q.1 ∈ tables_1 ∧ Cond.instanceMethod q.1 ∈ tables_1
theorem lw_p0 : lw_okq (⟨"TreadCranes", "countAnswer", "(I)I"⟩, 4) := ⟨⟨by decide +kernel, by decide +kernel⟩, List.mem_of_getElem? (i := 21) (by decide +kernel), List.mem_of_getElem? (i := 98) (by decide +kernel), List.mem_of_getElem? (i := 99) (by decide +kernel)⟩
theorem lw_p1 : lw_okq (⟨"TreadCranes", "standing", "()I"⟩, 4) := ⟨⟨by decide +kernel, by decide +kernel⟩, List.mem_of_getElem? (i := 21) (by decide +kernel), List.mem_of_getElem? (i := 102) (by decide +kernel), List.mem_of_getElem? (i := 103) (by decide +kernel)⟩
theorem lw_p2 : lw_okq (⟨"TreadCranes", "heightOf", "(I)I"⟩, 4) := ⟨⟨by decide +kernel, by decide +kernel⟩, List.mem_of_getElem? (i := 21) (by decide +kernel), List.mem_of_getElem? (i := 106) (by decide +kernel), List.mem_of_getElem? (i := 107) (by decide +kernel)⟩
theorem lw_p3 : lw_okq (⟨"TreadCranes", "uppermostAt", "(I)LTreadCranes$Barrel;"⟩, 4) := ⟨⟨by decide +kernel, by decide +kernel⟩, List.mem_of_getElem? (i := 21) (by decide +kernel), List.mem_of_getElem? (i := 110) (by decide +kernel), List.mem_of_getElem? (i := 111) (by decide +kernel)⟩
theorem lw_p4 : lw_okq (⟨"TreadCranes", "hanging", "()I"⟩, 4) := ⟨⟨by decide +kernel, by decide +kernel⟩, List.mem_of_getElem? (i := 21) (by decide +kernel), List.mem_of_getElem? (i := 120) (by decide +kernel), List.mem_of_getElem? (i := 121) (by decide +kernel)⟩
theorem lw_p5 : lw_okq (⟨"TreadCranes", "highestBetween", "(II)I"⟩, 4) := ⟨⟨by decide +kernel, by decide +kernel⟩, List.mem_of_getElem? (i := 21) (by decide +kernel), List.mem_of_getElem? (i := 125) (by decide +kernel), List.mem_of_getElem? (i := 126) (by decide +kernel)⟩
theorem lw_p6 : lw_okq (⟨"TreadCranes", "placeAnswer", "(II)I"⟩, 4) := ⟨⟨by decide +kernel, by decide +kernel⟩, List.mem_of_getElem? (i := 21) (by decide +kernel), List.mem_of_getElem? (i := 135) (by decide +kernel), List.mem_of_getElem? (i := 136) (by decide +kernel)⟩
theorem lw_p7 : lw_okq (⟨"TreadCranes", "weightsAt", "(I)I"⟩, 4) := ⟨⟨by decide +kernel, by decide +kernel⟩, List.mem_of_getElem? (i := 21) (by decide +kernel), List.mem_of_getElem? (i := 142) (by decide +kernel), List.mem_of_getElem? (i := 143) (by decide +kernel)⟩
theorem lw_p8 : lw_okq (⟨"TreadCranes", "hooksOver", "(I)I"⟩, 4) := ⟨⟨by decide +kernel, by decide +kernel⟩, List.mem_of_getElem? (i := 21) (by decide +kernel), List.mem_of_getElem? (i := 146) (by decide +kernel), List.mem_of_getElem? (i := 147) (by decide +kernel)⟩
theorem lw_p9 : lw_okq (⟨"TreadCranes", "barrelAnswer", "(LTreadCranes$Barrel;I)I"⟩, 4) := ⟨⟨by decide +kernel, by decide +kernel⟩, List.mem_of_getElem? (i := 21) (by decide +kernel), List.mem_of_getElem? (i := 150) (by decide +kernel), List.mem_of_getElem? (i := 151) (by decide +kernel)⟩
theorem lw_p10 : lw_okq (⟨"java/lang/Throwable", "fillInStackTrace", "(I)Ljava/lang/Throwable;"⟩, 6) := ⟨⟨by decide +kernel, by decide +kernel⟩, List.mem_of_getElem? (i := 212) (by decide +kernel), List.mem_of_getElem? (i := 210) (by decide +kernel), List.mem_of_getElem? (i := 211) (by decide +kernel)⟩
theorem lw_p11 : lw_okq (⟨"TreadCranes", "hooksAllow", "(III)Z"⟩, 4) := ⟨⟨by decide +kernel, by decide +kernel⟩, List.mem_of_getElem? (i := 21) (by decide +kernel), List.mem_of_getElem? (i := 277) (by decide +kernel), List.mem_of_getElem? (i := 278) (by decide +kernel)⟩
theorem lw_p12 : lw_okq (⟨"java/util/ArrayList", "add", "(Ljava/lang/Object;[Ljava/lang/Object;I)V"⟩, 3) := ⟨⟨by decide +kernel, by decide +kernel⟩, List.mem_of_getElem? (i := 31) (by decide +kernel), List.mem_of_getElem? (i := 321) (by decide +kernel), List.mem_of_getElem? (i := 322) (by decide +kernel)⟩
theorem lw_p13 : lw_okq (⟨"java/util/ArrayList", "grow", "()[Ljava/lang/Object;"⟩, 3) := ⟨⟨by decide +kernel, by decide +kernel⟩, List.mem_of_getElem? (i := 31) (by decide +kernel), List.mem_of_getElem? (i := 325) (by decide +kernel), List.mem_of_getElem? (i := 326) (by decide +kernel)⟩
theorem lw_p14 : lw_okq (⟨"java/util/ArrayList", "grow", "(I)[Ljava/lang/Object;"⟩, 3) := ⟨⟨by decide +kernel, by decide +kernel⟩, List.mem_of_getElem? (i := 31) (by decide +kernel), List.mem_of_getElem? (i := 329) (by decide +kernel), List.mem_of_getElem? (i := 330) (by decide +kernel)⟩
theorem lw_p15 : lw_okq (⟨"TreadCranes", "putUpon", "(ILTreadCranes$Barrel;)V"⟩, 4) := ⟨⟨by decide +kernel, by decide +kernel⟩, List.mem_of_getElem? (i := 21) (by decide +kernel), List.mem_of_getElem? (i := 368) (by decide +kernel), List.mem_of_getElem? (i := 369) (by decide +kernel)⟩
def lw_privs_1 : List (MethodName × Nat) := [(⟨"TreadCranes", "countAnswer", "(I)I"⟩, 4), (⟨"TreadCranes", "standing", "()I"⟩, 4), (⟨"TreadCranes", "heightOf", "(I)I"⟩, 4), (⟨"TreadCranes", "uppermostAt", "(I)LTreadCranes$Barrel;"⟩, 4), (⟨"TreadCranes", "hanging", "()I"⟩, 4), (⟨"TreadCranes", "highestBetween", "(II)I"⟩, 4), (⟨"TreadCranes", "placeAnswer", "(II)I"⟩, 4), (⟨"TreadCranes", "weightsAt", "(I)I"⟩, 4), (⟨"TreadCranes", "hooksOver", "(I)I"⟩, 4), (⟨"TreadCranes", "barrelAnswer", "(LTreadCranes$Barrel;I)I"⟩, 4), (⟨"java/lang/Throwable", "fillInStackTrace", "(I)Ljava/lang/Throwable;"⟩, 6), (⟨"TreadCranes", "hooksAllow", "(III)Z"⟩, 4), (⟨"java/util/ArrayList", "add", "(Ljava/lang/Object;[Ljava/lang/Object;I)V"⟩, 3), (⟨"java/util/ArrayList", "grow", "()[Ljava/lang/Object;"⟩, 3), (⟨"java/util/ArrayList", "grow", "(I)[Ljava/lang/Object;"⟩, 3), (⟨"TreadCranes", "putUpon", "(ILTreadCranes$Barrel;)V"⟩, 4)]
theorem lw_r1 : ∀ q ∈ lw_privs_1, lw_okq q := List.forall_mem_cons.mpr ⟨lw_p0, List.forall_mem_cons.mpr ⟨lw_p1, List.forall_mem_cons.mpr ⟨lw_p2, List.forall_mem_cons.mpr ⟨lw_p3, List.forall_mem_cons.mpr ⟨lw_p4, List.forall_mem_cons.mpr ⟨lw_p5, List.forall_mem_cons.mpr ⟨lw_p6, List.forall_mem_cons.mpr ⟨lw_p7, List.forall_mem_cons.mpr ⟨lw_p8, List.forall_mem_cons.mpr ⟨lw_p9, List.forall_mem_cons.mpr ⟨lw_p10, List.forall_mem_cons.mpr ⟨lw_p11, List.forall_mem_cons.mpr ⟨lw_p12, List.forall_mem_cons.mpr ⟨lw_p13, List.forall_mem_cons.mpr ⟨lw_p14, List.forall_mem_cons.mpr ⟨lw_p15, fun _ h => absurd h List.not_mem_nil⟩⟩⟩⟩⟩⟩⟩⟩⟩⟩⟩⟩⟩⟩⟩⟩
theorem lw_p16 : lw_okq (⟨"TreadCranes", "requireCrane", "(I)V"⟩, 4) := ⟨⟨by decide +kernel, by decide +kernel⟩, List.mem_of_getElem? (i := 21) (by decide +kernel), List.mem_of_getElem? (i := 430) (by decide +kernel), List.mem_of_getElem? (i := 431) (by decide +kernel)⟩
theorem lw_p17 : lw_okq (⟨"TreadCranes", "lowerHook", "(LTreadCranes$Crane;I)I"⟩, 4) := ⟨⟨by decide +kernel, by decide +kernel⟩, List.mem_of_getElem? (i := 21) (by decide +kernel), List.mem_of_getElem? (i := 477) (by decide +kernel), List.mem_of_getElem? (i := 478) (by decide +kernel)⟩
theorem lw_p18 : lw_okq (⟨"TreadCranes", "raiseHook", "(LTreadCranes$Crane;I)I"⟩, 4) := ⟨⟨by decide +kernel, by decide +kernel⟩, List.mem_of_getElem? (i := 21) (by decide +kernel), List.mem_of_getElem? (i := 495) (by decide +kernel), List.mem_of_getElem? (i := 496) (by decide +kernel)⟩
theorem lw_p19 : lw_okq (⟨"TreadCranes", "removeUppermost", "(I)V"⟩, 4) := ⟨⟨by decide +kernel, by decide +kernel⟩, List.mem_of_getElem? (i := 21) (by decide +kernel), List.mem_of_getElem? (i := 507) (by decide +kernel), List.mem_of_getElem? (i := 508) (by decide +kernel)⟩
theorem lw_p20 : lw_okq (⟨"TreadCranes", "ticksToMove", "(LTreadCranes$Crane;II)I"⟩, 4) := ⟨⟨by decide +kernel, by decide +kernel⟩, List.mem_of_getElem? (i := 21) (by decide +kernel), List.mem_of_getElem? (i := 560) (by decide +kernel), List.mem_of_getElem? (i := 561) (by decide +kernel)⟩
theorem lw_p21 : lw_okq (⟨"TreadCranes", "isFreeToMove", "(LTreadCranes$Crane;II)Z"⟩, 4) := ⟨⟨by decide +kernel, by decide +kernel⟩, List.mem_of_getElem? (i := 21) (by decide +kernel), List.mem_of_getElem? (i := 564) (by decide +kernel), List.mem_of_getElem? (i := 565) (by decide +kernel)⟩
theorem lw_p22 : lw_okq (⟨"TreadCranesModel", "no", "(I)I"⟩, 15) := ⟨⟨by decide +kernel, by decide +kernel⟩, List.mem_of_getElem? (i := 590) (by decide +kernel), List.mem_of_getElem? (i := 657) (by decide +kernel), List.mem_of_getElem? (i := 658) (by decide +kernel)⟩
theorem lw_p23 : lw_okq (⟨"TreadCranesModel", "high", "(I)I"⟩, 15) := ⟨⟨by decide +kernel, by decide +kernel⟩, List.mem_of_getElem? (i := 590) (by decide +kernel), List.mem_of_getElem? (i := 661) (by decide +kernel), List.mem_of_getElem? (i := 662) (by decide +kernel)⟩
theorem lw_p24 : lw_okq (⟨"TreadCranesModel", "isTooLow", "(III)Z"⟩, 15) := ⟨⟨by decide +kernel, by decide +kernel⟩, List.mem_of_getElem? (i := 590) (by decide +kernel), List.mem_of_getElem? (i := 665) (by decide +kernel), List.mem_of_getElem? (i := 666) (by decide +kernel)⟩
theorem lw_p25 : lw_okq (⟨"TreadCranesModel", "loaded", "(I)I"⟩, 15) := ⟨⟨by decide +kernel, by decide +kernel⟩, List.mem_of_getElem? (i := 590) (by decide +kernel), List.mem_of_getElem? (i := 669) (by decide +kernel), List.mem_of_getElem? (i := 670) (by decide +kernel)⟩
theorem lw_p26 : lw_okq (⟨"TreadCranesModel", "isCrane", "(I)Z"⟩, 15) := ⟨⟨by decide +kernel, by decide +kernel⟩, List.mem_of_getElem? (i := 590) (by decide +kernel), List.mem_of_getElem? (i := 681) (by decide +kernel), List.mem_of_getElem? (i := 682) (by decide +kernel)⟩
theorem lw_p27 : lw_okq (⟨"TreadCranesModel", "isInReach", "(II)Z"⟩, 15) := ⟨⟨by decide +kernel, by decide +kernel⟩, List.mem_of_getElem? (i := 590) (by decide +kernel), List.mem_of_getElem? (i := 693) (by decide +kernel), List.mem_of_getElem? (i := 694) (by decide +kernel)⟩
theorem lw_p28 : lw_okq (⟨"TreadCranesModel", "highest", "(III)I"⟩, 15) := ⟨⟨by decide +kernel, by decide +kernel⟩, List.mem_of_getElem? (i := 590) (by decide +kernel), List.mem_of_getElem? (i := 698) (by decide +kernel), List.mem_of_getElem? (i := 699) (by decide +kernel)⟩
theorem lw_p29 : lw_okq (⟨"TreadCranesModel", "canLift", "(I)Z"⟩, 15) := ⟨⟨by decide +kernel, by decide +kernel⟩, List.mem_of_getElem? (i := 590) (by decide +kernel), List.mem_of_getElem? (i := 708) (by decide +kernel), List.mem_of_getElem? (i := 709) (by decide +kernel)⟩
theorem lw_p30 : lw_okq (⟨"TreadCranesModel", "strength", "(I)I"⟩, 15) := ⟨⟨by decide +kernel, by decide +kernel⟩, List.mem_of_getElem? (i := 590) (by decide +kernel), List.mem_of_getElem? (i := 712) (by decide +kernel), List.mem_of_getElem? (i := 713) (by decide +kernel)⟩
theorem lw_p31 : lw_okq (⟨"TreadCranesModel", "wound", "(II)I"⟩, 15) := ⟨⟨by decide +kernel, by decide +kernel⟩, List.mem_of_getElem? (i := 590) (by decide +kernel), List.mem_of_getElem? (i := 716) (by decide +kernel), List.mem_of_getElem? (i := 717) (by decide +kernel)⟩
def lw_privs_2 : List (MethodName × Nat) := [(⟨"TreadCranes", "requireCrane", "(I)V"⟩, 4), (⟨"TreadCranes", "lowerHook", "(LTreadCranes$Crane;I)I"⟩, 4), (⟨"TreadCranes", "raiseHook", "(LTreadCranes$Crane;I)I"⟩, 4), (⟨"TreadCranes", "removeUppermost", "(I)V"⟩, 4), (⟨"TreadCranes", "ticksToMove", "(LTreadCranes$Crane;II)I"⟩, 4), (⟨"TreadCranes", "isFreeToMove", "(LTreadCranes$Crane;II)Z"⟩, 4), (⟨"TreadCranesModel", "no", "(I)I"⟩, 15), (⟨"TreadCranesModel", "high", "(I)I"⟩, 15), (⟨"TreadCranesModel", "isTooLow", "(III)Z"⟩, 15), (⟨"TreadCranesModel", "loaded", "(I)I"⟩, 15), (⟨"TreadCranesModel", "isCrane", "(I)Z"⟩, 15), (⟨"TreadCranesModel", "isInReach", "(II)Z"⟩, 15), (⟨"TreadCranesModel", "highest", "(III)I"⟩, 15), (⟨"TreadCranesModel", "canLift", "(I)Z"⟩, 15), (⟨"TreadCranesModel", "strength", "(I)I"⟩, 15), (⟨"TreadCranesModel", "wound", "(II)I"⟩, 15)]
theorem lw_r2 : ∀ q ∈ lw_privs_2, lw_okq q := List.forall_mem_cons.mpr ⟨lw_p16, List.forall_mem_cons.mpr ⟨lw_p17, List.forall_mem_cons.mpr ⟨lw_p18, List.forall_mem_cons.mpr ⟨lw_p19, List.forall_mem_cons.mpr ⟨lw_p20, List.forall_mem_cons.mpr ⟨lw_p21, List.forall_mem_cons.mpr ⟨lw_p22, List.forall_mem_cons.mpr ⟨lw_p23, List.forall_mem_cons.mpr ⟨lw_p24, List.forall_mem_cons.mpr ⟨lw_p25, List.forall_mem_cons.mpr ⟨lw_p26, List.forall_mem_cons.mpr ⟨lw_p27, List.forall_mem_cons.mpr ⟨lw_p28, List.forall_mem_cons.mpr ⟨lw_p29, List.forall_mem_cons.mpr ⟨lw_p30, List.forall_mem_cons.mpr ⟨lw_p31, fun _ h => absurd h List.not_mem_nil⟩⟩⟩⟩⟩⟩⟩⟩⟩⟩⟩⟩⟩⟩⟩⟩
theorem lw_p32 : lw_okq (⟨"TreadCranesModel", "fall", "(I)I"⟩, 15) := ⟨⟨by decide +kernel, by decide +kernel⟩, List.mem_of_getElem? (i := 590) (by decide +kernel), List.mem_of_getElem? (i := 720) (by decide +kernel), List.mem_of_getElem? (i := 721) (by decide +kernel)⟩
theorem lw_p33 : lw_okq (⟨"TreadCranesModel", "top", "(I)I"⟩, 15) := ⟨⟨by decide +kernel, by decide +kernel⟩, List.mem_of_getElem? (i := 590) (by decide +kernel), List.mem_of_getElem? (i := 728) (by decide +kernel), List.mem_of_getElem? (i := 729) (by decide +kernel)⟩
theorem lw_p34 : lw_okq (⟨"TreadCranesModel", "placeTold", "(II)I"⟩, 15) := ⟨⟨by decide +kernel, by decide +kernel⟩, List.mem_of_getElem? (i := 590) (by decide +kernel), List.mem_of_getElem? (i := 740) (by decide +kernel), List.mem_of_getElem? (i := 741) (by decide +kernel)⟩
theorem lw_p35 : lw_okq (⟨"TreadCranesModel", "barrelTold", "(II)I"⟩, 15) := ⟨⟨by decide +kernel, by decide +kernel⟩, List.mem_of_getElem? (i := 590) (by decide +kernel), List.mem_of_getElem? (i := 748) (by decide +kernel), List.mem_of_getElem? (i := 749) (by decide +kernel)⟩
theorem lw_p36 : lw_okq (⟨"TreadCranesModel", "craneOf", "(I)I"⟩, 15) := ⟨⟨by decide +kernel, by decide +kernel⟩, List.mem_of_getElem? (i := 590) (by decide +kernel), List.mem_of_getElem? (i := 752) (by decide +kernel), List.mem_of_getElem? (i := 753) (by decide +kernel)⟩
theorem lw_p37 : lw_okq (⟨"TreadCranesModel", "craneTold", "(II)I"⟩, 15) := ⟨⟨by decide +kernel, by decide +kernel⟩, List.mem_of_getElem? (i := 590) (by decide +kernel), List.mem_of_getElem? (i := 760) (by decide +kernel), List.mem_of_getElem? (i := 761) (by decide +kernel)⟩
theorem lw_p38 : lw_okq (⟨"TreadCranesModel", "counted", "(I)I"⟩, 15) := ⟨⟨by decide +kernel, by decide +kernel⟩, List.mem_of_getElem? (i := 590) (by decide +kernel), List.mem_of_getElem? (i := 768) (by decide +kernel), List.mem_of_getElem? (i := 769) (by decide +kernel)⟩
theorem lw_p39 : lw_okq (⟨"TreadCranesModel", "ticksOf", "(III)I"⟩, 15) := ⟨⟨by decide +kernel, by decide +kernel⟩, List.mem_of_getElem? (i := 590) (by decide +kernel), List.mem_of_getElem? (i := 776) (by decide +kernel), List.mem_of_getElem? (i := 777) (by decide +kernel)⟩
def lw_privs_3 : List (MethodName × Nat) := [(⟨"TreadCranesModel", "fall", "(I)I"⟩, 15), (⟨"TreadCranesModel", "top", "(I)I"⟩, 15), (⟨"TreadCranesModel", "placeTold", "(II)I"⟩, 15), (⟨"TreadCranesModel", "barrelTold", "(II)I"⟩, 15), (⟨"TreadCranesModel", "craneOf", "(I)I"⟩, 15), (⟨"TreadCranesModel", "craneTold", "(II)I"⟩, 15), (⟨"TreadCranesModel", "counted", "(I)I"⟩, 15), (⟨"TreadCranesModel", "ticksOf", "(III)I"⟩, 15)]
theorem lw_r3 : ∀ q ∈ lw_privs_3, lw_okq q := List.forall_mem_cons.mpr ⟨lw_p32, List.forall_mem_cons.mpr ⟨lw_p33, List.forall_mem_cons.mpr ⟨lw_p34, List.forall_mem_cons.mpr ⟨lw_p35, List.forall_mem_cons.mpr ⟨lw_p36, List.forall_mem_cons.mpr ⟨lw_p37, List.forall_mem_cons.mpr ⟨lw_p38, List.forall_mem_cons.mpr ⟨lw_p39, fun _ h => absurd h List.not_mem_nil⟩⟩⟩⟩⟩⟩⟩⟩
def lw_privs : List (MethodName × Nat) := lw_privs_1 ++ (lw_privs_2 ++ (lw_privs_3))
def lw_tbl : List Cond := k2_sels lw_privs ++ tables_1
theorem lw_privs_ok : ∀ q ∈ lw_privs, lw_okq q := by
  show ∀ q ∈ lw_privs_1 ++ (lw_privs_2 ++ (lw_privs_3)), lw_okq q
  exact List.forall_mem_append.mpr ⟨lw_r1, List.forall_mem_append.mpr ⟨lw_r2, lw_r3⟩⟩
/-- the streams that the claim lets the run draw from -/
abbrev lw_cs : List Choice := [Jvm.Choice.named "NaN.bits"]
theorem lw_bits : nanBits ∈ lw_cs := by first | decide | exact List.mem_cons_self | simp [lw_cs, nanBits]
/-! ===== BEGIN words of one list among another's, by their places ===== -/
theorem goodIn_r {big : List Cond} (ws : List Cond) (ps : List Nat) (hp : ws = ps.filterMap (fun i => big[i]?)) (h : ws.all goodWord = true) : GoodIn big ws := by
  intro w hw
  have h1 := List.all_eq_true.mp h w hw
  rw [hp] at hw
  obtain ⟨i, -, hi⟩ := List.mem_filterMap.mp hw
  have hm : w ∈ big := by first | exact List.mem_of_getElem? hi | exact List.getElem?_mem hi
  exact ⟨hm, good_of_word h1⟩
theorem goodIn_app {big a b : List Cond} (ha : GoodIn big a) (hb : GoodIn big b) : GoodIn big (a ++ b) := fun w h => (List.mem_append.mp h).elim (ha w) (hb w)
theorem goodIn_ca {big a b : List Cond} {c : Cond} (ha : GoodIn big (c :: a)) (hb : GoodIn big b) : GoodIn big (c :: (a ++ b)) := fun w h => (List.mem_cons.mp h).elim (fun e => ha w (List.mem_cons.mpr (Or.inl e))) (fun h => (List.mem_append.mp h).elim (fun h => ha w (List.mem_cons.mpr (Or.inr h))) (hb w))
theorem goodIn_sub {big ws : List Cond} (hm : ∀ w ∈ ws, w ∈ big) (h : ws.all goodWord = true) : GoodIn big ws := fun w hw => ⟨hm w hw, good_of_word (List.all_eq_true.mp h w hw)⟩
/-! ===== END ===== -/

/-! ===== BEGIN exceptions that leave a method, and their catching by the caller (launches without stack traces) ===== -/
section VXA
/-! The laws vx_back, vx_callV, vx_callS, vx_callSW, vx_throw0, vx_throwS follow proofs of the library, with one case more: JvmDerived/Free/Laws.lean (Back.of_free), Shelf42/LK1.lean (callV, callS), Shelf/KitTraced.lean (throwNew0V, throwNewS). -/
/-- where a method has thrown q: the class by its name, the cell, what was written, the world -/
def vx_T (XC : String → State → State → Prop) (st : State) (q : Addr) (t : State) (mc ms : Nat) (free : Addr → Prop) : Prop :=
  ∃ (E : String) (ce : Cell) (L : List Loc), XC E st t ∧ t.heap[q]? = some ce ∧ ce.vm = .none ∧ st.vm.findClass E = some ce.cls ∧ st.WarmedH t.vm ∧ st.sameButNew ({ t with vm := st.vm } : State) L mc ms ∧ ∀ z ∈ L, free z.base
def vx_Q (Qc : Array Value → State → Outcome → State → Prop) (XC : String → State → State → Prop) (mc ms : Nat) (free : Addr → Prop) : Array Value → State → Outcome → State → Prop := fun a st o t =>
  (Qc a st o t ∧ ∃ L, FrameEnd st o t L mc ms ∧ ∀ q ∈ L, free q.base) ∨ ∃ q, o = .threw q ∧ vx_T XC st q t mc ms free
/-- a callee that returns or throws -/
def vx_Met (l : Launch) (y : MethodName) (ws : List Cond) (rm : Room) (Pc : Array Value → State → Prop) (Qc : Array Value → State → Outcome → State → Prop) (XC : String → State → State → Prop) (mc ms : Nat) (free : Addr → Prop) : Prop :=
  MetFree l y (headSpec ws rm) Pc (fun _ _ _ _ _ => True) (vx_Q Qc XC mc ms free)
def vx_Post (XC : String → State → State → Prop) (mc ms : Nat) (free : Addr → Prop) : Pt → Array Value → Addr → Pt → Prop := fun A a q B =>
  ∃ (g : JFrame) (mk : MethodId) (t : State) (L : List Loc) (E : String) (ce : Cell), B.U.heap = t.heap ∧ B.U.vm = t.vm ∧ XC E (A.U.calling g mk a) t ∧ t.heap[q]? = some ce ∧ ce.vm = .none ∧ A.U.vm.findClass E = some ce.cls ∧ B.locs = A.locs ++ L ∧ (∀ z ∈ L, free z.base) ∧ B.cells = A.cells + mc ∧ B.slots = A.slots + ms
def vx_Back (l : Launch) (R : Room) (p : Program) (e : Env) (below : List Frame) (s : State) (sargs : Array Value) (y : MethodName) (len W9 : Nat)
    (Pre : Pt → Array Value → Prop) (Post : Pt → Array Value → Option Value → Pt → Prop) (PostX : Pt → Array Value → Addr → Pt → Prop) : Prop :=
  ∀ (m : MethodId) (meth : Method) (c : Code) (A : Pt) (g : JFrame) (ig : Instr) (mk : MethodId) (a : Array Value),
    Stand p l e R s m sargs below meth c A.U A.locs A.cells A.slots → g.method = m → g.locals.size = c.maxLocals → decode c.code g.pc = .ok (ig, len) →
    2 * g.monitorRoom + (g.stack.map fun v => v.category).sum ≤ W9 → A.U.methodNamed? y = some mk → Pre A a →
    (∃ (v : Option Value) (B : Pt), Stand p l e R s m sargs below meth c B.U B.locs B.cells B.slots ∧ Post A a v B ∧
      Steps p.tables e below (doInvoke e (A.U.setTop g) [] mk a).1 (B.U.setTop { g with pc := g.pc + len, stack := v.toList ++ g.stack })) ∨
    (∃ (q : Addr) (B : Pt), Stand p l e R s m sargs below meth c B.U B.locs B.cells B.slots ∧ PostX A a q B ∧
      Steps p.tables e below (doInvoke e (A.U.setTop g) [] mk a).1 ((B.U.setTop g).pushFrame (.throwing q)))
section Payer
variable {l : Launch} {R : Room} {p : Program} {e : Env} {below : List Frame} {s : State} {sargs : Array Value} {y : MethodName} {len W9 : Nat}
theorem vx_back {ws : List Cond} {rm : Room} {Pc : Array Value → State → Prop} {Qc : Array Value → State → Outcome → State → Prop} {XC : String → State → State → Prop} {mc ms : Nat} {free : Addr → Prop} {bytes : ByteArray} {maxL : Nat} {ret : Option FieldType}
    (hM : vx_Met l y ws rm Pc Qc XC mc ms free) (hblind : FrameBlind Pc) (hrc : rm.cells = mc) (hrs : rm.slots = ms)
    (hframes : rm.frames + 1 ≤ R.frames) (hlocals : W9 + (maxL + 11) + rm.locals ≤ R.locals)
    (hws : ∀ w ∈ ws, ∀ a' U, s.WarmedH U.vm → w.before a' U = true) (hcode : Cond.code y bytes maxL ret ∈ ws) (hinit : ∀ a' U, s.WarmedH U.vm → (Cond.initialized y.cls).before a' U = true) :
    vx_Back l R p e below s sargs y len W9 (PreOf R mc ms Pc) (PostOf Qc mc ms free) (vx_Post XC mc ms free) := by
  intro m meth c A g ig mk a X hg hsize hdg hW hn hp
  have h1 : (headSpec ws rm).pre.before a A.U = true := atoms_intro fun w hw => hws w hw _ _ X.warmed
  have h2 : (Cond.code y bytes maxL ret).before a A.U = true := hws _ hcode _ _ X.warmed
  have h3 : (Cond.initialized y.cls).before a A.U = true := hinit _ _ X.warmed
  have h4 : A.cells + (headSpec ws rm).room.cells ≤ R.cells := by rw [show (headSpec ws rm).room.cells = mc from hrc]; exact hp.1
  have h5 : A.slots + (headSpec ws rm).room.slots ≤ R.slots := by rw [show (headSpec ws rm).room.slots = ms from hrs]; exact hp.2.1
  have hPc : Pc a (A.U.calling g mk a) := hblind _ _ _ _ hp.2.2
  obtain ⟨U, Ls, c0, s0⟩ := A
  dsimp only [Pt.U, Pt.locs, Pt.cells, Pt.slots] at h1 h2 h3 h4 h5 X hn hPc ⊢
  obtain ⟨methY, cY, hmY, hcY, -, hlY, -, -, -, -⟩ := Cond.code_spec hn h2
  obtain ⟨kY, hkY, -⟩ := className_of_methodNamed hn
  have hinitY : kY.init = .initialized := Cond.initialized_spec (findClass_of_methodNamed hn) hkY h3
  have h : At U g.method c below := by rw [hg]; exact X.here
  have hlocals9 : W9 + (maxL + 11) + (headSpec ws rm).room.locals ≤ R.locals := hlocals
  have happ : (headSpec ws rm).appliesLoose y e.platform (U.calling g mk a) = true :=
    Spec.appliesLoose_calling (g := g) h hdg hn hkY hinitY
      (X.room_calling (g := g) (R' := (headSpec ws rm).room) hsize hmY hcY hframes (by rw [hlY]; omega) h4 h5) h1
  obtain ⟨mid, hmid⟩ := h.above
  have hfr : (U.setTop g).frames = (.java g :: mid) ++ below := by rw [State.frames_setTop' g h.top, hmid]; rfl
  obtain ⟨o, s₂, hsteps, -, hend, hq⟩ := Steps.callFree hM p X.admits X.cas X.clock (acts := []) hfr happ hPc trivial
  have hq' : vx_Q Qc XC mc ms free a (U.calling g mk a) o s₂ := hq
  rw [State.frames_setTop' g h.top] at hend
  obtain ⟨g₀, hg0⟩ := Option.isSome_iff_exists.mp h.top
  obtain ⟨r, hr⟩ := State.topJava?_eq_some.mp hg0
  have hr' : (({ U with heap := s₂.heap, slotsUsed := s₂.slotsUsed } : State).setVm s₂.vm).frames = .java g₀ :: r := hr
  rcases hq' with ⟨hqc, L, hfe, hL⟩ | ⟨q, rfl, E, ce, L, hx, hce, hcv, hcl, hW₂, hsm, hL⟩
  · obtain ⟨⟨v, rfl⟩, hW₂, e2, q2, q3, q4, q5, q6⟩ := id hfe
    have e3 : s₂ = ({ (U.calling g mk a).setFrames s₂.frames with heap := s₂.heap, slotsUsed := s₂.slotsUsed } : State).setVm s₂.vm := by
      have : s₂ = ({ s₂ with vm := (U.calling g mk a).vm } : State).setVm s₂.vm := rfl
      rw [e2] at this
      exact this
    obtain ⟨c₂, i₂, len₂, hc₂, hd₂, hf₂⟩ := hend
    have hW' : U.WarmedH s₂.vm := hW₂
    have hcc : c₂ = c := by
      have h1 : s₂.code? g.method = U.code? g.method := by
        rw [State.code?_eq, State.code?_eq, hW'.alike.method?]
      exact Option.some.inj (hc₂.symm.trans (h1.trans h.code))
    subst hcc
    have hlen : len₂ = len := by rw [hdg] at hd₂; cases hd₂; rfl
    subst hlen
    have hs₂ : s₂ = (({ U with heap := s₂.heap, slotsUsed := s₂.slotsUsed } : State).setVm s₂.vm).setTop { g with pc := g.pc + len₂, stack := v.toList ++ g.stack } := by
      refine e3.trans ?_
      rw [hf₂, State.calling_eq h.top, State.setFrames_setFrames, State.setTop_of_frames _ hr', hr]
      rfl
    have hsame : U.sameButNew ({ U with heap := s₂.heap, slotsUsed := s₂.slotsUsed } : State) L mc ms := by
      refine ⟨?_, q2, q3, q4, q5, q6⟩
      obtain ⟨t, ht, -⟩ := State.frames_cons hr
      show ({ U with heap := s₂.heap, slotsUsed := s₂.slotsUsed } : State) = { U.setFrames U.frames with heap := s₂.heap, slotsUsed := s₂.slotsUsed }
      rw [State.setFrames_self ht]
    subst hg
    refine Or.inl ⟨v, ⟨(({ U with heap := s₂.heap, slotsUsed := s₂.slotsUsed } : State).setVm s₂.vm), Ls ++ L, c0 + mc, s0 + ms⟩,
      ⟨X.admits, X.cas, X.clock, X.frames, X.room, X.hears, X.method, X.code, (X.here.setHeapUsed s₂.heap s₂.slotsUsed).setVm hW'.alike, X.tail, State.WarmedH.trans X.warmed hW', X.limits, X.bytes, X.same.trans (hsame.setVm s.vm)⟩,
      ⟨g, mk, s₂, L, rfl, rfl, hqc, rfl, hL, rfl, rfl⟩, ?_⟩
    show Steps p.tables e below _ ((({ U with heap := s₂.heap, slotsUsed := s₂.slotsUsed } : State).setVm s₂.vm).setTop { g with pc := g.pc + len₂, stack := v.toList ++ g.stack })
    rw [← hs₂]
    exact hsteps
  · obtain ⟨e2, q2, q3, q4, q5, q6⟩ := id hsm
    have e3 : s₂ = ({ (U.calling g mk a).setFrames s₂.frames with heap := s₂.heap, slotsUsed := s₂.slotsUsed } : State).setVm s₂.vm := by
      have : s₂ = ({ s₂ with vm := (U.calling g mk a).vm } : State).setVm s₂.vm := rfl
      rw [e2] at this
      exact this
    have hf₂ : s₂.frames = .throwing q :: .java g :: U.frames.tail := hend
    have hW' : U.WarmedH s₂.vm := hW₂
    have hs₂ : s₂ = ((({ U with heap := s₂.heap, slotsUsed := s₂.slotsUsed } : State).setVm s₂.vm).setTop g).pushFrame (.throwing q) := by
      refine e3.trans ?_
      rw [hf₂, State.calling_eq h.top, State.setFrames_setFrames, State.pushFrame, State.frames_setTop _ hr', State.setTop_of_frames _ hr', State.setFrames_setFrames, hr]
      rfl
    have hsame : U.sameButNew ({ U with heap := s₂.heap, slotsUsed := s₂.slotsUsed } : State) L mc ms := by
      refine ⟨?_, q2, q3, q4, q5, q6⟩
      obtain ⟨t, ht, -⟩ := State.frames_cons hr
      show ({ U with heap := s₂.heap, slotsUsed := s₂.slotsUsed } : State) = { U.setFrames U.frames with heap := s₂.heap, slotsUsed := s₂.slotsUsed }
      rw [State.setFrames_self ht]
    subst hg
    refine Or.inr ⟨q, ⟨(({ U with heap := s₂.heap, slotsUsed := s₂.slotsUsed } : State).setVm s₂.vm), Ls ++ L, c0 + mc, s0 + ms⟩,
      ⟨X.admits, X.cas, X.clock, X.frames, X.room, X.hears, X.method, X.code, (X.here.setHeapUsed s₂.heap s₂.slotsUsed).setVm hW'.alike, X.tail, State.WarmedH.trans X.warmed hW', X.limits, X.bytes, X.same.trans (hsame.setVm s.vm)⟩,
      ⟨g, mk, s₂, L, E, ce, rfl, rfl, hx, hce, hcv, hcl, rfl, hL, rfl, rfl⟩, ?_⟩
    show Steps p.tables e below _ (((({ U with heap := s₂.heap, slotsUsed := s₂.slotsUsed } : State).setVm s₂.vm).setTop g).pushFrame (.throwing q))
    rw [← hs₂]
    exact hsteps
end Payer
section Calls
variable {p : Program} {l : Launch} {e : Env} {R : Room} {s : State} {m : MethodId} {args : Array Value} {below : List Frame} {meth : Method} {c : Code} {T : State} {locs : List Loc} {cells slots : Nat}
theorem vx_callV (X : Stand p l e R s m args below meth c T locs cells slots) (hexec : p.tables.exec = Jvm.exec) {own C : String} {index : Nat} {y : MethodName} {bytes : ByteArray} {maxL : Nat} {ret : Option FieldType}
    (hown : s.vm.findClass own = some m.cls) (hlink : (Cond.methodLink own index y).before args s = true) (hinst : (Cond.instanceMethod y).before args s = true) (hsel : (Cond.selects C y y).before args s = true)
    (hcode : (Cond.code y bytes maxL ret).before args s = true) (hy : y.cls ≠ "java/lang/invoke/MethodHandle" ∧ y.cls ≠ "java/lang/invoke/VarHandle")
    {W9 : Nat} {Pre : Pt → Array Value → Prop} {Post : Pt → Array Value → Option Value → Pt → Prop} {PostX : Pt → Array Value → Addr → Pt → Prop} (hK : vx_Back l R p e below s args y 3 W9 Pre Post PostX)
    {b : Addr} {cellB : Cell} (hcell : T.heap[b]? = some cellB) (hobj : cellB.vm.isStatics = false) (hcls : s.vm.findClass C = some cellB.cls)
    {g : JFrame} (hg : g.method = m) (hsize : g.locals.size = c.maxLocals) {argsL rest : List Value} (hlen : ∀ sig, parseMethodDescriptor y.desc = some sig → argsL.length = sig.parameters.length)
    (hstack : g.stack = argsL.reverse ++ .ref b :: rest) (hW : 2 * g.monitorRoom + (rest.map fun v => v.category).sum ≤ W9) (hdg : decode c.code g.pc = .ok (.invokevirtual index, 3))
    (hpre : ∀ vm₁, s.WarmedH vm₁ → Pre ⟨T.setVm vm₁, locs, cells, slots⟩ (Value.ref b :: argsL).toArray) :
    (∃ (v : Option Value) (vm₁ : Vm) (B : Pt), s.WarmedH vm₁ ∧ Stand p l e R s m args below meth c B.U B.locs B.cells B.slots ∧ Post ⟨T.setVm vm₁, locs, cells, slots⟩ (Value.ref b :: argsL).toArray v B ∧
      ∀ target, Steps p.tables e below (B.U.setTop { g with pc := g.pc + 3, stack := v.toList ++ rest }) target → Steps p.tables e below (T.setTop g) target) ∨
    (∃ (q : Addr) (vm₁ : Vm) (B : Pt), s.WarmedH vm₁ ∧ Stand p l e R s m args below meth c B.U B.locs B.cells B.slots ∧ PostX ⟨T.setVm vm₁, locs, cells, slots⟩ (Value.ref b :: argsL).toArray q B ∧
      Steps p.tables e below (T.setTop g) ((B.U.setTop { g with stack := rest }).pushFrame (.throwing q))) := by
  obtain ⟨mk, methM, hnamed, hmethM, hstM, habM⟩ := Cond.instanceMethod_spec hinst
  obtain ⟨methM', cM, hmethM', -, -, -, -, -, -, hsigM⟩ := Cond.code_spec hnamed hcode
  cases hmethM.symm.trans hmethM'
  obtain ⟨c2, r2, m2, q1, q2, q3, q4, kP, hkP, hkPi⟩ := Cond.selects_spec hsel
  cases hcls.symm.trans q1
  cases (State.methodFound?_of_named hnamed hy).symm.trans q2
  cases hnamed.symm.trans q3
  have hselP : selectMethod e.platform s.vm cellB.cls mk = .method mk := by rw [Launch.admits_selectMethod X.admits]; exact q4
  obtain ⟨vm₁, X₁, hstep₁⟩ := X.invokevirtual hexec hown hlink hnamed hmethM hstM hkP hkPi hy (a := b) (cell := cellB) hcell
    (fun z h => by rw [h] at hobj; cases hobj) hselP hmethM habM hkP hkPi (g := g) hg (argsL := argsL) (rest := rest) (hlen _ hsigM) hstack hdg
  rcases hK m meth c ⟨T.setVm vm₁, locs, cells, slots⟩ { g with stack := rest } (.invokevirtual index) mk (Value.ref b :: argsL).toArray X₁ hg hsize hdg hW (X₁.named hnamed) (hpre vm₁ X₁.warmed) with ⟨v, B, X', hpost, hsteps⟩ | ⟨q, B, X', hpost, hsteps⟩
  · exact Or.inl ⟨v, vm₁, B, X₁.warmed, X', hpost, fun target h => hstep₁ _ fun acts => by rw [doInvoke_state]; exact hsteps.trans h⟩
  · exact Or.inr ⟨q, vm₁, B, X₁.warmed, X', hpost, hstep₁ _ fun acts => by rw [doInvoke_state]; exact hsteps⟩
theorem vx_callS (X : Stand p l e R s m args below meth c T locs cells slots) (hexec : p.tables.exec = Jvm.exec) {own : String} {index : Nat} {y : MethodName} {bytes : ByteArray} {maxL : Nat} {ret : Option FieldType}
    (hown : s.vm.findClass own = some m.cls) (hlink : (Cond.methodLink own index y).before args s = true) (hstat : (Cond.static y).before args s = true) (hinit : (Cond.initialized y.cls).before args s = true)
    (hcode : (Cond.code y bytes maxL ret).before args s = true) (hy : y.cls ≠ "java/lang/invoke/MethodHandle" ∧ y.cls ≠ "java/lang/invoke/VarHandle")
    {W9 : Nat} {Pre : Pt → Array Value → Prop} {Post : Pt → Array Value → Option Value → Pt → Prop} {PostX : Pt → Array Value → Addr → Pt → Prop} (hK : vx_Back l R p e below s args y 3 W9 Pre Post PostX)
    {g : JFrame} (hg : g.method = m) (hsize : g.locals.size = c.maxLocals) {argsL rest : List Value} (hlen : ∀ sig, parseMethodDescriptor y.desc = some sig → argsL.length = sig.parameters.length)
    (hstack : g.stack = argsL.reverse ++ rest) (hW : 2 * g.monitorRoom + (rest.map fun v => v.category).sum ≤ W9) (hdg : decode c.code g.pc = .ok (.invokestatic index, 3))
    (hpre : ∀ vm₁, s.WarmedH vm₁ → Pre ⟨T.setVm vm₁, locs, cells, slots⟩ argsL.toArray) :
    (∃ (v : Option Value) (vm₁ : Vm) (B : Pt), s.WarmedH vm₁ ∧ Stand p l e R s m args below meth c B.U B.locs B.cells B.slots ∧ Post ⟨T.setVm vm₁, locs, cells, slots⟩ argsL.toArray v B ∧
      ∀ target, Steps p.tables e below (B.U.setTop { g with pc := g.pc + 3, stack := v.toList ++ rest }) target → Steps p.tables e below (T.setTop g) target) ∨
    (∃ (q : Addr) (vm₁ : Vm) (B : Pt), s.WarmedH vm₁ ∧ Stand p l e R s m args below meth c B.U B.locs B.cells B.slots ∧ PostX ⟨T.setVm vm₁, locs, cells, slots⟩ argsL.toArray q B ∧
      Steps p.tables e below (T.setTop g) ((B.U.setTop { g with stack := rest }).pushFrame (.throwing q))) := by
  obtain ⟨mk, hnamed⟩ := Cond.code_named hcode
  obtain ⟨methM, cM, hmethM, -, -, -, -, -, -, hsigM⟩ := Cond.code_spec hnamed hcode
  have hstatic : methM.isStatic = true := Cond.static_spec hnamed hmethM hstat
  obtain ⟨kP, hkP, -⟩ := className_of_methodNamed hnamed
  have hinitP : kP.init = .initialized := Cond.initialized_spec (findClass_of_methodNamed hnamed) hkP hinit
  obtain ⟨vm₁, X₁, hstep₁⟩ := X.invokestatic hexec hown hlink hnamed hmethM hstatic hkP hinitP hy (g := g) hg (argsL := argsL) (rest := rest) (hlen _ hsigM) hstack hdg
  rcases hK m meth c ⟨T.setVm vm₁, locs, cells, slots⟩ { g with stack := rest } (.invokestatic index) mk argsL.toArray X₁ hg hsize hdg hW (X₁.named hnamed) (hpre vm₁ X₁.warmed) with ⟨v, B, X', hpost, hsteps⟩ | ⟨q, B, X', hpost, hsteps⟩
  · exact Or.inl ⟨v, vm₁, B, X₁.warmed, X', hpost, fun target h => hstep₁ _ fun acts => by rw [doInvoke_state]; exact hsteps.trans h⟩
  · exact Or.inr ⟨q, vm₁, B, X₁.warmed, X', hpost, hstep₁ _ fun acts => by rw [doInvoke_state]; exact hsteps⟩
end Calls
theorem vx_cls {s : State} {T : State} {vm₁ : Vm} {E : String} {k : ClassId} (hW : s.WarmedH vm₁) (h : (T.setVm vm₁).vm.findClass E = some k) : s.vm.findClass E = some k := by
  have h1 : vm₁.findClass E = some k := h
  rw [hW.alike.findClass] at h1
  exact h1
/-- the method's frame g, with q thrown over it -/
def vx_W (p : Program) (l : Launch) (e : Env) (R : Room) (s : State) (m : MethodId) (args : Array Value) (below : List Frame) (meth : Method) (c : Code) (H : Heap) (locs : List Loc) (cells slots : Nat) (Q : State → Prop) (g : JFrame) (q : Addr) : Prop :=
  ∀ T : State, T.heap = H → Stand p l e R s m args below meth c T locs cells slots → ∃ t, Steps p.tables e below ((T.setTop g).pushFrame (.throwing q)) t ∧ Q t
def vx_Run (p : Program) (l : Launch) (e : Env) (R : Room) (s : State) (m : MethodId) (args : Array Value) (below : List Frame) (meth : Method) (c : Code) (H : Heap) (locs : List Loc) (cells slots mc ms : Nat) (g : JFrame) (rest : List Value) (Qa : State → Outcome → State → Prop) (XC : String → State → State → Prop) (free : Addr → Prop) : Prop :=
  ∀ T : State, T.heap = H → Stand p l e R s m args below meth c T locs cells slots →
    (∃ (v : Option Value) (st₀ t T' : State) (L : List Loc), st₀.heap = H ∧ Stand p l e R s m args below meth c T' (locs ++ L) (cells + mc) (slots + ms) ∧ (∀ q ∈ L, free q.base) ∧ T'.heap = t.heap ∧ T'.vm = t.vm ∧ Qa st₀ (.returned v) t ∧
      Goes p e below T g T' { g with pc := g.pc + 3, stack := v.toList ++ rest }) ∨
    (∃ (q : Addr) (st₀ t T' : State) (L : List Loc) (E : String) (ce : Cell), st₀.heap = H ∧ Stand p l e R s m args below meth c T' (locs ++ L) (cells + mc) (slots + ms) ∧ (∀ z ∈ L, free z.base) ∧ T'.heap = t.heap ∧ T'.vm = t.vm ∧ XC E st₀ t ∧ t.heap[q]? = some ce ∧ ce.vm = .none ∧ s.vm.findClass E = some ce.cls ∧
      Steps p.tables e below (T.setTop g) ((T'.setTop { g with stack := rest }).pushFrame (.throwing q)))
def vx_X {S : Type} (px : S → Prop) (B : String → S → State → Prop) (A : Nat → Prop) : String → State → State → Prop := fun E st t => ∃ u : S, px u ∧ B E u t ∧ va_F A st t
section Runs
variable {p : Program} {l : Launch} {e : Env} {R : Room} {s : State} {m : MethodId} {args : Array Value} {below : List Frame} {meth : Method} {c : Code} {H : Heap} {locs : List Loc} {cells slots : Nat}
variable {y : MethodName} {bytes cc : ByteArray} {maxL nL mc ms n index : Nat} {ret : Option FieldType} {ws : List Cond} {rm : Room} {Pc : Array Value → State → Prop} {Qc : Array Value → State → Outcome → State → Prop} {XC : String → State → State → Prop} {free : Addr → Prop} {Ts : List Cond} {own C : String} {b : Addr} {As rest : List Value} {g : JFrame}
theorem vx_callBack (cb : CallB R s args own index y bytes maxL ret ws rm mc ms n) (hM : vx_Met l y ws rm Pc Qc XC mc ms free) (hbl : FrameBlind Pc) : vx_Back l R p e below s args y 3 8 (PreOf R mc ms Pc) (PostOf Qc mc ms free) (vx_Post XC mc ms free) := by
  obtain ⟨hrc, hrs, hfr, hlo, hws, hcw, -, hini, -⟩ := cb
  exact vx_back (bytes := bytes) (maxL := maxL) (ret := ret) hM hbl hrc hrs hfr hlo hws hcw (fun a' U hW => word_at hW (Or.inl (by first | rfl | simp [Cond.onTables, Cond.keeps, Cond.steady])) hini)
theorem vx_runV (S : CallFix p m c cc nL s args Ts own) (hM : vx_Met l y ws rm Pc Qc XC mc ms free) (cw : CallW R s args own C index y bytes maxL ret ws rm mc ms n) (hp : PreV s H C b Pc As)
    (hg : g.method = m) (hn : As.length = n) (hsize : g.locals.size = nL) (hstack : g.stack = As.reverse ++ .ref b :: rest) (hW : 2 * g.monitorRoom + (rest.map fun v => v.category).sum ≤ 8) (hdg : decode cc g.pc = .ok (.invokevirtual index, 3)) (hf : cells + mc ≤ R.cells ∧ slots + ms ≤ R.slots) :
    vx_Run p l e R s m args below meth c H locs cells slots mc ms g rest (Qc (Value.ref b :: As).toArray) XC free := by
  have hK : vx_Back l R p e below s args y 3 8 (PreOf R mc ms Pc) (PostOf Qc mc ms free) (vx_Post XC mc ms free) := vx_callBack cw.1 hM hp.1
  obtain ⟨⟨-, -, -, -, -, -, hcode, -, hy, hlen, hl⟩, hin, hse⟩ := cw
  obtain ⟨hx, hb, hml, ho, -⟩ := S
  obtain ⟨-, ⟨cellB, hcB, hoB, hclB⟩, hPc⟩ := hp
  intro T hT X
  rcases vx_callV X hx (C := C) (bytes := bytes) (maxL := maxL) (ret := ret) ho hl hin hse hcode hy hK (by rw [hT]; exact hcB) hoB hclB hg (hsize.trans hml.symm) (argsL := As) (rest := rest) (fun sig h => hn.trans (hlen sig h)) hstack hW (by rw [hb]; exact hdg)
    (fun vm₁ hW₁ => ⟨hf.1, hf.2, hPc (T.setVm vm₁) hT hW₁⟩) with ⟨v, vm₁, ⟨U', l2, c2, s2⟩, hW₁, X', ⟨g', mk, t, L, e1, e2, hq, h1, hL, h2, h3⟩, st⟩ | ⟨q, vm₁, ⟨U', l2, c2, s2⟩, hW₁, X', ⟨g', mk, t, L, E, ce, e1, e2, hq, hce, hcv, hcl, h1, hL, h2, h3⟩, st⟩
  · dsimp only [Pt.U, Pt.locs, Pt.cells, Pt.slots] at X' e1 e2 h1 h2 h3 st
    subst h1; subst h2; subst h3
    exact Or.inl ⟨v, (T.setVm vm₁).calling g' mk (Value.ref b :: As).toArray, t, U', L, hT, X', hL, e1, e2, hq, st⟩
  · dsimp only [Pt.U, Pt.locs, Pt.cells, Pt.slots] at X' e1 e2 h1 h2 h3 st hcl
    subst h1; subst h2; subst h3
    exact Or.inr ⟨q, (T.setVm vm₁).calling g' mk (Value.ref b :: As).toArray, t, U', L, E, ce, hT, X', hL, e1, e2, hq, hce, hcv, vx_cls hW₁ hcl, st⟩
theorem vx_runS (S : CallFix p m c cc nL s args Ts own) (hM : vx_Met l y ws rm Pc Qc XC mc ms free) (cw : CallB R s args own index y bytes maxL ret ws rm mc ms n ∧ (Cond.static y).before args s = true) (hp : PreS s H Pc As)
    (hg : g.method = m) (hn : As.length = n) (hsize : g.locals.size = nL) (hstack : g.stack = As.reverse ++ rest) (hW : 2 * g.monitorRoom + (rest.map fun v => v.category).sum ≤ 8) (hdg : decode cc g.pc = .ok (.invokestatic index, 3)) (hf : cells + mc ≤ R.cells ∧ slots + ms ≤ R.slots) :
    vx_Run p l e R s m args below meth c H locs cells slots mc ms g rest (Qc As.toArray) XC free := by
  have hK : vx_Back l R p e below s args y 3 8 (PreOf R mc ms Pc) (PostOf Qc mc ms free) (vx_Post XC mc ms free) := vx_callBack cw.1 hM hp.1
  obtain ⟨⟨-, -, -, -, -, -, hcode, hini, hy, hlen, hl⟩, hstt⟩ := cw
  obtain ⟨hx, hb, hml, ho, -⟩ := S
  intro T hT X
  rcases vx_callS X hx (bytes := bytes) (maxL := maxL) (ret := ret) ho hl hstt hini hcode hy hK hg (hsize.trans hml.symm) (argsL := As) (rest := rest) (fun sig h => hn.trans (hlen sig h)) hstack hW (by rw [hb]; exact hdg)
    (fun vm₁ hW₁ => ⟨hf.1, hf.2, hp.2 (T.setVm vm₁) hT hW₁⟩) with ⟨v, vm₁, ⟨U', l2, c2, s2⟩, hW₁, X', ⟨g', mk, t, L, e1, e2, hq, h1, hL, h2, h3⟩, st⟩ | ⟨q, vm₁, ⟨U', l2, c2, s2⟩, hW₁, X', ⟨g', mk, t, L, E, ce, e1, e2, hq, hce, hcv, hcl, h1, hL, h2, h3⟩, st⟩
  · dsimp only [Pt.U, Pt.locs, Pt.cells, Pt.slots] at X' e1 e2 h1 h2 h3 st
    subst h1; subst h2; subst h3
    exact Or.inl ⟨v, (T.setVm vm₁).calling g' mk As.toArray, t, U', L, hT, X', hL, e1, e2, hq, st⟩
  · dsimp only [Pt.U, Pt.locs, Pt.cells, Pt.slots] at X' e1 e2 h1 h2 h3 st hcl
    subst h1; subst h2; subst h3
    exact Or.inr ⟨q, (T.setVm vm₁).calling g' mk As.toArray, t, U', L, E, ce, hT, X', hL, e1, e2, hq, hce, hcv, vx_cls hW₁ hcl, st⟩
end Runs
section Rows
variable {p : Program} {l : Launch} {e : Env} {R : Room} {s : State} {m : MethodId} {args : Array Value} {below : List Frame} {meth : Method} {c : Code} {H : Heap} {locs : List Loc} {cells slots : Nat} {Q : State → Prop}
variable {mc ms : Nat} {free : Addr → Prop} {A0 A1 : Nat → Prop} {H0 : Heap} {a : Array Value} {pc : Nat} {ls : Array Slot} {st0 rest : List Value}
theorem vx_keep {st₀ t T' : State} {L : List Loc} (h0 : st₀.heap = H) (e1 : T'.heap = t.heap) (hS : va_S A0 H0 H locs) (hA : ∀ q, q < H.size → A1 q → A0 q) (hf : ∀ q, free q → A0 q) (hL : ∀ q ∈ L, free q.base) (hF : va_F A1 st₀ t) :
    H.size ≤ T'.heap.size ∧ (∀ q : Nat, q < H.size → ¬ A1 q → T'.heap[q]? = H[q]?) ∧ va_S A0 H0 T'.heap (locs ++ L) := by
  obtain ⟨hz, hk⟩ := hF
  rw [h0] at hz hk
  exact ⟨by rw [e1]; exact hz, fun q h1 h2 => by rw [e1]; exact hk q h1 h2,
    ⟨Nat.le_trans hS.1 (by rw [e1]; exact hz), fun q h1 h2 => by rw [e1, hk q (Nat.lt_of_lt_of_le h1 hS.1) (fun z => h2 (hA q (Nat.lt_of_lt_of_le h1 hS.1) z))]; exact hS.2.1 q h1 h2, fun q hq => by
      rcases List.mem_append.mp hq with h | h
      · exact hS.2.2 q h
      · exact hf _ (hL q h)⟩⟩
theorem vx_calli {S SX : Type} {post : Int32 → S → Prop} {px : SX → Prop} {B : S → State → Prop} {BX : String → SX → State → Prop} {AX : Nat → Prop} (hr : vx_Run p l e R s m args below meth c H locs cells slots mc ms (F0 m pc ls st0) rest (va_Qi post B A1 a) (vx_X px BX AX) free) (hS : va_S A0 H0 H locs) (hA : ∀ q, q < H.size → A1 q → A0 q) (hf : ∀ q, free q → A0 q) (hAX : ∀ q, q < H.size → AX q → A0 q)
    (kx : ∀ (E : String) (ce : Cell) (q9 : Addr) (u : SX) (t : State) (H1 : Heap) (locs1 : List Loc), t.heap = H1 → s.vm.Alike t.vm → px u → BX E u t → H.size ≤ H1.size → (∀ q : Nat, q < H.size → ¬ AX q → H1[q]? = H[q]?) → va_S A0 H0 H1 locs1 → H1[q9]? = some ce → ce.vm = .none → s.vm.findClass E = some ce.cls → vx_W p l e R s m args below meth c H1 locs1 (cells + mc) (slots + ms) Q (F0 m pc ls rest) q9)
    (kk : ∀ (r : Int32) (u : S) (t : State) (H1 : Heap) (locs1 : List Loc), t.heap = H1 → s.vm.Alike t.vm → post r u → B u t → H.size ≤ H1.size → (∀ q : Nat, q < H.size → ¬ A1 q → H1[q]? = H[q]?) → va_S A0 H0 H1 locs1 → W p l e R s m args below meth c H1 locs1 (cells + mc) (slots + ms) Q (F0 m (pc + 3) ls (.int r :: rest))) : W p l e R s m args below meth c H locs cells slots Q (F0 m pc ls st0) := by
  intro T hT X
  rcases hr T hT X with ⟨v, st₀, t, T', L, h0, X', hL, e1, e2, ⟨⟨r, u, hv, hp, hb⟩, hF⟩, st⟩ | ⟨q, st₀, t, T', L, E, ce, h0, X', hL, e1, e2, ⟨u, hp, hb, hF⟩, hce, hcv, hcl, st⟩
  · cases hv
    obtain ⟨k1, k2, k3⟩ := vx_keep h0 e1 hS hA hf hL hF
    obtain ⟨t2, a1, b1⟩ := kk r u t T'.heap (locs ++ L) e1.symm (by rw [← e2]; exact X'.warmed.alike) hp hb k1 k2 k3 T' rfl X'
    exact ⟨t2, st t2 a1, b1⟩
  · obtain ⟨k1, k2, k3⟩ := vx_keep h0 e1 hS hAX hf hL hF
    obtain ⟨t2, a1, b1⟩ := kx E ce q u t T'.heap (locs ++ L) e1.symm (by rw [← e2]; exact X'.warmed.alike) hp hb k1 k2 k3 (by rw [e1]; exact hce) hcv hcl T' rfl X'
    exact ⟨t2, st.trans a1, b1⟩
theorem vx_calll {S SX : Type} {post : Int64 → S → Prop} {px : SX → Prop} {B : S → State → Prop} {BX : String → SX → State → Prop} {AX : Nat → Prop} (hr : vx_Run p l e R s m args below meth c H locs cells slots mc ms (F0 m pc ls st0) rest (va_Ql post B A1 a) (vx_X px BX AX) free) (hS : va_S A0 H0 H locs) (hA : ∀ q, q < H.size → A1 q → A0 q) (hf : ∀ q, free q → A0 q) (hAX : ∀ q, q < H.size → AX q → A0 q)
    (kx : ∀ (E : String) (ce : Cell) (q9 : Addr) (u : SX) (t : State) (H1 : Heap) (locs1 : List Loc), t.heap = H1 → s.vm.Alike t.vm → px u → BX E u t → H.size ≤ H1.size → (∀ q : Nat, q < H.size → ¬ AX q → H1[q]? = H[q]?) → va_S A0 H0 H1 locs1 → H1[q9]? = some ce → ce.vm = .none → s.vm.findClass E = some ce.cls → vx_W p l e R s m args below meth c H1 locs1 (cells + mc) (slots + ms) Q (F0 m pc ls rest) q9)
    (kk : ∀ (r : Int64) (u : S) (t : State) (H1 : Heap) (locs1 : List Loc), t.heap = H1 → s.vm.Alike t.vm → post r u → B u t → H.size ≤ H1.size → (∀ q : Nat, q < H.size → ¬ A1 q → H1[q]? = H[q]?) → va_S A0 H0 H1 locs1 → W p l e R s m args below meth c H1 locs1 (cells + mc) (slots + ms) Q (F0 m (pc + 3) ls (.long r :: rest))) : W p l e R s m args below meth c H locs cells slots Q (F0 m pc ls st0) := by
  intro T hT X
  rcases hr T hT X with ⟨v, st₀, t, T', L, h0, X', hL, e1, e2, ⟨⟨r, u, hv, hp, hb⟩, hF⟩, st⟩ | ⟨q, st₀, t, T', L, E, ce, h0, X', hL, e1, e2, ⟨u, hp, hb, hF⟩, hce, hcv, hcl, st⟩
  · cases hv
    obtain ⟨k1, k2, k3⟩ := vx_keep h0 e1 hS hA hf hL hF
    obtain ⟨t2, a1, b1⟩ := kk r u t T'.heap (locs ++ L) e1.symm (by rw [← e2]; exact X'.warmed.alike) hp hb k1 k2 k3 T' rfl X'
    exact ⟨t2, st t2 a1, b1⟩
  · obtain ⟨k1, k2, k3⟩ := vx_keep h0 e1 hS hAX hf hL hF
    obtain ⟨t2, a1, b1⟩ := kx E ce q u t T'.heap (locs ++ L) e1.symm (by rw [← e2]; exact X'.warmed.alike) hp hb k1 k2 k3 (by rw [e1]; exact hce) hcv hcl T' rfl X'
    exact ⟨t2, st.trans a1, b1⟩
theorem vx_callf {S SX : Type} {post : UInt32 → S → Prop} {px : SX → Prop} {B : S → State → Prop} {BX : String → SX → State → Prop} {AX : Nat → Prop} (hr : vx_Run p l e R s m args below meth c H locs cells slots mc ms (F0 m pc ls st0) rest (va_Qf post B A1 a) (vx_X px BX AX) free) (hS : va_S A0 H0 H locs) (hA : ∀ q, q < H.size → A1 q → A0 q) (hf : ∀ q, free q → A0 q) (hAX : ∀ q, q < H.size → AX q → A0 q)
    (kx : ∀ (E : String) (ce : Cell) (q9 : Addr) (u : SX) (t : State) (H1 : Heap) (locs1 : List Loc), t.heap = H1 → s.vm.Alike t.vm → px u → BX E u t → H.size ≤ H1.size → (∀ q : Nat, q < H.size → ¬ AX q → H1[q]? = H[q]?) → va_S A0 H0 H1 locs1 → H1[q9]? = some ce → ce.vm = .none → s.vm.findClass E = some ce.cls → vx_W p l e R s m args below meth c H1 locs1 (cells + mc) (slots + ms) Q (F0 m pc ls rest) q9)
    (kk : ∀ (r : UInt32) (u : S) (t : State) (H1 : Heap) (locs1 : List Loc), t.heap = H1 → s.vm.Alike t.vm → post r u → B u t → H.size ≤ H1.size → (∀ q : Nat, q < H.size → ¬ A1 q → H1[q]? = H[q]?) → va_S A0 H0 H1 locs1 → W p l e R s m args below meth c H1 locs1 (cells + mc) (slots + ms) Q (F0 m (pc + 3) ls (.float r :: rest))) : W p l e R s m args below meth c H locs cells slots Q (F0 m pc ls st0) := by
  intro T hT X
  rcases hr T hT X with ⟨v, st₀, t, T', L, h0, X', hL, e1, e2, ⟨⟨r, u, hv, hp, hb⟩, hF⟩, st⟩ | ⟨q, st₀, t, T', L, E, ce, h0, X', hL, e1, e2, ⟨u, hp, hb, hF⟩, hce, hcv, hcl, st⟩
  · cases hv
    obtain ⟨k1, k2, k3⟩ := vx_keep h0 e1 hS hA hf hL hF
    obtain ⟨t2, a1, b1⟩ := kk r u t T'.heap (locs ++ L) e1.symm (by rw [← e2]; exact X'.warmed.alike) hp hb k1 k2 k3 T' rfl X'
    exact ⟨t2, st t2 a1, b1⟩
  · obtain ⟨k1, k2, k3⟩ := vx_keep h0 e1 hS hAX hf hL hF
    obtain ⟨t2, a1, b1⟩ := kx E ce q u t T'.heap (locs ++ L) e1.symm (by rw [← e2]; exact X'.warmed.alike) hp hb k1 k2 k3 (by rw [e1]; exact hce) hcv hcl T' rfl X'
    exact ⟨t2, st.trans a1, b1⟩
theorem vx_calld {S SX : Type} {post : UInt64 → S → Prop} {px : SX → Prop} {B : S → State → Prop} {BX : String → SX → State → Prop} {AX : Nat → Prop} (hr : vx_Run p l e R s m args below meth c H locs cells slots mc ms (F0 m pc ls st0) rest (va_Qd post B A1 a) (vx_X px BX AX) free) (hS : va_S A0 H0 H locs) (hA : ∀ q, q < H.size → A1 q → A0 q) (hf : ∀ q, free q → A0 q) (hAX : ∀ q, q < H.size → AX q → A0 q)
    (kx : ∀ (E : String) (ce : Cell) (q9 : Addr) (u : SX) (t : State) (H1 : Heap) (locs1 : List Loc), t.heap = H1 → s.vm.Alike t.vm → px u → BX E u t → H.size ≤ H1.size → (∀ q : Nat, q < H.size → ¬ AX q → H1[q]? = H[q]?) → va_S A0 H0 H1 locs1 → H1[q9]? = some ce → ce.vm = .none → s.vm.findClass E = some ce.cls → vx_W p l e R s m args below meth c H1 locs1 (cells + mc) (slots + ms) Q (F0 m pc ls rest) q9)
    (kk : ∀ (r : UInt64) (u : S) (t : State) (H1 : Heap) (locs1 : List Loc), t.heap = H1 → s.vm.Alike t.vm → post r u → B u t → H.size ≤ H1.size → (∀ q : Nat, q < H.size → ¬ A1 q → H1[q]? = H[q]?) → va_S A0 H0 H1 locs1 → W p l e R s m args below meth c H1 locs1 (cells + mc) (slots + ms) Q (F0 m (pc + 3) ls (.double r :: rest))) : W p l e R s m args below meth c H locs cells slots Q (F0 m pc ls st0) := by
  intro T hT X
  rcases hr T hT X with ⟨v, st₀, t, T', L, h0, X', hL, e1, e2, ⟨⟨r, u, hv, hp, hb⟩, hF⟩, st⟩ | ⟨q, st₀, t, T', L, E, ce, h0, X', hL, e1, e2, ⟨u, hp, hb, hF⟩, hce, hcv, hcl, st⟩
  · cases hv
    obtain ⟨k1, k2, k3⟩ := vx_keep h0 e1 hS hA hf hL hF
    obtain ⟨t2, a1, b1⟩ := kk r u t T'.heap (locs ++ L) e1.symm (by rw [← e2]; exact X'.warmed.alike) hp hb k1 k2 k3 T' rfl X'
    exact ⟨t2, st t2 a1, b1⟩
  · obtain ⟨k1, k2, k3⟩ := vx_keep h0 e1 hS hAX hf hL hF
    obtain ⟨t2, a1, b1⟩ := kx E ce q u t T'.heap (locs ++ L) e1.symm (by rw [← e2]; exact X'.warmed.alike) hp hb k1 k2 k3 (by rw [e1]; exact hce) hcv hcl T' rfl X'
    exact ⟨t2, st.trans a1, b1⟩
theorem vx_callv {S SX : Type} {post : S → Prop} {px : SX → Prop} {B : S → State → Prop} {BX : String → SX → State → Prop} {AX : Nat → Prop} (hr : vx_Run p l e R s m args below meth c H locs cells slots mc ms (F0 m pc ls st0) rest (va_Qv post B A1 a) (vx_X px BX AX) free) (hS : va_S A0 H0 H locs) (hA : ∀ q, q < H.size → A1 q → A0 q) (hf : ∀ q, free q → A0 q) (hAX : ∀ q, q < H.size → AX q → A0 q)
    (kx : ∀ (E : String) (ce : Cell) (q9 : Addr) (u : SX) (t : State) (H1 : Heap) (locs1 : List Loc), t.heap = H1 → s.vm.Alike t.vm → px u → BX E u t → H.size ≤ H1.size → (∀ q : Nat, q < H.size → ¬ AX q → H1[q]? = H[q]?) → va_S A0 H0 H1 locs1 → H1[q9]? = some ce → ce.vm = .none → s.vm.findClass E = some ce.cls → vx_W p l e R s m args below meth c H1 locs1 (cells + mc) (slots + ms) Q (F0 m pc ls rest) q9)
    (kk : ∀ (u : S) (t : State) (H1 : Heap) (locs1 : List Loc), t.heap = H1 → s.vm.Alike t.vm → post u → B u t → H.size ≤ H1.size → (∀ q : Nat, q < H.size → ¬ A1 q → H1[q]? = H[q]?) → va_S A0 H0 H1 locs1 → W p l e R s m args below meth c H1 locs1 (cells + mc) (slots + ms) Q (F0 m (pc + 3) ls (rest))) : W p l e R s m args below meth c H locs cells slots Q (F0 m pc ls st0) := by
  intro T hT X
  rcases hr T hT X with ⟨v, st₀, t, T', L, h0, X', hL, e1, e2, ⟨⟨u, hv, hp, hb⟩, hF⟩, st⟩ | ⟨q, st₀, t, T', L, E, ce, h0, X', hL, e1, e2, ⟨u, hp, hb, hF⟩, hce, hcv, hcl, st⟩
  · cases hv
    obtain ⟨k1, k2, k3⟩ := vx_keep h0 e1 hS hA hf hL hF
    obtain ⟨t2, a1, b1⟩ := kk u t T'.heap (locs ++ L) e1.symm (by rw [← e2]; exact X'.warmed.alike) hp hb k1 k2 k3 T' rfl X'
    exact ⟨t2, st t2 a1, b1⟩
  · obtain ⟨k1, k2, k3⟩ := vx_keep h0 e1 hS hAX hf hL hF
    obtain ⟨t2, a1, b1⟩ := kx E ce q u t T'.heap (locs ++ L) e1.symm (by rw [← e2]; exact X'.warmed.alike) hp hb k1 k2 k3 (by rw [e1]; exact hce) hcv hcl T' rfl X'
    exact ⟨t2, st.trans a1, b1⟩
/-- caught by the row x of this method's table; the rows ahead don't take it -/
theorem vx_catch {own name : String} {E : String} {ce : Cell} {q : Addr} (hown : s.vm.findClass own = some m.cls) (pre : List ExceptionTableEntry) (x : ExceptionTableEntry) (suf : List ExceptionTableEntry) (hsplit : c.exceptionTable.toList = pre ++ x :: suf)
    (hpass : ∀ z ∈ pre, covers z pc = false ∨ (z.catchType ≠ 0 ∧ ∃ nm : String, (Cond.classLink own z.catchType nm).before args s = true ∧ va_Nc E nm s)) (hx : covers x pc = true) (h0 : x.catchType ≠ 0)
    (hlink : (Cond.classLink own x.catchType name).before args s = true) (hcast : (Cond.castable E name).before args s = true) (hcell : H[q]? = some ce) (hv : ce.vm = .none) (hcl : s.vm.findClass E = some ce.cls)
    (kk : W p l e R s m args below meth c H locs cells slots Q (F0 m x.handlerPc ls [.ref q])) : vx_W p l e R s m args below meth c H locs cells slots Q (F0 m pc ls rest) q := by
  intro T hT X
  have hpl : e.platform.magicAccessors = ({} : Platform).magicAccessors := by rw [X.admits.platform]
  obtain ⟨c3, c4, hc3, hc4, hasg⟩ := Cond.castable_spec hcast
  cases Option.some.inj (hc3.symm.trans hcl)
  obtain ⟨c5, hc5, hcl5⟩ := Cond.classLink_spec hown hlink e.platform hpl
  cases Option.some.inj (hc4.symm.trans hc5)
  obtain ⟨vm', X', st⟩ := X.thenCaughtThrough q (g := F0 m pc ls rest) rfl (Steps.refl _) (by rw [hT]; exact hcell) (by rw [hv]; rfl) (by obtain ⟨k9, h9, -⟩ := Vm.findClass_spec hcl; exact ⟨k9, h9⟩) pre x suf hsplit
    (fun z hz => by
      rcases hpass z hz with h | ⟨hz0, nm, hl1, hn1⟩
      · exact Or.inl h
      · obtain ⟨c6, hc6, hcl6⟩ := Cond.classLink_spec hown hl1 e.platform hpl
        obtain ⟨a8, b8, h1, h2, h3⟩ := hn1
        cases Option.some.inj (h1.symm.trans hcl)
        cases Option.some.inj (h2.symm.trans hc6)
        exact Or.inr ⟨hz0, _, hcl6, h3⟩) hx (Or.inr ⟨h0, c4, hcl5, hasg⟩)
  obtain ⟨t, a1, b1⟩ := kk (T.setVm vm') hT X'
  exact ⟨t, st.trans a1, b1⟩
end Rows
section Ends
variable {p : Program} {l : Launch} {e : Env} {R : Room} {s : State} {m : MethodId} {args : Array Value} {below : List Frame} {meth : Method} {c : Code} {H : Heap} {locs : List Loc} {cells slots : Nat} {Q : State → Prop}
variable {mc ms : Nat} {free : Addr → Prop} {A0 A1 : Nat → Prop} {H0 : Heap} {a : Array Value} {ls : Array Slot} {st0 rest : List Value}
variable {Qc : Array Value → State → Outcome → State → Prop} {XC : String → State → State → Prop}
/-- what a body that may throw owes at its end -/
def vx_MQ (below : List Frame) (Qc : Array Value → State → Outcome → State → Prop) (XC : String → State → State → Prop) (a : Array Value) (s : State) (mc ms : Nat) (free : Addr → Prop) : State → Prop := fun t =>
  ∃ o, t.status = .running ∧ Ended t below o ∧ vx_Q Qc XC mc ms free a s o t
theorem vx_ret {g : JFrame} {mc ms : Nat} (k : W p l e R s m args below meth c H locs cells slots (MQ below Qc args s mc ms free) g) : W p l e R s m args below meth c H locs cells slots (vx_MQ below Qc XC args s mc ms free) g := by
  intro T hT X
  obtain ⟨t, a1, o, b1, b2, b3, b4⟩ := k T hT X
  exact ⟨t, a1, o, b1, b2, Or.inl ⟨b3, b4⟩⟩
/-- not caught here: it goes on to the caller -/
theorem vx_widen {g : JFrame} {q : Addr} {k n : Nat} (h1 : cells ≤ k) (h2 : slots ≤ n) (kk : vx_W p l e R s m args below meth c H locs k n Q g q) : vx_W p l e R s m args below meth c H locs cells slots Q g q := fun T hT X => kk T hT (stand_widen X h1 h2)
theorem vx_out {pc : Nat} {E : String} {ce : Cell} {q : Addr} {mc ms : Nat} (hout : ∀ x ∈ c.exceptionTable.toList, covers x pc = false) (hlocks : meth.locks = false) (hcell : H[q]? = some ce) (hv : ce.vm = .none) (hcl : s.vm.findClass E = some ce.cls)
    (hx : ∀ t : State, t.heap = H → s.vm.Alike t.vm → XC E s t) (hf : ∀ z ∈ locs, free z.base) (hc : cells ≤ mc) (hs : slots ≤ ms) :
    vx_W p l e R s m args below meth c H locs cells slots (vx_MQ below Qc XC args s mc ms free) (F0 m pc ls rest) q := by
  intro T hT X
  obtain ⟨st1, hrun, hend, hW, hsm⟩ := X.leaveThrown q (g := F0 m pc ls rest) rfl rfl rfl hout hlocks
  have hcell9 : (T.setFrames (.throwing q :: below)).heap[q]? = some ce := by
    show T.heap[q]? = some ce
    rw [hT]; exact hcell
  exact ⟨_, st1, .threw q, hrun, hend, Or.inr ⟨q, rfl, E, ce, locs, hx _ hT hW.alike, hcell9, hv, hcl, hW, hsm.mono hc hs, hf⟩⟩
theorem vx_frame {U : State} {k n : Nat} (h : s.sameButNew ({ U with vm := s.vm } : State) locs k n) : s.heap.size ≤ U.heap.size ∧ ∀ q : Nat, q < s.heap.size → (∀ z ∈ locs, z.base ≠ q) → U.heap[q]? = s.heap[q]? := by
  obtain ⟨-, h2, -, -, -, h6⟩ := h
  refine ⟨h2, fun q hq hz => ?_⟩
  obtain ⟨c9, e1, e2, e3, e4⟩ := h6 q _ (Array.getElem?_eq_getElem hq)
  have hs : c9.slots = (s.heap[q]).slots := Array.ext_getElem? fun i => e4 i fun hm => hz _ hm rfl
  have h9 : c9 = s.heap[q] := by
    rw [hs] at e2
    exact e2
  have e5 : U.heap[q]? = some c9 := e1
  rw [e5, h9, Array.getElem?_eq_getElem hq]
/-- the words of a throw but the four that speak of the heap -/
def vx_no (w : Cond) : Bool := decide (w ≠ .isRef (.static Bundle.tN "UNASSIGNED_STACK" Bundle.steD)) && decide (w ≠ .isRef (.static Bundle.tN "SUPPRESSED_SENTINEL" Bundle.listD)) && decide (w ≠ .laysStatic Bundle.tN "UNASSIGNED_STACK" Bundle.steD) && decide (w ≠ .laysStatic Bundle.tN "SUPPRESSED_SENTINEL" Bundle.listD)
def vx_at0 (own : String) (ic : Nat) (X : String) (names : List String) : List Cond := (Bundle.ownAtoms0 own ic X names).filter vx_no
def vx_atS (own : String) (ic : Nat) (X : String) (names : List String) : List Cond := (Bundle.ownAtoms own ic X names).filter vx_no
/-- a word that the tables alone decide, or a good one -/
def vx_ot (w : Cond) : Bool := w.onTables || goodWord w
theorem vx_ot_at {args a' : Array Value} {s U : State} {w : Cond} (hW : s.WarmedH U.vm) (hvm : s.vm = U.vm) (hg : vx_ot w = true) (h : w.before args s = true) : w.before a' U = true := by
  simp only [vx_ot, Bool.or_eq_true] at hg
  rcases hg with hg | hg
  · exact va_tabs hg hvm h
  · exact word_at hW (good_of_word hg) h
/-- a list's words: the good ones out of the method's own list, the others by premises of their own -/
theorem vx_hat {args : Array Value} {s : State} {L B : List Cond} (h1 : ∀ w ∈ L.filter goodWord, w.before args s = true) (h2 : ∀ w ∈ L.filter (fun w => !goodWord w), w ∈ B) (h3 : ∀ w ∈ B, w.before args s = true) : ∀ w ∈ L, w.before args s = true := by
  intro w hw
  by_cases g : goodWord w = true
  · exact h1 w (List.mem_filter.mpr ⟨hw, g⟩)
  · refine h3 w (h2 w (List.mem_filter.mpr ⟨hw, ?_⟩))
    show (!goodWord w) = true
    cases hgw : goodWord w
    · rfl
    · exact absurd hgw g
theorem vx_c {args : Array Value} {s : State} {w : Cond} {B : List Cond} (h : w.before args s = true) (t : ∀ w ∈ B, w.before args s = true) : ∀ w' ∈ w :: B, w'.before args s = true := fun w' h' => (List.mem_cons.mp h').elim (fun e => by rw [e]; exact h) (t w')
theorem vx_n {args : Array Value} {s : State} : ∀ w ∈ ([] : List Cond), w.before args s = true := fun _ h => nomatch h
theorem vx_own {args : Array Value} {s : State} {L : List Cond} (h1 : ∀ w ∈ L.filter vx_no, w.before args s = true)
    (hU : (Cond.isRef (.static Bundle.tN "UNASSIGNED_STACK" Bundle.steD)).before args s = true) (hN : (Cond.isRef (.static Bundle.tN "SUPPRESSED_SENTINEL" Bundle.listD)).before args s = true)
    (lU : (Cond.laysStatic Bundle.tN "UNASSIGNED_STACK" Bundle.steD).before args s = true) (lN : (Cond.laysStatic Bundle.tN "SUPPRESSED_SENTINEL" Bundle.listD).before args s = true) : ∀ w ∈ L, w.before args s = true := by
  intro w hw
  by_cases e1 : w = .isRef (.static Bundle.tN "UNASSIGNED_STACK" Bundle.steD)
  · rw [e1]; exact hU
  · by_cases e2 : w = .isRef (.static Bundle.tN "SUPPRESSED_SENTINEL" Bundle.listD)
    · rw [e2]; exact hN
    · by_cases e3 : w = .laysStatic Bundle.tN "UNASSIGNED_STACK" Bundle.steD
      · rw [e3]; exact lU
      · by_cases e4 : w = .laysStatic Bundle.tN "SUPPRESSED_SENTINEL" Bundle.listD
        · rw [e4]; exact lN
        · exact h1 w (List.mem_filter.mpr ⟨hw, by unfold vx_no; rw [decide_eq_true e1, decide_eq_true e2, decide_eq_true e3, decide_eq_true e4]; rfl⟩)
/-- where a static field lies, its class's statics cell in H -/
def vx_L (C n d : String) (A : Nat → Prop) (U : State) (H : Heap) : Prop := ∃ (c : ClassId) (k : Class) (i : Nat) (f : Field) (a : Nat) (cell : Cell), U.vm.findClass C = some c ∧ U.fieldFound? C n d = some (c, k, i, f) ∧ f.isStatic = true ∧ k.statics = some a ∧ H[a]? = some cell ∧ cell.vm.isStatics = true ∧ cell.cls = c ∧ f.slot < cell.slots.size ∧ k.staticTypes[f.slot]? = some f.type ∧ ¬ A a
theorem vx_L.moved {C n d : String} {A : Nat → Prop} {u U : State} {H : Heap} (hvm : u.vm.Alike U.vm) (h : vx_L C n d A u H) : vx_L C n d A U H := by
  obtain ⟨c, k, i, f, a, cell, h1, h2, h3, h4, h5, h6, h7, h8, h9, h10⟩ := h
  obtain ⟨k', hi', he⟩ := State.fieldFound?_setVm hvm h2
  exact ⟨c, k', i, f, a, cell, by rw [hvm.findClass]; exact h1, hi', h3, by rw [he]; exact h4, h5, h6, h7, h8, by rw [he]; exact h9, h10⟩
theorem vx_L.kept {C n d : String} {A : Nat → Prop} {U : State} {H H1 : Heap} (h : vx_L C n d A U H) (hq : ∀ a : Nat, a < H.size → ¬ A a → H1[a]? = H[a]?) : vx_L C n d A U H1 := by
  obtain ⟨c, k, i, f, a, cell, h1, h2, h3, h4, h5, h6, h7, h8, h9, h10⟩ := h
  exact ⟨c, k, i, f, a, cell, h1, h2, h3, h4, by rw [hq a (Array.getElem?_eq_some_iff.mp h5).1 h10]; exact h5, h6, h7, h8, h9, h10⟩
theorem vx_L.narrow {C n d : String} {A B : Nat → Prop} {U : State} {H : Heap} (h : vx_L C n d A U H) (hAB : ∀ q, B q → A q) : vx_L C n d B U H := by
  obtain ⟨c, k, i, f, a, cell, h1, h2, h3, h4, h5, h6, h7, h8, h9, h10⟩ := h
  exact ⟨c, k, i, f, a, cell, h1, h2, h3, h4, h5, h6, h7, h8, h9, fun z => h10 (hAB _ z)⟩
theorem vx_L.word {C n d : String} {A : Nat → Prop} {s : State} {args : Array Value} (h : vx_L C n d A s s.heap) : (Cond.laysStatic C n d).before args s = true := by
  obtain ⟨c, k, i, f, a, cell, h1, h2, h3, h4, h5, h6, h7, h8, h9, -⟩ := h
  show (Cond.laysStatic C n d).holds args s none s [] = true
  exact Cond.laysStatic_of h1 h2 h3 h4 h5 h6 h7 h8 h9
/-- .. and what it holds: null or some reference -/
def vx_Zq (C n d : String) (A : Nat → Prop) (U : State) (H : Heap) : Prop := va_Zq C n d A U H ∧ vx_L C n d A U H
theorem vx_Zq.moved {C n d : String} {A : Nat → Prop} {u U : State} {H : Heap} (hvm : u.vm.Alike U.vm) (h : vx_Zq C n d A u H) : vx_Zq C n d A U H := ⟨va_Zq.moved hvm h.1, vx_L.moved hvm h.2⟩
theorem vx_Zq.kept {C n d : String} {A : Nat → Prop} {U : State} {H H1 : Heap} (h : vx_Zq C n d A U H) (hq : ∀ a : Nat, a < H.size → ¬ A a → H1[a]? = H[a]?) : vx_Zq C n d A U H1 := ⟨va_Zq.kept h.1 hq, vx_L.kept h.2 hq⟩
theorem vx_Zq.narrow {C n d : String} {A B : Nat → Prop} {U : State} {H : Heap} (h : vx_Zq C n d A U H) (hAB : ∀ q, B q → A q) : vx_Zq C n d B U H := ⟨va_Zq.narrow h.1 hAB, vx_L.narrow h.2 hAB⟩
theorem vx_Zqof {args : Array Value} {s : State} {C n d : String} {A : Nat → Prop} (hl : (Cond.laysStatic C n d).before args s = true) (hini : (Cond.initialized C).before args s = true) (h : (Cond.isRef (.static C n d)).before args s = true) (hA : ∀ a : Nat, a < s.heap.size → ¬ A a) : vx_Zq C n d A s s.heap := by
  refine ⟨va_Zqof hl hini h hA, ?_⟩
  obtain ⟨c, k, i, f, a, cell, h1, h2, h3, h4, h5, h6, h7, h8, h9⟩ := Cond.laysStatic_spec hl
  exact ⟨c, k, i, f, a, cell, h1, h2, h3, h4, h5, h6, h7, h8, h9, hA a (Array.getElem?_eq_some_iff.mp h5).1⟩
theorem vx_isRef {C n d : String} {v : Value} {A : Nat → Prop} {s : State} {args : Array Value} (h : va_Z C n d v A s s.heap) (hv : v.isRef = true) : (Cond.isRef (.static C n d)).before args s = true := by
  obtain ⟨cf, kf, fi, f, a, cell, h1, h2, h3, h4, h5, h6, h7, -⟩ := h
  have he : (Term.static C n d).eval args s none [] s = some v := by
    simp [Term.eval, State.fieldNamed?, h1, h2, h4, h5, h6, h7]
  simp only [Cond.before, Cond.holds, Cond.value, he]
  cases v <;> simp_all [Value.isRef]
theorem vx_isRefq {C n d : String} {A : Nat → Prop} {s : State} {args : Array Value} (h : va_Zq C n d A s s.heap) : (Cond.isRef (.static C n d)).before args s = true := by
  rcases h with h | ⟨t, h⟩
  · exact vx_isRef h rfl
  · exact vx_isRef h rfl
/-- the same frame, seen from here: as if the method were called anew in this heap -/
theorem vx_rebase {T : State} (X : Stand p l e R s m args below meth c T locs cells slots) {R' : Room} (hf : R'.frames ≤ R.frames) (hl : R'.locals ≤ R.locals) (hc : cells + R'.cells ≤ R.cells) (hs : slots + R'.slots ≤ R.slots) :
    Stand p l e R' ((T.setVm s.vm).setFrames (.invoking m args :: below)) m args below meth c T [] 0 0 := by
  have htop : (T.setVm s.vm).topJava?.isSome := X.here.top
  have hF : ((T.setVm s.vm).setFrames (.invoking m args :: below)).frames = .invoking m args :: below := State.frames_setFrames _ (State.cur_lt_of_top htop)
  obtain ⟨g₀, hg0⟩ := Option.isSome_iff_exists.mp htop
  obtain ⟨r, hr⟩ := State.topJava?_eq_some.mp hg0
  have hl9 : e.platform.stackLimits (T.setVm s.vm).me = e.platform.stackLimits s.me := X.limits
  have hb9 : (T.setVm s.vm).me.stackBytes = s.me.stackBytes := X.bytes
  refine ⟨X.admits, X.cas, X.clock, hF, ?_, X.hears, X.method, X.code, X.here, X.tail, X.warmed, ?_, ?_, ?_⟩
  · have h := X.room
    have hU : ((T.setVm s.vm).setFrames (.invoking m args :: below)).localsInUse = s.localsInUse := by
      rw [State.localsInUse_invoking hF (meth := meth) (c := c) X.method X.code, State.localsInUse_invoking X.frames X.method X.code]
    simp only [State.hasRoom, Bool.and_eq_true, decide_eq_true_eq] at h ⊢
    obtain ⟨⟨⟨⟨h1, h2, h3, h4, h5, h6⟩, h7⟩, h8⟩, h9⟩ := h
    rw [X.frames, List.length_cons] at h2 h3
    have q1 := X.heapSize
    have q2 := X.used
    simp only [hF, hU, List.length_cons, State.stackLimits_setFrames, State.stackBytes_setFrames, hl9, hb9]
    refine ⟨⟨⟨⟨by omega, by omega, by omega, by omega, by omega, h6⟩, ?_⟩, ?_⟩, X.book⟩
    · show T.heap.size + R'.cells ≤ e.platform.maxCells
      omega
    · show T.slotsUsed + R'.slots ≤ e.platform.maxSlots
      omega
  · rw [State.stackLimits_setFrames]; rfl
  · rw [State.stackBytes_setFrames]; rfl
  · refine ⟨?_, Nat.le_refl _, Nat.le_refl _, ?_, ?_, fun a c9 h9 => ⟨c9, h9, rfl, rfl, fun _ _ => rfl⟩⟩
    · obtain ⟨t, ht, -⟩ := State.frames_cons hr
      show T.setVm s.vm = { ((T.setVm s.vm).setFrames (.invoking m args :: below)).setFrames (T.setVm s.vm).frames with heap := T.heap, slotsUsed := T.slotsUsed }
      rw [State.setFrames_setFrames, State.setFrames_self ht]
      rfl
    · show T.slotsUsed = T.slotsUsed + ((T.heap.toList.drop T.heap.size).map (·.slots.size)).sum
      rw [List.drop_eq_nil_of_le (Nat.le_of_eq Array.length_toList)]
      rfl
    · show ((T.heap.toList.drop T.heap.size).map (·.slots.size)).sum ≤ 0
      rw [List.drop_eq_nil_of_le (Nat.le_of_eq Array.length_toList)]
      exact Nat.le_refl _
/-- 'throw new E()': new; dup; invokespecial; athrow -/
theorem vx_throw0 {cc : ByteArray} {pc : Nat} (hexec : p.tables.exec = Jvm.exec) (hb : c.code = cc) (hl : l.stackTraces = false) {own cls : String} {names : List String} {ik ic mc ms : Nat} {A : Nat → Prop}
    (hown : s.vm.findClass own = some m.cls) (hcls : Bundle.fit cls = true) (hnames : ∀ n ∈ names, Bundle.fit n = true)
    (hk : (Cond.classLink own ik cls).before args s = true) (hini : (Cond.initialized cls).before args s = true) (hat : ∀ w ∈ vx_at0 own ic cls names, w.before args s = true)
    (hgood : ∀ w ∈ Cond.classLink own ik cls :: Cond.initialized cls :: vx_at0 own ic cls names, vx_ot w = true)
    (hU : vx_Zq Bundle.tN "UNASSIGNED_STACK" Bundle.steD A s s.heap) (hN : vx_Zq Bundle.tN "SUPPRESSED_SENTINEL" Bundle.listD A s s.heap) (hS : va_S A s.heap H locs) (hsize : ls.size = c.maxLocals)
    (d0 : decode cc pc = .ok (.new ik, 3)) (d3 : decode cc (pc + 3) = .ok (.dup, 1)) (d4 : decode cc (pc + 4) = .ok (.invokespecial ic, 3)) (d7 : decode cc (pc + 7) = .ok (.athrow, 1))
    (hout : ∀ x ∈ c.exceptionTable.toList, covers x (pc + 7) = false)
    (hRframes : names.length + 3 < R.frames) (hRlocals : (rest.map fun v => v.category).sum + (13 * (names.length + 1) + 42) ≤ R.locals) (hRcells : cells + 1 ≤ R.cells) (hRslots : slots + 6 ≤ R.slots) (hlocks : meth.locks = false)
    (hx : ∀ t : State, s.vm.Alike t.vm → H.size ≤ t.heap.size → (∀ q : Nat, q < H.size → t.heap[q]? = H[q]?) → XC cls s t)
    (hf : ∀ z ∈ locs, free z.base) (hc : cells + 1 ≤ mc) (hs : slots + 6 ≤ ms) :
    W p l e R s m args below meth c H locs cells slots (vx_MQ below Qc XC args s mc ms free) (F0 m pc ls rest) := by
  intro T hT X
  have htr : e.platform.stackTraces = false := (show e.platform.stackTraces = l.stackTraces by rw [X.admits.platform]).trans hl
  have Y := vx_rebase X (R' := { frames := R.frames, locals := R.locals, cells := 1, slots := 6 }) (Nat.le_refl _) (Nat.le_refl _) hRcells hRslots
  obtain ⟨s', hA⟩ : ∃ z, z = (T.setVm s.vm).setFrames (.invoking m args :: below) := ⟨_, rfl⟩
  rw [← hA] at Y
  have hvm : s'.vm = s.vm := by rw [hA]; rfl
  have hhp : s'.heap = H := by rw [hA]; exact hT
  have hW0 : s.WarmedH s'.vm := by rw [hvm]; exact State.WarmedH.refl s
  have hat' : ∀ w ∈ vx_at0 own ic cls names, w.before args s' = true := fun w hw => vx_ot_at hW0 hvm.symm (hgood w (List.mem_cons_of_mem _ (List.mem_cons_of_mem _ hw))) (hat w hw)
  have hk' : (Cond.classLink own ik cls).before args s' = true := vx_ot_at hW0 hvm.symm (hgood _ List.mem_cons_self) hk
  have hini' : (Cond.initialized cls).before args s' = true := vx_ot_at hW0 hvm.symm (hgood _ (List.mem_cons_of_mem _ List.mem_cons_self)) hini
  have hU' : vx_Zq Bundle.tN "UNASSIGNED_STACK" Bundle.steD A s' s'.heap := by rw [hhp]; exact vx_Zq.moved hW0.alike (hU.kept hS.2.1)
  have hN' : vx_Zq Bundle.tN "SUPPRESSED_SENTINEL" Bundle.listD A s' s'.heap := by rw [hhp]; exact vx_Zq.moved hW0.alike (hN.kept hS.2.1)
  have h : ∀ w ∈ Bundle.ownAtoms0 own ic cls names, w.before args s' = true := vx_own hat' (vx_isRefq hU'.1) (vx_isRefq hN'.1) hU'.2.word hN'.2.word
  have hown' : s'.vm.findClass own = some m.cls := by rw [hvm]; exact hown
  have hins : (Cond.instantiable cls 6).before args s' = true := h _ (by simp [Bundle.ownAtoms0])
  obtain ⟨vm₁, cX, kX, hfX, hkX, -, -, X₁, st1⟩ := Y.newCold hexec (own := own) (C := cls) (index := ik) (n := 6) hown' hk' hins hini'
    (g := F0 m pc ls rest) rfl (by rw [hb]; exact d0) (Nat.le_refl _) (Nat.le_refl _)
  generalize hT1 : (T.setVm vm₁).pushCell { cls := cX, slots := kX.instanceTypes.map defaultValue, vm := .none } = T1 at X₁ st1
  have hcat : (Value.ref T.heap.size).category = 1 := rfl
  have hcellA : T1.heap[T.heap.size]? = some (freshCell cX kX) := by rw [← hT1]; exact State.heap_pushCell_size _ _
  have d3' : decode c.code (pc + 3) = .ok (.dup, 1) := by rw [hb]; exact d3
  obtain ⟨U, hsteps, hrun, hend, hW, hsame, ce, hce, hO⟩ := X₁.ctorThrow0 hexec htr (own := own) (cls := cls) (names := names) (ic := ic) hown' hcls hnames h (fun x hx => nomatch hx) hfX hkX hcellA (by rw [hhp, hT]; exact Nat.le_refl _)
    (g := { method := m, pc := pc + 4, locals := ls, stack := .ref T.heap.size :: .ref T.heap.size :: rest, locked := none }) rfl hsize rfl rfl (rest := rest) rfl
    (by rw [hb]; exact d4) (by rw [hb]; exact d7) hout hRframes (by simp only [List.map_cons, List.sum_cons, hcat]; omega) hlocks
  obtain ⟨f1, f2⟩ := vx_frame hsame
  rw [hhp] at f1 f2
  have hWs : s.WarmedH U.vm := State.WarmedH.trans hW0 hW
  have hcl : s.vm.findClass cls = some ce.cls := by
    have h9 := hO.cls
    rw [hvm] at h9
    exact h9
  have hall : s.sameButNew ({ U with vm := s.vm } : State) locs mc ms := by
    subst hA
    obtain ⟨e1, e2⟩ := hsame
    rw [State.setFrames_setFrames] at e1
    have h2 : (T.setVm s.vm).sameButNew ({ U with vm := s.vm } : State) [] (0 + 1) (0 + 6) := ⟨e1, e2⟩
    have h3 := X.same.trans h2
    rw [List.append_nil] at h3
    exact h3.mono hc hs
  refine ⟨U, ?_, .threw T.heap.size, hrun, hend, Or.inr ⟨T.heap.size, rfl, cls, ce, locs, hx U hWs.alike f1 (fun q hq => f2 q hq (fun z hz => nomatch hz)), hce, hO.vm, hcl, hWs, hall, hf⟩⟩
  refine st1 _ ?_
  show Steps p.tables e below (T1.setTop { method := m, pc := pc + 3, locals := ls, stack := .ref T.heap.size :: rest, locked := none }) _
  jvm_step X₁.here [X₁.here.top, hexec, d3', Value.category]
  exact hsteps
/-- 'throw new E("text")': new; dup; ldc; invokespecial; athrow -/
theorem vx_throwS {cc : ByteArray} {pc : Nat} (hexec : p.tables.exec = Jvm.exec) (hb : c.code = cc) (hl : l.stackTraces = false) {own cls text : String} {names : List String} {ik is ic mc ms sa : Nat} {A : Nat → Prop}
    (hown : s.vm.findClass own = some m.cls) (hcls : Bundle.fit cls = true) (hnames : ∀ n ∈ names, Bundle.fit n = true)
    (hk : (Cond.classLink own ik cls).before args s = true) (hini : (Cond.initialized cls).before args s = true) (hstr : vk_R own is text sa s) (hat : ∀ w ∈ vx_atS own ic cls names, w.before args s = true)
    (hgood : ∀ w ∈ Cond.classLink own ik cls :: Cond.initialized cls :: vx_atS own ic cls names, vx_ot w = true)
    (hU : vx_Zq Bundle.tN "UNASSIGNED_STACK" Bundle.steD A s s.heap) (hN : vx_Zq Bundle.tN "SUPPRESSED_SENTINEL" Bundle.listD A s s.heap) (hS : va_S A s.heap H locs) (hsize : ls.size = c.maxLocals)
    (d0 : decode cc pc = .ok (.new ik, 3)) (d3 : decode cc (pc + 3) = .ok (.dup, 1)) (d4 : decode cc (pc + 4) = .ok (.ldc is, 2)) (d6 : decode cc (pc + 6) = .ok (.invokespecial ic, 3)) (d9 : decode cc (pc + 9) = .ok (.athrow, 1))
    (hout : ∀ x ∈ c.exceptionTable.toList, covers x (pc + 9) = false)
    (hRframes : names.length + 3 < R.frames) (hRlocals : (rest.map fun v => v.category).sum + (13 * (names.length + 1) + 43) ≤ R.locals) (hRcells : cells + 1 ≤ R.cells) (hRslots : slots + 6 ≤ R.slots) (hlocks : meth.locks = false)
    (hx : ∀ t : State, s.vm.Alike t.vm → H.size ≤ t.heap.size → (∀ q : Nat, q < H.size → t.heap[q]? = H[q]?) → XC cls s t)
    (hf : ∀ z ∈ locs, free z.base) (hc : cells + 1 ≤ mc) (hs : slots + 6 ≤ ms) :
    W p l e R s m args below meth c H locs cells slots (vx_MQ below Qc XC args s mc ms free) (F0 m pc ls rest) := by
  intro T hT X
  have htr : e.platform.stackTraces = false := (show e.platform.stackTraces = l.stackTraces by rw [X.admits.platform]).trans hl
  have Y := vx_rebase X (R' := { frames := R.frames, locals := R.locals, cells := 1, slots := 6 }) (Nat.le_refl _) (Nat.le_refl _) hRcells hRslots
  obtain ⟨s', hA⟩ : ∃ z, z = (T.setVm s.vm).setFrames (.invoking m args :: below) := ⟨_, rfl⟩
  rw [← hA] at Y
  have hvm : s'.vm = s.vm := by rw [hA]; rfl
  have hhp : s'.heap = H := by rw [hA]; exact hT
  have hW0 : s.WarmedH s'.vm := by rw [hvm]; exact State.WarmedH.refl s
  have hat' : ∀ w ∈ vx_atS own ic cls names, w.before args s' = true := fun w hw => vx_ot_at hW0 hvm.symm (hgood w (List.mem_cons_of_mem _ (List.mem_cons_of_mem _ hw))) (hat w hw)
  have hk' : (Cond.classLink own ik cls).before args s' = true := vx_ot_at hW0 hvm.symm (hgood _ List.mem_cons_self) hk
  have hini' : (Cond.initialized cls).before args s' = true := vx_ot_at hW0 hvm.symm (hgood _ (List.mem_cons_of_mem _ List.mem_cons_self)) hini
  have hU' : vx_Zq Bundle.tN "UNASSIGNED_STACK" Bundle.steD A s' s'.heap := by rw [hhp]; exact vx_Zq.moved hW0.alike (hU.kept hS.2.1)
  have hN' : vx_Zq Bundle.tN "SUPPRESSED_SENTINEL" Bundle.listD A s' s'.heap := by rw [hhp]; exact vx_Zq.moved hW0.alike (hN.kept hS.2.1)
  have h : ∀ w ∈ Bundle.ownAtoms own ic cls names, w.before args s' = true := vx_own hat' (vx_isRefq hU'.1) (vx_isRefq hN'.1) hU'.2.word hN'.2.word
  have hown' : s'.vm.findClass own = some m.cls := by rw [hvm]; exact hown
  have hins : (Cond.instantiable cls 6).before args s' = true := h _ (by simp [Bundle.ownAtoms])
  obtain ⟨vm₁, cX, kX, hfX, hkX, -, -, X₁, st1⟩ := Y.newCold hexec (own := own) (C := cls) (index := ik) (n := 6) hown' hk' hins hini'
    (g := F0 m pc ls rest) rfl (by rw [hb]; exact d0) (Nat.le_refl _) (Nat.le_refl _)
  generalize hT1 : (T.setVm vm₁).pushCell { cls := cX, slots := kX.instanceTypes.map defaultValue, vm := .none } = T1 at X₁ st1
  have hcat : (Value.ref T.heap.size).category = 1 := rfl
  have hcellA : T1.heap[T.heap.size]? = some (freshCell cX kX) := by rw [← hT1]; exact State.heap_pushCell_size _ _
  have d3' : decode c.code (pc + 3) = .ok (.dup, 1) := by rw [hb]; exact d3
  have d4' : decode c.code (pc + 4) = .ok (.ldc is, 2) := by rw [hb]; exact d4
  have hstr' : vk_R own is text sa s' := vk_R.warm hW0 hstr
  obtain ⟨U, hsteps, hrun, hend, hW, hsame, ce, hce, hO⟩ := X₁.ctorThrowS hexec htr (own := own) (cls := cls) (names := names) (ic := ic) hown' hcls hnames h (fun x hx => nomatch hx) hfX hkX hcellA (by rw [hhp, hT]; exact Nat.le_refl _) (msg := .ref sa) rfl
    (g := { method := m, pc := pc + 6, locals := ls, stack := .ref sa :: .ref T.heap.size :: .ref T.heap.size :: rest, locked := none }) rfl hsize rfl rfl (rest := rest) rfl
    (by rw [hb]; exact d6) (by rw [hb]; exact d9) hout hRframes (by simp only [List.map_cons, List.sum_cons, hcat]; omega) hlocks
  obtain ⟨f1, f2⟩ := vx_frame hsame
  rw [hhp] at f1 f2
  have hWs : s.WarmedH U.vm := State.WarmedH.trans hW0 hW
  have hcl : s.vm.findClass cls = some ce.cls := by
    have h9 := hO.cls
    rw [hvm] at h9
    exact h9
  have hall : s.sameButNew ({ U with vm := s.vm } : State) locs mc ms := by
    subst hA
    obtain ⟨e1, e2⟩ := hsame
    rw [State.setFrames_setFrames] at e1
    have h2 : (T.setVm s.vm).sameButNew ({ U with vm := s.vm } : State) [] (0 + 1) (0 + 6) := ⟨e1, e2⟩
    have h3 := X.same.trans h2
    rw [List.append_nil] at h3
    exact h3.mono hc hs
  refine ⟨U, ?_, .threw T.heap.size, hrun, hend, Or.inr ⟨T.heap.size, rfl, cls, ce, locs, hx U hWs.alike f1 (fun q hq => f2 q hq (fun z hz => nomatch hz)), hce, hO.vm, hcl, hWs, hall, hf⟩⟩
  refine st1 _ ?_
  show Steps p.tables e below (T1.setTop { method := m, pc := pc + 3, locals := ls, stack := .ref T.heap.size :: rest, locked := none }) _
  jvm_step X₁.here [X₁.here.top, hexec, d3', Value.category]
  exact X₁.ldcString hexec (own := own) (text := text) (index := is) (a := sa) hown' hstr'.1 hstr'.2
    (g := { method := m, pc := pc + 4, locals := ls, stack := .ref T.heap.size :: .ref T.heap.size :: rest, locked := none }) rfl d4' _ hsteps
/-- 'throw new E("text")', the text by a wide index -/
theorem vx_throwSW {cc : ByteArray} {pc : Nat} (hexec : p.tables.exec = Jvm.exec) (hb : c.code = cc) (hl : l.stackTraces = false) {own cls text : String} {names : List String} {ik is ic mc ms sa : Nat} {A : Nat → Prop}
    (hown : s.vm.findClass own = some m.cls) (hcls : Bundle.fit cls = true) (hnames : ∀ n ∈ names, Bundle.fit n = true)
    (hk : (Cond.classLink own ik cls).before args s = true) (hini : (Cond.initialized cls).before args s = true) (hstr : vk_R own is text sa s) (hat : ∀ w ∈ vx_atS own ic cls names, w.before args s = true)
    (hgood : ∀ w ∈ Cond.classLink own ik cls :: Cond.initialized cls :: vx_atS own ic cls names, vx_ot w = true)
    (hU : vx_Zq Bundle.tN "UNASSIGNED_STACK" Bundle.steD A s s.heap) (hN : vx_Zq Bundle.tN "SUPPRESSED_SENTINEL" Bundle.listD A s s.heap) (hS : va_S A s.heap H locs) (hsize : ls.size = c.maxLocals)
    (d0 : decode cc pc = .ok (.new ik, 3)) (d3 : decode cc (pc + 3) = .ok (.dup, 1)) (d4 : decode cc (pc + 4) = .ok (.ldc_w is, 3)) (d7 : decode cc (pc + 7) = .ok (.invokespecial ic, 3)) (d10 : decode cc (pc + 10) = .ok (.athrow, 1))
    (hout : ∀ x ∈ c.exceptionTable.toList, covers x (pc + 10) = false)
    (hRframes : names.length + 3 < R.frames) (hRlocals : (rest.map fun v => v.category).sum + (13 * (names.length + 1) + 43) ≤ R.locals) (hRcells : cells + 1 ≤ R.cells) (hRslots : slots + 6 ≤ R.slots) (hlocks : meth.locks = false)
    (hx : ∀ t : State, s.vm.Alike t.vm → H.size ≤ t.heap.size → (∀ q : Nat, q < H.size → t.heap[q]? = H[q]?) → XC cls s t)
    (hf : ∀ z ∈ locs, free z.base) (hc : cells + 1 ≤ mc) (hs : slots + 6 ≤ ms) :
    W p l e R s m args below meth c H locs cells slots (vx_MQ below Qc XC args s mc ms free) (F0 m pc ls rest) := by
  intro T hT X
  have htr : e.platform.stackTraces = false := (show e.platform.stackTraces = l.stackTraces by rw [X.admits.platform]).trans hl
  have Y := vx_rebase X (R' := { frames := R.frames, locals := R.locals, cells := 1, slots := 6 }) (Nat.le_refl _) (Nat.le_refl _) hRcells hRslots
  obtain ⟨s', hA⟩ : ∃ z, z = (T.setVm s.vm).setFrames (.invoking m args :: below) := ⟨_, rfl⟩
  rw [← hA] at Y
  have hvm : s'.vm = s.vm := by rw [hA]; rfl
  have hhp : s'.heap = H := by rw [hA]; exact hT
  have hW0 : s.WarmedH s'.vm := by rw [hvm]; exact State.WarmedH.refl s
  have hat' : ∀ w ∈ vx_atS own ic cls names, w.before args s' = true := fun w hw => vx_ot_at hW0 hvm.symm (hgood w (List.mem_cons_of_mem _ (List.mem_cons_of_mem _ hw))) (hat w hw)
  have hk' : (Cond.classLink own ik cls).before args s' = true := vx_ot_at hW0 hvm.symm (hgood _ List.mem_cons_self) hk
  have hini' : (Cond.initialized cls).before args s' = true := vx_ot_at hW0 hvm.symm (hgood _ (List.mem_cons_of_mem _ List.mem_cons_self)) hini
  have hU' : vx_Zq Bundle.tN "UNASSIGNED_STACK" Bundle.steD A s' s'.heap := by rw [hhp]; exact vx_Zq.moved hW0.alike (hU.kept hS.2.1)
  have hN' : vx_Zq Bundle.tN "SUPPRESSED_SENTINEL" Bundle.listD A s' s'.heap := by rw [hhp]; exact vx_Zq.moved hW0.alike (hN.kept hS.2.1)
  have h : ∀ w ∈ Bundle.ownAtoms own ic cls names, w.before args s' = true := vx_own hat' (vx_isRefq hU'.1) (vx_isRefq hN'.1) hU'.2.word hN'.2.word
  have hown' : s'.vm.findClass own = some m.cls := by rw [hvm]; exact hown
  have hins : (Cond.instantiable cls 6).before args s' = true := h _ (by simp [Bundle.ownAtoms])
  obtain ⟨vm₁, cX, kX, hfX, hkX, -, -, X₁, st1⟩ := Y.newCold hexec (own := own) (C := cls) (index := ik) (n := 6) hown' hk' hins hini'
    (g := F0 m pc ls rest) rfl (by rw [hb]; exact d0) (Nat.le_refl _) (Nat.le_refl _)
  generalize hT1 : (T.setVm vm₁).pushCell { cls := cX, slots := kX.instanceTypes.map defaultValue, vm := .none } = T1 at X₁ st1
  have hcat : (Value.ref T.heap.size).category = 1 := rfl
  have hcellA : T1.heap[T.heap.size]? = some (freshCell cX kX) := by rw [← hT1]; exact State.heap_pushCell_size _ _
  have d3' : decode c.code (pc + 3) = .ok (.dup, 1) := by rw [hb]; exact d3
  have d4' : decode c.code (pc + 4) = .ok (.ldc_w is, 3) := by rw [hb]; exact d4
  have hstr' : vk_R own is text sa s' := vk_R.warm hW0 hstr
  obtain ⟨U, hsteps, hrun, hend, hW, hsame, ce, hce, hO⟩ := X₁.ctorThrowS hexec htr (own := own) (cls := cls) (names := names) (ic := ic) hown' hcls hnames h (fun x hx => nomatch hx) hfX hkX hcellA (by rw [hhp, hT]; exact Nat.le_refl _) (msg := .ref sa) rfl
    (g := { method := m, pc := pc + 7, locals := ls, stack := .ref sa :: .ref T.heap.size :: .ref T.heap.size :: rest, locked := none }) rfl hsize rfl rfl (rest := rest) rfl
    (by rw [hb]; exact d7) (by rw [hb]; exact d10) hout hRframes (by simp only [List.map_cons, List.sum_cons, hcat]; omega) hlocks
  obtain ⟨f1, f2⟩ := vx_frame hsame
  rw [hhp] at f1 f2
  have hWs : s.WarmedH U.vm := State.WarmedH.trans hW0 hW
  have hcl : s.vm.findClass cls = some ce.cls := by
    have h9 := hO.cls
    rw [hvm] at h9
    exact h9
  have hall : s.sameButNew ({ U with vm := s.vm } : State) locs mc ms := by
    subst hA
    obtain ⟨e1, e2⟩ := hsame
    rw [State.setFrames_setFrames] at e1
    have h2 : (T.setVm s.vm).sameButNew ({ U with vm := s.vm } : State) [] (0 + 1) (0 + 6) := ⟨e1, e2⟩
    have h3 := X.same.trans h2
    rw [List.append_nil] at h3
    exact h3.mono hc hs
  refine ⟨U, ?_, .threw T.heap.size, hrun, hend, Or.inr ⟨T.heap.size, rfl, cls, ce, locs, hx U hWs.alike f1 (fun q hq => f2 q hq (fun z hz => nomatch hz)), hce, hO.vm, hcl, hWs, hall, hf⟩⟩
  refine st1 _ ?_
  show Steps p.tables e below (T1.setTop { method := m, pc := pc + 3, locals := ls, stack := .ref T.heap.size :: rest, locked := none }) _
  jvm_step X₁.here [X₁.here.top, hexec, d3', Value.category]
  exact X₁.ldcStringW hexec (own := own) (text := text) (index := is) (a := sa) hown' hstr'.1 hstr'.2
    (g := { method := m, pc := pc + 4, locals := ls, stack := .ref T.heap.size :: .ref T.heap.size :: rest, locked := none }) rfl d4' _ hsteps
end Ends
section Bodies
variable {l : Launch}
theorem vx_ofW {y : MethodName} {ws ws' : List Cond} {rm : Room} {Pc : Array Value → State → Prop} {Qc : Array Value → State → Outcome → State → Prop} {XC : String → State → State → Prop} {mc ms : Nat} {free : Addr → Prop} {cc : ByteArray} {maxL : Nat} {ret : Option FieldType}
    (hy : plainName y.cls = true) (hw : ws = Cond.code y cc maxL ret :: ws')
    (body : ∀ p e s m args below meth c s₁, BodyLoose p l y (headSpec ws rm) cc maxL ret e s m args below meth c s₁ → c.maxLocals = maxL → (∀ x ∈ c.exceptionTable.toList, False) → Pc args s →
      W p l e (headSpec ws rm).room s m args below meth c s.heap [] 0 0 (vx_MQ below Qc XC args s mc ms free) (entryFrame m args maxL)) : vx_Met l y ws rm Pc Qc XC mc ms free := by
  refine MetFree.of_bodyS (code := cc) (maxLocals := maxL) (ret := ret) hy ?_ ?_
  · intro args s m h hn
    obtain ⟨meth, c, h1, h2, h3, h4, h5, h6, -, -⟩ := Cond.code_spec hn (atoms_spec (ws := ws) h _ (by rw [hw]; exact List.mem_cons_self))
    exact ⟨meth, c, h1, h2, h3, h4, h5, h6⟩
  · intro p e s m args below meth c s₁ B hml hP _
    have hh0 : s₁.heap = s.heap := by rw [B.state]; rfl
    have ht : ∀ x ∈ c.exceptionTable.toList, False := by
      obtain ⟨meth9, c9, h1, h2, -, -, -, -, h7, -⟩ := Cond.code_spec B.named (atoms_spec (ws := ws) B.pre _ (by rw [hw]; exact List.mem_cons_self))
      cases Option.some.inj (h1.symm.trans B.method)
      cases Option.some.inj (h2.symm.trans (Stand.of_body B).code)
      intro x hx
      rw [Array.isEmpty_iff.mp h7] at hx
      cases hx
    obtain ⟨t, a1, o, b1, b2, b3⟩ := body p e s m args below meth c s₁ B hml ht hP s₁ hh0 (Stand.of_body B)
    exact ⟨t, o, a1, b1, b2, b3⟩
/-- the table of a body with handlers -/
theorem vx_table {p : Program} {x y : MethodName} {S : Spec} {cc bytes : ByteArray} {maxL maxL' : Nat} {ret ret' : Option FieldType} {e : Env} {s s₁ : State} {m : MethodId} {args : Array Value} {below : List Frame} {meth : Method} {c : Code} {hh : List (Nat × Nat × Nat × Nat)}
    (B : BodyLoose p l y S cc maxL ret e s m args below meth c s₁) (h : (Cond.codeWith y bytes maxL' ret' hh).before args s = true) : c.exceptionTable.toList = tableOf hh := by
  obtain ⟨m9, meth9, c9, hn9, h1, h2, -, -, h6, -⟩ := Cond.codeWith_spec h
  cases Option.some.inj (hn9.symm.trans B.named)
  cases Option.some.inj (h1.symm.trans B.method)
  cases Option.some.inj (h2.symm.trans (Stand.of_body B).code)
  rw [← h6, table_eq]
end Bodies
end VXA
/-! ===== END ===== -/
/-! ===== BEGIN a static call of a method with an exception table ===== -/
section VXS
variable {p : Program} {l : Launch} {e : Env} {R : Room} {s : State} {m : MethodId} {args : Array Value} {below : List Frame} {meth : Method} {c : Code} {T : State} {H : Heap} {locs : List Loc} {cells slots : Nat}
abbrev vx_CSW (R : Room) (s : State) (args : Array Value) (own : String) (index : Nat) (y : MethodName) (bytes : ByteArray) (maxL : Nat) (ret : Option FieldType) (hh : List (Nat × Nat × Nat × Nat)) (ws : List Cond) (rm : Room) (mc ms n : Nat) : Prop :=
  (rm.cells = mc ∧ rm.slots = ms ∧ rm.frames + 1 ≤ R.frames ∧ 8 + (maxL + 11) + rm.locals ≤ R.locals ∧ (∀ w ∈ ws, ∀ (a' : Array Value) (U : State), s.WarmedH U.vm → w.before a' U = true) ∧ Cond.codeWith y bytes maxL ret hh ∈ ws) ∧
  (Cond.codeWith y bytes maxL ret hh).before args s = true ∧ (Cond.initialized y.cls).before args s = true ∧ (y.cls ≠ "java/lang/invoke/MethodHandle" ∧ y.cls ≠ "java/lang/invoke/VarHandle") ∧
  (∀ sig, parseMethodDescriptor y.desc = some sig → n = sig.parameters.length) ∧ (Cond.methodLink own index y).before args s = true ∧ (Cond.static y).before args s = true
theorem vx_cwSW {own : String} {index maxL mc ms : Nat} {y : MethodName} {bytes : ByteArray} {ret : Option FieldType} {hh : List (Nat × Nat × Nat × Nat)} {Ts ws ws' : List Cond} {rm : Room} (n : Nat) (ht : ∀ w ∈ Ts, w.before args s = true) (hT : GoodIn Ts (va_wsS own index y ws)) (hw : ws = Cond.codeWith y bytes maxL ret hh :: ws') (hrc : rm.cells = mc) (hrs : rm.slots = ms)
    (hd : y.cls ≠ "java/lang/invoke/MethodHandle" ∧ y.cls ≠ "java/lang/invoke/VarHandle" ∧ (parseMethodDescriptor y.desc).map (fun d => d.parameters.length) = some n) (hR : rm.frames + 1 ≤ R.frames ∧ 8 + (maxL + 11) + rm.locals ≤ R.locals) :
    vx_CSW R s args own index y bytes maxL ret hh ws rm mc ms n := by
  have ok : ∀ w ∈ va_wsS own index y ws, w.before args s = true := fun w h => ht w (hT w h).1
  have hG : GoodIn Ts ws := fun w h => hT w (by unfold va_wsS; exact List.mem_append_right _ h)
  have hc : Cond.codeWith y bytes maxL ret hh ∈ ws := by rw [hw]; exact List.mem_cons_self
  refine ⟨⟨hrc, hrs, hR.1, hR.2, pay_in ht hG, hc⟩, ht _ (hG _ hc).1, ok _ (by simp [va_wsS]), ⟨hd.1, hd.2.1⟩, fun sig h => ?_, ok _ (by simp [va_wsS]), ok _ (by simp [va_wsS])⟩
  have h2 := hd.2.2
  rw [h] at h2
  exact (Option.some.inj h2).symm
theorem vx_callSW (X : Stand p l e R s m args below meth c T locs cells slots) (hexec : p.tables.exec = Jvm.exec) {own : String} {index : Nat} {y : MethodName} {bytes : ByteArray} {maxL : Nat} {ret : Option FieldType} {hh : List (Nat × Nat × Nat × Nat)}
    (hown : s.vm.findClass own = some m.cls) (hlink : (Cond.methodLink own index y).before args s = true) (hstat : (Cond.static y).before args s = true) (hinit : (Cond.initialized y.cls).before args s = true)
    (hcode : (Cond.codeWith y bytes maxL ret hh).before args s = true) (hy : y.cls ≠ "java/lang/invoke/MethodHandle" ∧ y.cls ≠ "java/lang/invoke/VarHandle")
    {W9 : Nat} {Pre : Pt → Array Value → Prop} {Post : Pt → Array Value → Option Value → Pt → Prop} (hK : Back l R p e below s args y 3 W9 Pre Post)
    {g : JFrame} (hg : g.method = m) (hsize : g.locals.size = c.maxLocals) {argsL rest : List Value} (hlen : ∀ sig, parseMethodDescriptor y.desc = some sig → argsL.length = sig.parameters.length)
    (hstack : g.stack = argsL.reverse ++ rest) (hW : 2 * g.monitorRoom + (rest.map fun v => v.category).sum ≤ W9) (hdg : decode c.code g.pc = .ok (.invokestatic index, 3))
    (hpre : ∀ vm₁, s.WarmedH vm₁ → Pre ⟨T.setVm vm₁, locs, cells, slots⟩ argsL.toArray) :
    ∃ (v : Option Value) (vm₁ : Vm) (B : Pt), s.WarmedH vm₁ ∧ Stand p l e R s m args below meth c B.U B.locs B.cells B.slots ∧ Post ⟨T.setVm vm₁, locs, cells, slots⟩ argsL.toArray v B ∧
      ∀ target, Steps p.tables e below (B.U.setTop { g with pc := g.pc + 3, stack := v.toList ++ rest }) target → Steps p.tables e below (T.setTop g) target := by
  obtain ⟨mk, methM, cM, hnamed, hmethM, -, -, -, -, -, -, hsigM⟩ := Cond.codeWith_spec hcode
  have hstatic : methM.isStatic = true := Cond.static_spec hnamed hmethM hstat
  obtain ⟨kP, hkP, -⟩ := className_of_methodNamed hnamed
  have hinitP : kP.init = .initialized := Cond.initialized_spec (findClass_of_methodNamed hnamed) hkP hinit
  obtain ⟨vm₁, X₁, hstep₁⟩ := X.invokestatic hexec hown hlink hnamed hmethM hstatic hkP hinitP hy (g := g) hg (argsL := argsL) (rest := rest) (hlen _ hsigM) hstack hdg
  obtain ⟨v, B, X', hpost, hsteps⟩ := hK m meth c ⟨T.setVm vm₁, locs, cells, slots⟩ { g with stack := rest } (.invokestatic index) mk argsL.toArray X₁ hg hsize hdg hW (X₁.named hnamed) (hpre vm₁ X₁.warmed)
  exact ⟨v, vm₁, B, X₁.warmed, X', hpost, fun target h => hstep₁ _ fun acts => by rw [doInvoke_state]; exact hsteps.trans h⟩
theorem vx_runSW {y : MethodName} {bytes cc : ByteArray} {maxL nL mc ms n index : Nat} {ret : Option FieldType} {hh : List (Nat × Nat × Nat × Nat)} {ws : List Cond} {rm : Room} {Pc : Array Value → State → Prop} {Qc : Array Value → State → Outcome → State → Prop} {free : Addr → Prop} {Ts : List Cond} {own : String} {As rest : List Value} {g : JFrame}
    (S : CallFix p m c cc nL s args Ts own) (hM : Met l y ws rm Pc Qc mc ms free) (cw : vx_CSW R s args own index y bytes maxL ret hh ws rm mc ms n) (hp : PreS s H Pc As)
    (hg : g.method = m) (hn : As.length = n) (hsize : g.locals.size = nL) (hstack : g.stack = As.reverse ++ rest) (hW : 2 * g.monitorRoom + (rest.map fun v => v.category).sum ≤ 8) (hdg : decode cc g.pc = .ok (.invokestatic index, 3)) (hf : cells + mc ≤ R.cells ∧ slots + ms ≤ R.slots) :
    va_Run p l e R s m args below meth c H locs cells slots mc ms g rest (Qc As.toArray) (free) := by
  obtain ⟨⟨hrc, hrs, hfr, hlo, hws, hcw⟩, hcode, hini, hy, hlen, hl, hstt⟩ := cw
  have hK : Back l R p e below s args y 3 8 (PreOf R mc ms Pc) (PostOf Qc mc ms free) := va_backW (hh := hh) (bytes := bytes) (maxL := maxL) (ret := ret) hM hp.1 hrc hrs hfr hlo hws hcw (fun a' U hW => word_at hW (Or.inl (by first | rfl | simp [Cond.onTables, Cond.keeps, Cond.steady])) hini)
  obtain ⟨hx, hb, hml, ho, -⟩ := S
  intro T hT X
  obtain ⟨v, vm₁, ⟨U', l2, c2, s2⟩, hW₁, X', ⟨g', mk, t, L, e1, e2, hq, h1, hL, h2, h3⟩, st⟩ := vx_callSW X hx (hh := hh) (bytes := bytes) (maxL := maxL) (ret := ret) ho hl hstt hini hcode hy hK hg (hsize.trans hml.symm) (argsL := As) (rest := rest) (fun sig h => hn.trans (hlen sig h)) hstack hW (by rw [hb]; exact hdg)
    (fun vm₁ hW₁ => ⟨hf.1, hf.2, hp.2 (T.setVm vm₁) hT hW₁⟩)
  dsimp only [Pt.U, Pt.locs, Pt.cells, Pt.slots] at X' e1 e2 h1 h2 h3 st
  subst h1; subst h2; subst h3
  exact ⟨v, (T.setVm vm₁).calling g' mk As.toArray, t, U', L, hT, X', hL, e1, e2, hq, st⟩
/-- not caught here, past rows that name other classes: it goes on to the caller -/
theorem vx_outP {p : Program} {l : Launch} {e : Env} {R : Room} {s : State} {m : MethodId} {args : Array Value} {below : List Frame} {meth : Method} {c : Code} {H : Heap} {locs : List Loc} {cells slots : Nat} {free : Addr → Prop} {ls : Array Slot} {rest : List Value} {Qc : Array Value → State → Outcome → State → Prop} {XC : String → State → State → Prop}
    {pc : Nat} {own E : String} {ce : Cell} {q : Addr} {mc ms : Nat} (hown : s.vm.findClass own = some m.cls) (hlocks : meth.locks = false)
    (hpass : ∀ z ∈ c.exceptionTable.toList, covers z pc = false ∨ (z.catchType ≠ 0 ∧ ∃ nm : String, (Cond.classLink own z.catchType nm).before args s = true ∧ va_Nc E nm s)) (hcell : H[q]? = some ce) (hv : ce.vm = .none) (hcl : s.vm.findClass E = some ce.cls)
    (hx : ∀ t : State, t.heap = H → s.vm.Alike t.vm → XC E s t) (hf : ∀ z ∈ locs, free z.base) (hc : cells ≤ mc) (hs : slots ≤ ms) :
    vx_W p l e R s m args below meth c H locs cells slots (vx_MQ below Qc XC args s mc ms free) (F0 m pc ls rest) q := by
  intro T hT X
  have hpl : e.platform.magicAccessors = ({} : Platform).magicAccessors := by rw [X.admits.platform]
  obtain ⟨vm', hW', X', st⟩ := X.outThrough hlocks q (g := F0 m pc ls rest) rfl rfl rfl (cell := ce) (by rw [hT]; exact hcell) (by rw [hv]; rfl)
    (by obtain ⟨k9, h9, -⟩ := Vm.findClass_spec hcl; exact ⟨k9, h9⟩) (fun z hz => by
      rcases hpass z hz with h | ⟨hz0, nm, hl1, hn1⟩
      · exact Or.inl h
      · obtain ⟨c6, hc6, hcl6⟩ := Cond.classLink_spec hown hl1 e.platform hpl
        obtain ⟨a8, b8, h1, h2, h3⟩ := hn1
        cases Option.some.inj (h1.symm.trans hcl)
        cases Option.some.inj (h2.symm.trans hc6)
        exact Or.inr ⟨hz0, _, hcl6, h3⟩)
  obtain ⟨g₀, hfr⟩ := X'.frames_eq
  have hcell9 : ((T.setVm vm').setFrames (.throwing q :: below)).heap[q]? = some ce := by
    show T.heap[q]? = some ce
    rw [hT]; exact hcell
  have hend : Ended ((T.setVm vm').setFrames (.throwing q :: below)) below (.threw q) := State.frames_setFrames _ (State.cur_lt_of_frames hfr)
  refine ⟨(T.setVm vm').setFrames (.throwing q :: below), ?_, .threw q, X'.here.running, hend, Or.inr ⟨q, rfl, E, ce, locs, hx _ hT (X'.ends _).1.alike, hcell9, hv, hcl, (X'.ends _).1, (X'.ends _).2.mono hc hs, hf⟩⟩
  rw [X.pushThrowing_eq]
  exact st
/-- a thing of a world lies in the heap -/
theorem vx_lt {D : va_G} {cl : List vw_C} {ws : va_W} {H1 : Heap} (h : va_P D cl ws H1) {k : Nat} {q : Nat × va_E} (hk : ws[k]? = some q) : q.1 < H1.size := (h k q hk).lt
end VXS
/-! ===== END ===== -/
/-! ===== BEGIN methods with a table of their own: called by a name, returning or throwing ===== -/
section VXH
/-! vx_backW, vx_callVX, vx_callSX, vx_callVW, vx_runVW, vx_runVX, vx_runSX, vx_ofWH follow the same proofs as their sisters above (Free/Laws.lean, Shelf42/LK1.lean); vx_outP calls Shelf42/NT130.lean (outThrough). -/
section
variable {l : Launch} {R : Room} {p : Program} {e : Env} {below : List Frame} {s : State} {sargs : Array Value} {y : MethodName} {len W9 : Nat}
theorem vx_backW {ws : List Cond} {rm : Room} {Pc : Array Value → State → Prop} {Qc : Array Value → State → Outcome → State → Prop} {XC : String → State → State → Prop} {mc ms : Nat} {free : Addr → Prop} {bytes : ByteArray} {maxL : Nat} {ret : Option FieldType} {hh : List (Nat × Nat × Nat × Nat)}
    (hM : vx_Met l y ws rm Pc Qc XC mc ms free) (hblind : FrameBlind Pc) (hrc : rm.cells = mc) (hrs : rm.slots = ms)
    (hframes : rm.frames + 1 ≤ R.frames) (hlocals : W9 + (maxL + 11) + rm.locals ≤ R.locals)
    (hws : ∀ w ∈ ws, ∀ a' U, s.WarmedH U.vm → w.before a' U = true) (hcode : Cond.codeWith y bytes maxL ret hh ∈ ws) (hinit : ∀ a' U, s.WarmedH U.vm → (Cond.initialized y.cls).before a' U = true) :
    vx_Back l R p e below s sargs y len W9 (PreOf R mc ms Pc) (PostOf Qc mc ms free) (vx_Post XC mc ms free) := by
  intro m meth c A g ig mk a X hg hsize hdg hW hn hp
  have h1 : (headSpec ws rm).pre.before a A.U = true := atoms_intro fun w hw => hws w hw _ _ X.warmed
  have h2 : (Cond.codeWith y bytes maxL ret hh).before a A.U = true := hws _ hcode _ _ X.warmed
  have h3 : (Cond.initialized y.cls).before a A.U = true := hinit _ _ X.warmed
  have h4 : A.cells + (headSpec ws rm).room.cells ≤ R.cells := by rw [show (headSpec ws rm).room.cells = mc from hrc]; exact hp.1
  have h5 : A.slots + (headSpec ws rm).room.slots ≤ R.slots := by rw [show (headSpec ws rm).room.slots = ms from hrs]; exact hp.2.1
  have hPc : Pc a (A.U.calling g mk a) := hblind _ _ _ _ hp.2.2
  obtain ⟨U, Ls, c0, s0⟩ := A
  dsimp only [Pt.U, Pt.locs, Pt.cells, Pt.slots] at h1 h2 h3 h4 h5 X hn hPc ⊢
  obtain ⟨m9, methY, cY, hn9, hmY, hcY, -, hlY, -⟩ := Cond.codeWith_spec h2
  cases Option.some.inj (hn9.symm.trans hn)
  obtain ⟨kY, hkY, -⟩ := className_of_methodNamed hn
  have hinitY : kY.init = .initialized := Cond.initialized_spec (findClass_of_methodNamed hn) hkY h3
  have h : At U g.method c below := by rw [hg]; exact X.here
  have hlocals9 : W9 + (maxL + 11) + (headSpec ws rm).room.locals ≤ R.locals := hlocals
  have happ : (headSpec ws rm).appliesLoose y e.platform (U.calling g mk a) = true :=
    Spec.appliesLoose_calling (g := g) h hdg hn hkY hinitY
      (X.room_calling (g := g) (R' := (headSpec ws rm).room) hsize hmY hcY hframes (by rw [hlY]; omega) h4 h5) h1
  obtain ⟨mid, hmid⟩ := h.above
  have hfr : (U.setTop g).frames = (.java g :: mid) ++ below := by rw [State.frames_setTop' g h.top, hmid]; rfl
  obtain ⟨o, s₂, hsteps, -, hend, hq⟩ := Steps.callFree hM p X.admits X.cas X.clock (acts := []) hfr happ hPc trivial
  have hq' : vx_Q Qc XC mc ms free a (U.calling g mk a) o s₂ := hq
  rw [State.frames_setTop' g h.top] at hend
  obtain ⟨g₀, hg0⟩ := Option.isSome_iff_exists.mp h.top
  obtain ⟨r, hr⟩ := State.topJava?_eq_some.mp hg0
  have hr' : (({ U with heap := s₂.heap, slotsUsed := s₂.slotsUsed } : State).setVm s₂.vm).frames = .java g₀ :: r := hr
  rcases hq' with ⟨hqc, L, hfe, hL⟩ | ⟨q, rfl, E, ce, L, hx, hce, hcv, hcl, hW₂, hsm, hL⟩
  · obtain ⟨⟨v, rfl⟩, hW₂, e2, q2, q3, q4, q5, q6⟩ := id hfe
    have e3 : s₂ = ({ (U.calling g mk a).setFrames s₂.frames with heap := s₂.heap, slotsUsed := s₂.slotsUsed } : State).setVm s₂.vm := by
      have : s₂ = ({ s₂ with vm := (U.calling g mk a).vm } : State).setVm s₂.vm := rfl
      rw [e2] at this
      exact this
    obtain ⟨c₂, i₂, len₂, hc₂, hd₂, hf₂⟩ := hend
    have hW' : U.WarmedH s₂.vm := hW₂
    have hcc : c₂ = c := by
      have h1 : s₂.code? g.method = U.code? g.method := by
        rw [State.code?_eq, State.code?_eq, hW'.alike.method?]
      exact Option.some.inj (hc₂.symm.trans (h1.trans h.code))
    subst hcc
    have hlen : len₂ = len := by rw [hdg] at hd₂; cases hd₂; rfl
    subst hlen
    have hs₂ : s₂ = (({ U with heap := s₂.heap, slotsUsed := s₂.slotsUsed } : State).setVm s₂.vm).setTop { g with pc := g.pc + len₂, stack := v.toList ++ g.stack } := by
      refine e3.trans ?_
      rw [hf₂, State.calling_eq h.top, State.setFrames_setFrames, State.setTop_of_frames _ hr', hr]
      rfl
    have hsame : U.sameButNew ({ U with heap := s₂.heap, slotsUsed := s₂.slotsUsed } : State) L mc ms := by
      refine ⟨?_, q2, q3, q4, q5, q6⟩
      obtain ⟨t, ht, -⟩ := State.frames_cons hr
      show ({ U with heap := s₂.heap, slotsUsed := s₂.slotsUsed } : State) = { U.setFrames U.frames with heap := s₂.heap, slotsUsed := s₂.slotsUsed }
      rw [State.setFrames_self ht]
    subst hg
    refine Or.inl ⟨v, ⟨(({ U with heap := s₂.heap, slotsUsed := s₂.slotsUsed } : State).setVm s₂.vm), Ls ++ L, c0 + mc, s0 + ms⟩,
      ⟨X.admits, X.cas, X.clock, X.frames, X.room, X.hears, X.method, X.code, (X.here.setHeapUsed s₂.heap s₂.slotsUsed).setVm hW'.alike, X.tail, State.WarmedH.trans X.warmed hW', X.limits, X.bytes, X.same.trans (hsame.setVm s.vm)⟩,
      ⟨g, mk, s₂, L, rfl, rfl, hqc, rfl, hL, rfl, rfl⟩, ?_⟩
    show Steps p.tables e below _ ((({ U with heap := s₂.heap, slotsUsed := s₂.slotsUsed } : State).setVm s₂.vm).setTop { g with pc := g.pc + len₂, stack := v.toList ++ g.stack })
    rw [← hs₂]
    exact hsteps
  · obtain ⟨e2, q2, q3, q4, q5, q6⟩ := id hsm
    have e3 : s₂ = ({ (U.calling g mk a).setFrames s₂.frames with heap := s₂.heap, slotsUsed := s₂.slotsUsed } : State).setVm s₂.vm := by
      have : s₂ = ({ s₂ with vm := (U.calling g mk a).vm } : State).setVm s₂.vm := rfl
      rw [e2] at this
      exact this
    have hf₂ : s₂.frames = .throwing q :: .java g :: U.frames.tail := hend
    have hW' : U.WarmedH s₂.vm := hW₂
    have hs₂ : s₂ = ((({ U with heap := s₂.heap, slotsUsed := s₂.slotsUsed } : State).setVm s₂.vm).setTop g).pushFrame (.throwing q) := by
      refine e3.trans ?_
      rw [hf₂, State.calling_eq h.top, State.setFrames_setFrames, State.pushFrame, State.frames_setTop _ hr', State.setTop_of_frames _ hr', State.setFrames_setFrames, hr]
      rfl
    have hsame : U.sameButNew ({ U with heap := s₂.heap, slotsUsed := s₂.slotsUsed } : State) L mc ms := by
      refine ⟨?_, q2, q3, q4, q5, q6⟩
      obtain ⟨t, ht, -⟩ := State.frames_cons hr
      show ({ U with heap := s₂.heap, slotsUsed := s₂.slotsUsed } : State) = { U.setFrames U.frames with heap := s₂.heap, slotsUsed := s₂.slotsUsed }
      rw [State.setFrames_self ht]
    subst hg
    refine Or.inr ⟨q, ⟨(({ U with heap := s₂.heap, slotsUsed := s₂.slotsUsed } : State).setVm s₂.vm), Ls ++ L, c0 + mc, s0 + ms⟩,
      ⟨X.admits, X.cas, X.clock, X.frames, X.room, X.hears, X.method, X.code, (X.here.setHeapUsed s₂.heap s₂.slotsUsed).setVm hW'.alike, X.tail, State.WarmedH.trans X.warmed hW', X.limits, X.bytes, X.same.trans (hsame.setVm s.vm)⟩,
      ⟨g, mk, s₂, L, E, ce, rfl, rfl, hx, hce, hcv, hcl, rfl, hL, rfl, rfl⟩, ?_⟩
    show Steps p.tables e below _ (((({ U with heap := s₂.heap, slotsUsed := s₂.slotsUsed } : State).setVm s₂.vm).setTop g).pushFrame (.throwing q))
    rw [← hs₂]
    exact hsteps
end
variable {p : Program} {l : Launch} {e : Env} {R : Room} {s : State} {m : MethodId} {args : Array Value} {below : List Frame} {meth : Method} {c : Code} {T : State} {H : Heap} {locs : List Loc} {cells slots : Nat}
theorem vx_callVX (X : Stand p l e R s m args below meth c T locs cells slots) (hexec : p.tables.exec = Jvm.exec) {own C : String} {index : Nat} {y : MethodName} {bytes : ByteArray} {maxL : Nat} {ret : Option FieldType} {hh : List (Nat × Nat × Nat × Nat)}
    (hown : s.vm.findClass own = some m.cls) (hlink : (Cond.methodLink own index y).before args s = true) (hinst : (Cond.instanceMethod y).before args s = true) (hsel : (Cond.selects C y y).before args s = true)
    (hcode : (Cond.codeWith y bytes maxL ret hh).before args s = true) (hy : y.cls ≠ "java/lang/invoke/MethodHandle" ∧ y.cls ≠ "java/lang/invoke/VarHandle")
    {W9 : Nat} {Pre : Pt → Array Value → Prop} {Post : Pt → Array Value → Option Value → Pt → Prop} {PostX : Pt → Array Value → Addr → Pt → Prop} (hK : vx_Back l R p e below s args y 3 W9 Pre Post PostX)
    {b : Addr} {cellB : Cell} (hcell : T.heap[b]? = some cellB) (hobj : cellB.vm.isStatics = false) (hcls : s.vm.findClass C = some cellB.cls)
    {g : JFrame} (hg : g.method = m) (hsize : g.locals.size = c.maxLocals) {argsL rest : List Value} (hlen : ∀ sig, parseMethodDescriptor y.desc = some sig → argsL.length = sig.parameters.length)
    (hstack : g.stack = argsL.reverse ++ .ref b :: rest) (hW : 2 * g.monitorRoom + (rest.map fun v => v.category).sum ≤ W9) (hdg : decode c.code g.pc = .ok (.invokevirtual index, 3))
    (hpre : ∀ vm₁, s.WarmedH vm₁ → Pre ⟨T.setVm vm₁, locs, cells, slots⟩ (Value.ref b :: argsL).toArray) :
    (∃ (v : Option Value) (vm₁ : Vm) (B : Pt), s.WarmedH vm₁ ∧ Stand p l e R s m args below meth c B.U B.locs B.cells B.slots ∧ Post ⟨T.setVm vm₁, locs, cells, slots⟩ (Value.ref b :: argsL).toArray v B ∧
      ∀ target, Steps p.tables e below (B.U.setTop { g with pc := g.pc + 3, stack := v.toList ++ rest }) target → Steps p.tables e below (T.setTop g) target) ∨
    (∃ (q : Addr) (vm₁ : Vm) (B : Pt), s.WarmedH vm₁ ∧ Stand p l e R s m args below meth c B.U B.locs B.cells B.slots ∧ PostX ⟨T.setVm vm₁, locs, cells, slots⟩ (Value.ref b :: argsL).toArray q B ∧
      Steps p.tables e below (T.setTop g) ((B.U.setTop { g with stack := rest }).pushFrame (.throwing q))) := by
  obtain ⟨mk, methM, hnamed, hmethM, hstM, habM⟩ := Cond.instanceMethod_spec hinst
  obtain ⟨m8, methM', cM, hn8, hmethM', -, -, -, -, -, -, hsigM⟩ := Cond.codeWith_spec hcode
  cases Option.some.inj (hn8.symm.trans hnamed)
  cases hmethM.symm.trans hmethM'
  obtain ⟨c2, r2, m2, q1, q2, q3, q4, kP, hkP, hkPi⟩ := Cond.selects_spec hsel
  cases hcls.symm.trans q1
  cases (State.methodFound?_of_named hnamed hy).symm.trans q2
  cases hnamed.symm.trans q3
  have hselP : selectMethod e.platform s.vm cellB.cls mk = .method mk := by rw [Launch.admits_selectMethod X.admits]; exact q4
  obtain ⟨vm₁, X₁, hstep₁⟩ := X.invokevirtual hexec hown hlink hnamed hmethM hstM hkP hkPi hy (a := b) (cell := cellB) hcell
    (fun z h => by rw [h] at hobj; cases hobj) hselP hmethM habM hkP hkPi (g := g) hg (argsL := argsL) (rest := rest) (hlen _ hsigM) hstack hdg
  rcases hK m meth c ⟨T.setVm vm₁, locs, cells, slots⟩ { g with stack := rest } (.invokevirtual index) mk (Value.ref b :: argsL).toArray X₁ hg hsize hdg hW (X₁.named hnamed) (hpre vm₁ X₁.warmed) with ⟨v, B, X', hpost, hsteps⟩ | ⟨q, B, X', hpost, hsteps⟩
  · exact Or.inl ⟨v, vm₁, B, X₁.warmed, X', hpost, fun target h => hstep₁ _ fun acts => by rw [doInvoke_state]; exact hsteps.trans h⟩
  · exact Or.inr ⟨q, vm₁, B, X₁.warmed, X', hpost, hstep₁ _ fun acts => by rw [doInvoke_state]; exact hsteps⟩
theorem vx_callSX (X : Stand p l e R s m args below meth c T locs cells slots) (hexec : p.tables.exec = Jvm.exec) {own : String} {index : Nat} {y : MethodName} {bytes : ByteArray} {maxL : Nat} {ret : Option FieldType} {hh : List (Nat × Nat × Nat × Nat)}
    (hown : s.vm.findClass own = some m.cls) (hlink : (Cond.methodLink own index y).before args s = true) (hstat : (Cond.static y).before args s = true) (hinit : (Cond.initialized y.cls).before args s = true)
    (hcode : (Cond.codeWith y bytes maxL ret hh).before args s = true) (hy : y.cls ≠ "java/lang/invoke/MethodHandle" ∧ y.cls ≠ "java/lang/invoke/VarHandle")
    {W9 : Nat} {Pre : Pt → Array Value → Prop} {Post : Pt → Array Value → Option Value → Pt → Prop} {PostX : Pt → Array Value → Addr → Pt → Prop} (hK : vx_Back l R p e below s args y 3 W9 Pre Post PostX)
    {g : JFrame} (hg : g.method = m) (hsize : g.locals.size = c.maxLocals) {argsL rest : List Value} (hlen : ∀ sig, parseMethodDescriptor y.desc = some sig → argsL.length = sig.parameters.length)
    (hstack : g.stack = argsL.reverse ++ rest) (hW : 2 * g.monitorRoom + (rest.map fun v => v.category).sum ≤ W9) (hdg : decode c.code g.pc = .ok (.invokestatic index, 3))
    (hpre : ∀ vm₁, s.WarmedH vm₁ → Pre ⟨T.setVm vm₁, locs, cells, slots⟩ argsL.toArray) :
    (∃ (v : Option Value) (vm₁ : Vm) (B : Pt), s.WarmedH vm₁ ∧ Stand p l e R s m args below meth c B.U B.locs B.cells B.slots ∧ Post ⟨T.setVm vm₁, locs, cells, slots⟩ argsL.toArray v B ∧
      ∀ target, Steps p.tables e below (B.U.setTop { g with pc := g.pc + 3, stack := v.toList ++ rest }) target → Steps p.tables e below (T.setTop g) target) ∨
    (∃ (q : Addr) (vm₁ : Vm) (B : Pt), s.WarmedH vm₁ ∧ Stand p l e R s m args below meth c B.U B.locs B.cells B.slots ∧ PostX ⟨T.setVm vm₁, locs, cells, slots⟩ argsL.toArray q B ∧
      Steps p.tables e below (T.setTop g) ((B.U.setTop { g with stack := rest }).pushFrame (.throwing q))) := by
  obtain ⟨mk, methM, cM, hnamed, hmethM, -, -, -, -, -, -, hsigM⟩ := Cond.codeWith_spec hcode
  have hstatic : methM.isStatic = true := Cond.static_spec hnamed hmethM hstat
  obtain ⟨kP, hkP, -⟩ := className_of_methodNamed hnamed
  have hinitP : kP.init = .initialized := Cond.initialized_spec (findClass_of_methodNamed hnamed) hkP hinit
  obtain ⟨vm₁, X₁, hstep₁⟩ := X.invokestatic hexec hown hlink hnamed hmethM hstatic hkP hinitP hy (g := g) hg (argsL := argsL) (rest := rest) (hlen _ hsigM) hstack hdg
  rcases hK m meth c ⟨T.setVm vm₁, locs, cells, slots⟩ { g with stack := rest } (.invokestatic index) mk argsL.toArray X₁ hg hsize hdg hW (X₁.named hnamed) (hpre vm₁ X₁.warmed) with ⟨v, B, X', hpost, hsteps⟩ | ⟨q, B, X', hpost, hsteps⟩
  · exact Or.inl ⟨v, vm₁, B, X₁.warmed, X', hpost, fun target h => hstep₁ _ fun acts => by rw [doInvoke_state]; exact hsteps.trans h⟩
  · exact Or.inr ⟨q, vm₁, B, X₁.warmed, X', hpost, hstep₁ _ fun acts => by rw [doInvoke_state]; exact hsteps⟩
theorem vx_callVW (X : Stand p l e R s m args below meth c T locs cells slots) (hexec : p.tables.exec = Jvm.exec) {own C : String} {index : Nat} {y : MethodName} {bytes : ByteArray} {maxL : Nat} {ret : Option FieldType} {hh : List (Nat × Nat × Nat × Nat)}
    (hown : s.vm.findClass own = some m.cls) (hlink : (Cond.methodLink own index y).before args s = true) (hinst : (Cond.instanceMethod y).before args s = true) (hsel : (Cond.selects C y y).before args s = true)
    (hcode : (Cond.codeWith y bytes maxL ret hh).before args s = true) (hy : y.cls ≠ "java/lang/invoke/MethodHandle" ∧ y.cls ≠ "java/lang/invoke/VarHandle")
    {W9 : Nat} {Pre : Pt → Array Value → Prop} {Post : Pt → Array Value → Option Value → Pt → Prop} (hK : Back l R p e below s args y 3 W9 Pre Post)
    {b : Addr} {cellB : Cell} (hcell : T.heap[b]? = some cellB) (hobj : cellB.vm.isStatics = false) (hcls : s.vm.findClass C = some cellB.cls)
    {g : JFrame} (hg : g.method = m) (hsize : g.locals.size = c.maxLocals) {argsL rest : List Value} (hlen : ∀ sig, parseMethodDescriptor y.desc = some sig → argsL.length = sig.parameters.length)
    (hstack : g.stack = argsL.reverse ++ .ref b :: rest) (hW : 2 * g.monitorRoom + (rest.map fun v => v.category).sum ≤ W9) (hdg : decode c.code g.pc = .ok (.invokevirtual index, 3))
    (hpre : ∀ vm₁, s.WarmedH vm₁ → Pre ⟨T.setVm vm₁, locs, cells, slots⟩ (Value.ref b :: argsL).toArray) :
    ∃ (v : Option Value) (vm₁ : Vm) (B : Pt), s.WarmedH vm₁ ∧ Stand p l e R s m args below meth c B.U B.locs B.cells B.slots ∧ Post ⟨T.setVm vm₁, locs, cells, slots⟩ (Value.ref b :: argsL).toArray v B ∧
      ∀ target, Steps p.tables e below (B.U.setTop { g with pc := g.pc + 3, stack := v.toList ++ rest }) target → Steps p.tables e below (T.setTop g) target := by
  obtain ⟨mk, methM, hnamed, hmethM, hstM, habM⟩ := Cond.instanceMethod_spec hinst
  obtain ⟨m8, methM', cM, hn8, hmethM', -, -, -, -, -, -, hsigM⟩ := Cond.codeWith_spec hcode
  cases Option.some.inj (hn8.symm.trans hnamed)
  cases hmethM.symm.trans hmethM'
  obtain ⟨c2, r2, m2, q1, q2, q3, q4, kP, hkP, hkPi⟩ := Cond.selects_spec hsel
  cases hcls.symm.trans q1
  cases (State.methodFound?_of_named hnamed hy).symm.trans q2
  cases hnamed.symm.trans q3
  have hselP : selectMethod e.platform s.vm cellB.cls mk = .method mk := by rw [Launch.admits_selectMethod X.admits]; exact q4
  obtain ⟨vm₁, X₁, hstep₁⟩ := X.invokevirtual hexec hown hlink hnamed hmethM hstM hkP hkPi hy (a := b) (cell := cellB) hcell
    (fun z h => by rw [h] at hobj; cases hobj) hselP hmethM habM hkP hkPi (g := g) hg (argsL := argsL) (rest := rest) (hlen _ hsigM) hstack hdg
  obtain ⟨v, B, X', hpost, hsteps⟩ := hK m meth c ⟨T.setVm vm₁, locs, cells, slots⟩ { g with stack := rest } (.invokevirtual index) mk (Value.ref b :: argsL).toArray X₁ hg hsize hdg hW (X₁.named hnamed) (hpre vm₁ X₁.warmed)
  exact ⟨v, vm₁, B, X₁.warmed, X', hpost, fun target h => hstep₁ _ fun acts => by rw [doInvoke_state]; exact hsteps.trans h⟩
abbrev vx_CVW (R : Room) (s : State) (args : Array Value) (own C : String) (index : Nat) (y : MethodName) (bytes : ByteArray) (maxL : Nat) (ret : Option FieldType) (hh : List (Nat × Nat × Nat × Nat)) (ws : List Cond) (rm : Room) (mc ms n : Nat) : Prop :=
  (rm.cells = mc ∧ rm.slots = ms ∧ rm.frames + 1 ≤ R.frames ∧ 8 + (maxL + 11) + rm.locals ≤ R.locals ∧ (∀ w ∈ ws, ∀ (a' : Array Value) (U : State), s.WarmedH U.vm → w.before a' U = true) ∧ Cond.codeWith y bytes maxL ret hh ∈ ws) ∧
  (Cond.codeWith y bytes maxL ret hh).before args s = true ∧ (Cond.initialized y.cls).before args s = true ∧ (y.cls ≠ "java/lang/invoke/MethodHandle" ∧ y.cls ≠ "java/lang/invoke/VarHandle") ∧
  (∀ sig, parseMethodDescriptor y.desc = some sig → n = sig.parameters.length) ∧ (Cond.methodLink own index y).before args s = true ∧ (Cond.instanceMethod y).before args s = true ∧ (Cond.selects C y y).before args s = true
theorem vx_cwVW {own C : String} {index maxL mc ms : Nat} {y : MethodName} {bytes : ByteArray} {ret : Option FieldType} {hh : List (Nat × Nat × Nat × Nat)} {Ts ws ws' : List Cond} {rm : Room} (n : Nat) (ht : ∀ w ∈ Ts, w.before args s = true) (hT : GoodIn Ts (wsV own index C y ws)) (hw : ws = Cond.codeWith y bytes maxL ret hh :: ws') (hrc : rm.cells = mc) (hrs : rm.slots = ms)
    (hd : y.cls = C ∧ y.cls ≠ "java/lang/invoke/MethodHandle" ∧ y.cls ≠ "java/lang/invoke/VarHandle" ∧ (parseMethodDescriptor y.desc).map (fun d => d.parameters.length) = some n) (hR : rm.frames + 1 ≤ R.frames ∧ 8 + (maxL + 11) + rm.locals ≤ R.locals) :
    vx_CVW R s args own C index y bytes maxL ret hh ws rm mc ms n := by
  obtain ⟨hC, hd⟩ := hd
  subst hC
  have ok : ∀ w ∈ wsV own index y.cls y ws, w.before args s = true := fun w h => ht w (hT w h).1
  have hG : GoodIn Ts ws := fun w h => hT w (by unfold wsV; exact List.mem_append_right _ h)
  have hc : Cond.codeWith y bytes maxL ret hh ∈ ws := by rw [hw]; exact List.mem_cons_self
  refine ⟨⟨hrc, hrs, hR.1, hR.2, pay_in ht hG, hc⟩, ht _ (hG _ hc).1, ok _ (by simp [wsV]), ⟨hd.1, hd.2.1⟩, fun sig h => ?_, ok _ (by simp [wsV]), ok _ (by simp [wsV]), ok _ (by simp [wsV])⟩
  have h2 := hd.2.2
  rw [h] at h2
  exact (Option.some.inj h2).symm
theorem vx_runVW {y : MethodName} {bytes cc : ByteArray} {maxL nL mc ms n index : Nat} {ret : Option FieldType} {hh : List (Nat × Nat × Nat × Nat)} {ws : List Cond} {rm : Room} {Pc : Array Value → State → Prop} {Qc : Array Value → State → Outcome → State → Prop} {free : Addr → Prop} {Ts : List Cond} {own C : String} {b : Addr} {As rest : List Value} {g : JFrame}
    (S : CallFix p m c cc nL s args Ts own) (hM : Met l y ws rm Pc Qc mc ms free) (cw : vx_CVW R s args own C index y bytes maxL ret hh ws rm mc ms n) (hp : PreV s H C b Pc As)
    (hg : g.method = m) (hn : As.length = n) (hsize : g.locals.size = nL) (hstack : g.stack = As.reverse ++ .ref b :: rest) (hW : 2 * g.monitorRoom + (rest.map fun v => v.category).sum ≤ 8) (hdg : decode cc g.pc = .ok (.invokevirtual index, 3)) (hf : cells + mc ≤ R.cells ∧ slots + ms ≤ R.slots) :
    va_Run p l e R s m args below meth c H locs cells slots mc ms g rest (Qc (Value.ref b :: As).toArray) free := by
  obtain ⟨⟨hrc, hrs, hfr, hlo, hws, hcw⟩, hcode, hini, hy, hlen, hl, hin, hse⟩ := cw
  have hK : Back l R p e below s args y 3 8 (PreOf R mc ms Pc) (PostOf Qc mc ms free) := va_backW (hh := hh) (bytes := bytes) (maxL := maxL) (ret := ret) hM hp.1 hrc hrs hfr hlo hws hcw (fun a' U hW => word_at hW (Or.inl (by first | rfl | simp [Cond.onTables, Cond.keeps, Cond.steady])) hini)
  obtain ⟨hx, hb, hml, ho, -⟩ := S
  obtain ⟨-, ⟨cellB, hcB, hoB, hclB⟩, hPc⟩ := hp
  intro T hT X
  obtain ⟨v, vm₁, ⟨U', l2, c2, s2⟩, hW₁, X', ⟨g', mk, t, L, e1, e2, hq, h1, hL, h2, h3⟩, st⟩ := vx_callVW X hx (C := C) (hh := hh) (bytes := bytes) (maxL := maxL) (ret := ret) ho hl hin hse hcode hy hK (by rw [hT]; exact hcB) hoB hclB hg (hsize.trans hml.symm) (argsL := As) (rest := rest) (fun sig h => hn.trans (hlen sig h)) hstack hW (by rw [hb]; exact hdg)
    (fun vm₁ hW₁ => ⟨hf.1, hf.2, hPc (T.setVm vm₁) hT hW₁⟩)
  dsimp only [Pt.U, Pt.locs, Pt.cells, Pt.slots] at X' e1 e2 h1 h2 h3 st
  subst h1; subst h2; subst h3
  exact ⟨v, (T.setVm vm₁).calling g' mk (Value.ref b :: As).toArray, t, U', L, hT, X', hL, e1, e2, hq, st⟩
section
variable {y : MethodName} {bytes cc : ByteArray} {maxL nL mc ms n index : Nat} {ret : Option FieldType} {ws : List Cond} {rm : Room} {Pc : Array Value → State → Prop} {Qc : Array Value → State → Outcome → State → Prop} {XC : String → State → State → Prop} {free : Addr → Prop} {Ts : List Cond} {own C : String} {b : Addr} {As rest : List Value} {g : JFrame}
theorem vx_runVX {hh : List (Nat × Nat × Nat × Nat)} (S : CallFix p m c cc nL s args Ts own) (hM : vx_Met l y ws rm Pc Qc XC mc ms free) (cw : vx_CVW R s args own C index y bytes maxL ret hh ws rm mc ms n) (hp : PreV s H C b Pc As)
    (hg : g.method = m) (hn : As.length = n) (hsize : g.locals.size = nL) (hstack : g.stack = As.reverse ++ .ref b :: rest) (hW : 2 * g.monitorRoom + (rest.map fun v => v.category).sum ≤ 8) (hdg : decode cc g.pc = .ok (.invokevirtual index, 3)) (hf : cells + mc ≤ R.cells ∧ slots + ms ≤ R.slots) :
    vx_Run p l e R s m args below meth c H locs cells slots mc ms g rest (Qc (Value.ref b :: As).toArray) XC free := by
  obtain ⟨⟨hrc, hrs, hfr, hlo, hws, hcw⟩, hcode, hini, hy, hlen, hl, hin, hse⟩ := cw
  have hK : vx_Back l R p e below s args y 3 8 (PreOf R mc ms Pc) (PostOf Qc mc ms free) (vx_Post XC mc ms free) := vx_backW (hh := hh) (bytes := bytes) (maxL := maxL) (ret := ret) hM hp.1 hrc hrs hfr hlo hws hcw (fun a' U hW => word_at hW (Or.inl (by first | rfl | simp [Cond.onTables, Cond.keeps, Cond.steady])) hini)
  obtain ⟨hx, hb, hml, ho, -⟩ := S
  obtain ⟨-, ⟨cellB, hcB, hoB, hclB⟩, hPc⟩ := hp
  intro T hT X
  rcases vx_callVX X hx (C := C) (hh := hh) (bytes := bytes) (maxL := maxL) (ret := ret) ho hl hin hse hcode hy hK (by rw [hT]; exact hcB) hoB hclB hg (hsize.trans hml.symm) (argsL := As) (rest := rest) (fun sig h => hn.trans (hlen sig h)) hstack hW (by rw [hb]; exact hdg)
    (fun vm₁ hW₁ => ⟨hf.1, hf.2, hPc (T.setVm vm₁) hT hW₁⟩) with ⟨v, vm₁, ⟨U', l2, c2, s2⟩, hW₁, X', ⟨g', mk, t, L, e1, e2, hq, h1, hL, h2, h3⟩, st⟩ | ⟨q, vm₁, ⟨U', l2, c2, s2⟩, hW₁, X', ⟨g', mk, t, L, E, ce, e1, e2, hq, hce, hcv, hcl, h1, hL, h2, h3⟩, st⟩
  · dsimp only [Pt.U, Pt.locs, Pt.cells, Pt.slots] at X' e1 e2 h1 h2 h3 st
    subst h1; subst h2; subst h3
    exact Or.inl ⟨v, (T.setVm vm₁).calling g' mk (Value.ref b :: As).toArray, t, U', L, hT, X', hL, e1, e2, hq, st⟩
  · dsimp only [Pt.U, Pt.locs, Pt.cells, Pt.slots] at X' e1 e2 h1 h2 h3 st hcl
    subst h1; subst h2; subst h3
    exact Or.inr ⟨q, (T.setVm vm₁).calling g' mk (Value.ref b :: As).toArray, t, U', L, E, ce, hT, X', hL, e1, e2, hq, hce, hcv, vx_cls hW₁ hcl, st⟩
theorem vx_runSX {hh : List (Nat × Nat × Nat × Nat)} (S : CallFix p m c cc nL s args Ts own) (hM : vx_Met l y ws rm Pc Qc XC mc ms free) (cw : vx_CSW R s args own index y bytes maxL ret hh ws rm mc ms n) (hp : PreS s H Pc As)
    (hg : g.method = m) (hn : As.length = n) (hsize : g.locals.size = nL) (hstack : g.stack = As.reverse ++ rest) (hW : 2 * g.monitorRoom + (rest.map fun v => v.category).sum ≤ 8) (hdg : decode cc g.pc = .ok (.invokestatic index, 3)) (hf : cells + mc ≤ R.cells ∧ slots + ms ≤ R.slots) :
    vx_Run p l e R s m args below meth c H locs cells slots mc ms g rest (Qc As.toArray) XC free := by
  obtain ⟨⟨hrc, hrs, hfr, hlo, hws, hcw⟩, hcode, hini, hy, hlen, hl, hstt⟩ := cw
  have hK : vx_Back l R p e below s args y 3 8 (PreOf R mc ms Pc) (PostOf Qc mc ms free) (vx_Post XC mc ms free) := vx_backW (hh := hh) (bytes := bytes) (maxL := maxL) (ret := ret) hM hp.1 hrc hrs hfr hlo hws hcw (fun a' U hW => word_at hW (Or.inl (by first | rfl | simp [Cond.onTables, Cond.keeps, Cond.steady])) hini)
  obtain ⟨hx, hb, hml, ho, -⟩ := S
  intro T hT X
  rcases vx_callSX X hx (hh := hh) (bytes := bytes) (maxL := maxL) (ret := ret) ho hl hstt hini hcode hy hK hg (hsize.trans hml.symm) (argsL := As) (rest := rest) (fun sig h => hn.trans (hlen sig h)) hstack hW (by rw [hb]; exact hdg)
    (fun vm₁ hW₁ => ⟨hf.1, hf.2, hp.2 (T.setVm vm₁) hT hW₁⟩) with ⟨v, vm₁, ⟨U', l2, c2, s2⟩, hW₁, X', ⟨g', mk, t, L, e1, e2, hq, h1, hL, h2, h3⟩, st⟩ | ⟨q, vm₁, ⟨U', l2, c2, s2⟩, hW₁, X', ⟨g', mk, t, L, E, ce, e1, e2, hq, hce, hcv, hcl, h1, hL, h2, h3⟩, st⟩
  · dsimp only [Pt.U, Pt.locs, Pt.cells, Pt.slots] at X' e1 e2 h1 h2 h3 st
    subst h1; subst h2; subst h3
    exact Or.inl ⟨v, (T.setVm vm₁).calling g' mk As.toArray, t, U', L, hT, X', hL, e1, e2, hq, st⟩
  · dsimp only [Pt.U, Pt.locs, Pt.cells, Pt.slots] at X' e1 e2 h1 h2 h3 st hcl
    subst h1; subst h2; subst h3
    exact Or.inr ⟨q, (T.setVm vm₁).calling g' mk As.toArray, t, U', L, E, ce, hT, X', hL, e1, e2, hq, hce, hcv, vx_cls hW₁ hcl, st⟩
end
end VXH
theorem vx_ofWH {l : Launch} {y : MethodName} {ws ws' : List Cond} {rm : Room} {Pc : Array Value → State → Prop} {Qc : Array Value → State → Outcome → State → Prop} {XC : String → State → State → Prop} {mc ms : Nat} {free : Addr → Prop} {cc : ByteArray} {maxL : Nat} {ret : Option FieldType} {hh : List (Nat × Nat × Nat × Nat)}
    (hy : plainName y.cls = true) (hw : ws = Cond.codeWith y cc maxL ret hh :: ws')
    (body : ∀ p e s m args below meth c s₁, BodyLoose p l y (headSpec ws rm) cc maxL ret e s m args below meth c s₁ → c.maxLocals = maxL → Pc args s →
      W p l e (headSpec ws rm).room s m args below meth c s.heap [] 0 0 (vx_MQ below Qc XC args s mc ms free) (entryFrame m args maxL)) : vx_Met l y ws rm Pc Qc XC mc ms free := by
  refine MetFree.of_bodyS (code := cc) (maxLocals := maxL) (ret := ret) hy ?_ ?_
  · intro args s m h hn
    obtain ⟨m9, meth, c, hn9, h1, h2, h3, h4, -, h5, h6, -⟩ := Cond.codeWith_spec (atoms_spec (ws := ws) h _ (by rw [hw]; exact List.mem_cons_self))
    cases hn.symm.trans hn9
    exact ⟨meth, c, h1, h2, h3, h4, h5, h6⟩
  · intro p e s m args below meth c s₁ B hml hP _
    have hh0 : s₁.heap = s.heap := by rw [B.state]; rfl
    obtain ⟨t, a1, o, b1, b2, b3⟩ := body p e s m args below meth c s₁ B hml hP s₁ hh0 (Stand.of_body B)
    exact ⟨t, o, a1, b1, b2, b3⟩
/-! ===== END ===== -/

/-! ===== BEGIN printed: names, fields, word lists, decode rows ===== -/
def RX0 : String := "TreadCranes$Barrel"
def TX0 : u_T := fun k => match k with
  | 0 => ("TreadCranes$Barrel", "number", "I", true)
  | 1 => ("TreadCranes$Barrel", "weight", "I", true)
  | 2 => ("TreadCranes$Barrel", "place", "I", false)
  | 3 => ("TreadCranes$Barrel", "level", "I", false)
  | 4 => ("TreadCranes$Barrel", "below", "LTreadCranes$Barrel;", false)
  | 5 => ("TreadCranes$Barrel", "crane", "I", false)
  | _ => ("TreadCranes$Barrel", "broken", "Z", false)
def tyX0 : Nat → FieldType := fun k => match k with
  | 0 => .int
  | 1 => .int
  | 2 => .int
  | 3 => .int
  | 4 => .object "TreadCranes$Barrel"
  | 5 => .int
  | _ => .boolean
abbrev wsX00 : List Cond := u_ws RX0 TX0 7
theorem nmX0 : ∀ a, a < 7 → ∀ b, b < 7 → a ≠ b → (TX0 a).2.1 ≠ (TX0 b).2.1 := by decide +kernel
theorem tyX0_ok : ∀ k, k < 7 → parseFieldDescriptor (TX0 k).2.2.1 = some (tyX0 k) := by decide +kernel
abbrev cX0_init : ByteArray := prog_2_method_1_code
def yX0_init : MethodName := ⟨RX0, "<init>", "(II)V"⟩
def RX1 : String := "TreadCranes$Crane"
def TX1 : u_T := fun k => match k with
  | 0 => ("TreadCranes$Crane", "place", "I", true)
  | 1 => ("TreadCranes$Crane", "reach", "I", true)
  | 2 => ("TreadCranes$Crane", "drum", "I", true)
  | 3 => ("TreadCranes$Crane", "walkers", "I", false)
  | 4 => ("TreadCranes$Crane", "worn", "I", false)
  | 5 => ("TreadCranes$Crane", "hookPlace", "I", false)
  | 6 => ("TreadCranes$Crane", "hookHeight", "I", false)
  | _ => ("TreadCranes$Crane", "load", "LTreadCranes$Barrel;", false)
def tyX1 : Nat → FieldType := fun k => match k with
  | 0 => .int
  | 1 => .int
  | 2 => .int
  | 3 => .int
  | 4 => .int
  | 5 => .int
  | 6 => .int
  | _ => .object "TreadCranes$Barrel"
abbrev wsX10 : List Cond := u_ws RX1 TX1 8
theorem nmX1 : ∀ a, a < 8 → ∀ b, b < 8 → a ≠ b → (TX1 a).2.1 ≠ (TX1 b).2.1 := by decide +kernel
theorem tyX1_ok : ∀ k, k < 8 → parseFieldDescriptor (TX1 k).2.2.1 = some (tyX1 k) := by decide +kernel
abbrev cX1_init : ByteArray := prog_3_method_1_code
def yX1_init : MethodName := ⟨RX1, "<init>", "(IIII)V"⟩
abbrev cX1_strength : ByteArray := prog_3_method_2_code
def yX1_strength : MethodName := ⟨RX1, "strength", "()I"⟩
abbrev cX1_canLift : ByteArray := prog_3_method_3_code
def yX1_canLift : MethodName := ⟨RX1, "canLift", "(I)Z"⟩
abbrev cX1_reaches : ByteArray := prog_3_method_4_code
def yX1_reaches : MethodName := ⟨RX1, "reaches", "(I)Z"⟩
abbrev cX1_ticksToWind : ByteArray := prog_3_method_5_code
def yX1_ticksToWind : MethodName := ⟨RX1, "ticksToWind", "(I)I"⟩
abbrev cX1_lowestHook : ByteArray := prog_3_method_6_code
def yX1_lowestHook : MethodName := ⟨RX1, "lowestHook", "(I)I"⟩
abbrev cX1_wornAfterLowering : ByteArray := prog_3_method_7_code
def yX1_wornAfterLowering : MethodName := ⟨RX1, "wornAfterLowering", "(II)I"⟩
def RX2 : String := "TreadCranes"
def TX2 : u_T := fun k => match k with
  | 0 => ("TreadCranes", "uppermost", "[LTreadCranes$Barrel;", true)
  | 1 => ("TreadCranes", "barrels", "Ljava/util/ArrayList;", true)
  | 2 => ("TreadCranes", "cranes", "Ljava/util/ArrayList;", true)
  | _ => ("TreadCranes", "ticks", "I", false)
def tyX2 : Nat → FieldType := fun k => match k with
  | 0 => .array (.object "TreadCranes$Barrel")
  | 1 => .object "java/util/ArrayList"
  | 2 => .object "java/util/ArrayList"
  | _ => .int
abbrev wsX20 : List Cond := u_ws RX2 TX2 4
theorem nmX2 : ∀ a, a < 4 → ∀ b, b < 4 → a ≠ b → (TX2 a).2.1 ≠ (TX2 b).2.1 := by decide +kernel
theorem tyX2_ok : ∀ k, k < 4 → parseFieldDescriptor (TX2 k).2.2.1 = some (tyX2 k) := by decide +kernel
abbrev cX2_init : ByteArray := prog_1_method_1_code
def yX2_init : MethodName := ⟨RX2, "<init>", "()V"⟩
abbrev cX2_land : ByteArray := prog_1_method_2_code
def yX2_land : MethodName := ⟨RX2, "land", "(II)I"⟩
abbrev cX2_build : ByteArray := prog_1_method_3_code
def yX2_build : MethodName := ⟨RX2, "build", "(IIII)I"⟩
abbrev cX2_man : ByteArray := prog_1_method_4_code
def yX2_man : MethodName := ⟨RX2, "man", "(II)I"⟩
abbrev cX2_mend : ByteArray := prog_1_method_5_code
def yX2_mend : MethodName := ⟨RX2, "mend", "(I)I"⟩
abbrev cX2_turn : ByteArray := prog_1_method_6_code
def yX2_turn : MethodName := ⟨RX2, "turn", "(II)I"⟩
abbrev cX2_hoist : ByteArray := prog_1_method_7_code
def yX2_hoist : MethodName := ⟨RX2, "hoist", "(II)I"⟩
abbrev cX2_take : ByteArray := prog_1_method_8_code
def yX2_take : MethodName := ⟨RX2, "take", "(I)I"⟩
abbrev cX2_lay : ByteArray := prog_1_method_9_code
def yX2_lay : MethodName := ⟨RX2, "lay", "(I)I"⟩
abbrev cX2_place : ByteArray := prog_1_method_10_code
def yX2_place : MethodName := ⟨RX2, "place", "(II)I"⟩
abbrev cX2_barrel : ByteArray := prog_1_method_11_code
def yX2_barrel : MethodName := ⟨RX2, "barrel", "(II)I"⟩
abbrev cX2_crane : ByteArray := prog_1_method_12_code
def yX2_crane : MethodName := ⟨RX2, "crane", "(II)I"⟩
abbrev cX2_count : ByteArray := prog_1_method_13_code
def yX2_count : MethodName := ⟨RX2, "count", "(I)I"⟩
abbrev cX2_move : ByteArray := prog_1_method_14_code
def yX2_move : MethodName := ⟨RX2, "move", "(III)I"⟩
abbrev cX2_best : ByteArray := prog_1_method_15_code
def yX2_best : MethodName := ⟨RX2, "best", "(II)I"⟩
abbrev cX2_lasts : ByteArray := prog_1_method_16_code
def yX2_lasts : MethodName := ⟨RX2, "lasts", "(II)I"⟩
abbrev cX2_within : ByteArray := prog_1_method_17_code
def yX2_within : MethodName := ⟨RX2, "within", "(I)I"⟩
abbrev cX2_mean : ByteArray := prog_1_method_18_code
def yX2_mean : MethodName := ⟨RX2, "mean", "()D"⟩
abbrev cX2_digest : ByteArray := prog_1_method_19_code
def yX2_digest : MethodName := ⟨RX2, "digest", "()J"⟩
abbrev cX2_isBetween : ByteArray := prog_1_method_20_code
def yX2_isBetween : MethodName := ⟨RX2, "isBetween", "(III)Z"⟩
abbrev cX2_isPlace : ByteArray := prog_1_method_21_code
def yX2_isPlace : MethodName := ⟨RX2, "isPlace", "(I)Z"⟩
abbrev cX2_requirePlace : ByteArray := prog_1_method_22_code
def yX2_requirePlace : MethodName := ⟨RX2, "requirePlace", "(I)V"⟩
abbrev cX2_requireCrane : ByteArray := prog_1_method_23_code
def yX2_requireCrane : MethodName := ⟨RX2, "requireCrane", "(I)V"⟩
abbrev cX2_requireAnswer : ByteArray := prog_1_method_24_code
def yX2_requireAnswer : MethodName := ⟨RX2, "requireAnswer", "(II)V"⟩
abbrev cX2_requireWeight : ByteArray := prog_1_method_25_code
def yX2_requireWeight : MethodName := ⟨RX2, "requireWeight", "(I)V"⟩
abbrev cX2_requireWalkers : ByteArray := prog_1_method_26_code
def yX2_requireWalkers : MethodName := ⟨RX2, "requireWalkers", "(I)V"⟩
abbrev cX2_distance : ByteArray := prog_1_method_27_code
def yX2_distance : MethodName := ⟨RX2, "distance", "(II)I"⟩
abbrev cX2_uppermostAt : ByteArray := prog_1_method_28_code
def yX2_uppermostAt : MethodName := ⟨RX2, "uppermostAt", "(I)LTreadCranes$Barrel;"⟩
abbrev cX2_heightOf : ByteArray := prog_1_method_29_code
def yX2_heightOf : MethodName := ⟨RX2, "heightOf", "(I)I"⟩
abbrev cX2_highestBetween : ByteArray := prog_1_method_30_code
def yX2_highestBetween : MethodName := ⟨RX2, "highestBetween", "(II)I"⟩
abbrev cX2_putUpon : ByteArray := prog_1_method_31_code
def yX2_putUpon : MethodName := ⟨RX2, "putUpon", "(ILTreadCranes$Barrel;)V"⟩
abbrev cX2_removeUppermost : ByteArray := prog_1_method_32_code
def yX2_removeUppermost : MethodName := ⟨RX2, "removeUppermost", "(I)V"⟩
abbrev cX2_hooksAllow : ByteArray := prog_1_method_33_code
def yX2_hooksAllow : MethodName := ⟨RX2, "hooksAllow", "(III)Z"⟩
abbrev cX2_wearInATick : ByteArray := prog_1_method_34_code
def yX2_wearInATick : MethodName := ⟨RX2, "wearInATick", "(I)I"⟩
abbrev cX2_raiseHook : ByteArray := prog_1_method_35_code
def yX2_raiseHook : MethodName := ⟨RX2, "raiseHook", "(LTreadCranes$Crane;I)I"⟩
abbrev cX2_lowerHook : ByteArray := prog_1_method_36_code
def yX2_lowerHook : MethodName := ⟨RX2, "lowerHook", "(LTreadCranes$Crane;I)I"⟩
abbrev cX2_dropLoad : ByteArray := prog_1_method_37_code
def yX2_dropLoad : MethodName := ⟨RX2, "dropLoad", "(LTreadCranes$Crane;)V"⟩
abbrev cX2_isFreeToMove : ByteArray := prog_1_method_38_code
def yX2_isFreeToMove : MethodName := ⟨RX2, "isFreeToMove", "(LTreadCranes$Crane;II)Z"⟩
abbrev cX2_ticksToMove : ByteArray := prog_1_method_39_code
def yX2_ticksToMove : MethodName := ⟨RX2, "ticksToMove", "(LTreadCranes$Crane;II)I"⟩
abbrev cX2_placeAnswer : ByteArray := prog_1_method_40_code
def yX2_placeAnswer : MethodName := ⟨RX2, "placeAnswer", "(II)I"⟩
abbrev cX2_barrelAnswer : ByteArray := prog_1_method_41_code
def yX2_barrelAnswer : MethodName := ⟨RX2, "barrelAnswer", "(LTreadCranes$Barrel;I)I"⟩
abbrev cX2_craneAnswer : ByteArray := prog_1_method_42_code
def yX2_craneAnswer : MethodName := ⟨RX2, "craneAnswer", "(LTreadCranes$Crane;I)I"⟩
abbrev cX2_countAnswer : ByteArray := prog_1_method_43_code
def yX2_countAnswer : MethodName := ⟨RX2, "countAnswer", "(I)I"⟩
abbrev cX2_numberOf : ByteArray := prog_1_method_44_code
def yX2_numberOf : MethodName := ⟨RX2, "numberOf", "(LTreadCranes$Barrel;)I"⟩
abbrev cX2_weightsAt : ByteArray := prog_1_method_45_code
def yX2_weightsAt : MethodName := ⟨RX2, "weightsAt", "(I)I"⟩
abbrev cX2_hooksOver : ByteArray := prog_1_method_46_code
def yX2_hooksOver : MethodName := ⟨RX2, "hooksOver", "(I)I"⟩
abbrev cX2_standing : ByteArray := prog_1_method_47_code
def yX2_standing : MethodName := ⟨RX2, "standing", "()I"⟩
abbrev cX2_hanging : ByteArray := prog_1_method_48_code
def yX2_hanging : MethodName := ⟨RX2, "hanging", "()I"⟩
def RX3 : String := "TreadCranesModel"
def TX3 : u_T := fun k => match k with
  | 0 => ("TreadCranesModel", "thrown", "I", false)
  | 1 => ("TreadCranesModel", "ticks", "I", false)
  | 2 => ("TreadCranesModel", "barrels", "I", false)
  | 3 => ("TreadCranesModel", "weight", "[I", true)
  | 4 => ("TreadCranesModel", "at", "[I", true)
  | 5 => ("TreadCranesModel", "below", "[I", true)
  | 6 => ("TreadCranesModel", "cranes", "I", false)
  | 7 => ("TreadCranesModel", "post", "[I", true)
  | 8 => ("TreadCranesModel", "reach", "[I", true)
  | 9 => ("TreadCranesModel", "drum", "[I", true)
  | 10 => ("TreadCranesModel", "walkers", "[I", true)
  | 11 => ("TreadCranesModel", "worn", "[I", true)
  | 12 => ("TreadCranesModel", "hook", "[I", true)
  | 13 => ("TreadCranesModel", "height", "[I", true)
  | _ => ("TreadCranesModel", "load", "[I", true)
def tyX3 : Nat → FieldType := fun k => match k with
  | 0 => .int
  | 1 => .int
  | 2 => .int
  | 3 => .array .int
  | 4 => .array .int
  | 5 => .array .int
  | 6 => .int
  | 7 => .array .int
  | 8 => .array .int
  | 9 => .array .int
  | 10 => .array .int
  | 11 => .array .int
  | 12 => .array .int
  | 13 => .array .int
  | _ => .array .int
abbrev wsX30 : List Cond := u_ws RX3 TX3 15
theorem nmX3 : ∀ a, a < 15 → ∀ b, b < 15 → a ≠ b → (TX3 a).2.1 ≠ (TX3 b).2.1 := by decide +kernel
theorem tyX3_ok : ∀ k, k < 15 → parseFieldDescriptor (TX3 k).2.2.1 = some (tyX3 k) := by decide +kernel
abbrev cX3_init : ByteArray := prog_5_method_1_code
def yX3_init : MethodName := ⟨RX3, "<init>", "()V"⟩
abbrev cX3_thrown : ByteArray := prog_5_method_2_code
def yX3_thrown : MethodName := ⟨RX3, "thrown", "()I"⟩
abbrev cX3_no : ByteArray := prog_5_method_3_code
def yX3_no : MethodName := ⟨RX3, "no", "(I)I"⟩
abbrev cX3_isIn : ByteArray := prog_5_method_4_code
def yX3_isIn : MethodName := ⟨RX3, "isIn", "(III)Z"⟩
abbrev cX3_isPlace : ByteArray := prog_5_method_5_code
def yX3_isPlace : MethodName := ⟨RX3, "isPlace", "(I)Z"⟩
abbrev cX3_isCrane : ByteArray := prog_5_method_6_code
def yX3_isCrane : MethodName := ⟨RX3, "isCrane", "(I)Z"⟩
abbrev cX3_high : ByteArray := prog_5_method_7_code
def yX3_high : MethodName := ⟨RX3, "high", "(I)I"⟩
abbrev cX3_top : ByteArray := prog_5_method_8_code
def yX3_top : MethodName := ⟨RX3, "top", "(I)I"⟩
abbrev cX3_loaded : ByteArray := prog_5_method_9_code
def yX3_loaded : MethodName := ⟨RX3, "loaded", "(I)I"⟩
abbrev cX3_strength : ByteArray := prog_5_method_10_code
def yX3_strength : MethodName := ⟨RX3, "strength", "(I)I"⟩
abbrev cX3_wound : ByteArray := prog_5_method_11_code
def yX3_wound : MethodName := ⟨RX3, "wound", "(II)I"⟩
abbrev cX3_isInReach : ByteArray := prog_5_method_12_code
def yX3_isInReach : MethodName := ⟨RX3, "isInReach", "(II)Z"⟩
abbrev cX3_isTooLow : ByteArray := prog_5_method_13_code
def yX3_isTooLow : MethodName := ⟨RX3, "isTooLow", "(III)Z"⟩
abbrev cX3_highest : ByteArray := prog_5_method_14_code
def yX3_highest : MethodName := ⟨RX3, "highest", "(III)I"⟩
abbrev cX3_land : ByteArray := prog_5_method_15_code
def yX3_land : MethodName := ⟨RX3, "land", "(II)I"⟩
abbrev cX3_build : ByteArray := prog_5_method_16_code
def yX3_build : MethodName := ⟨RX3, "build", "(IIII)I"⟩
abbrev cX3_man : ByteArray := prog_5_method_17_code
def yX3_man : MethodName := ⟨RX3, "man", "(II)I"⟩
abbrev cX3_mend : ByteArray := prog_5_method_18_code
def yX3_mend : MethodName := ⟨RX3, "mend", "(I)I"⟩
abbrev cX3_turn : ByteArray := prog_5_method_19_code
def yX3_turn : MethodName := ⟨RX3, "turn", "(II)I"⟩
abbrev cX3_canLift : ByteArray := prog_5_method_20_code
def yX3_canLift : MethodName := ⟨RX3, "canLift", "(I)Z"⟩
abbrev cX3_hoist : ByteArray := prog_5_method_21_code
def yX3_hoist : MethodName := ⟨RX3, "hoist", "(II)I"⟩
abbrev cX3_fall : ByteArray := prog_5_method_22_code
def yX3_fall : MethodName := ⟨RX3, "fall", "(I)I"⟩
abbrev cX3_take : ByteArray := prog_5_method_23_code
def yX3_take : MethodName := ⟨RX3, "take", "(I)I"⟩
abbrev cX3_lay : ByteArray := prog_5_method_24_code
def yX3_lay : MethodName := ⟨RX3, "lay", "(I)I"⟩
abbrev cX3_placeTold : ByteArray := prog_5_method_25_code
def yX3_placeTold : MethodName := ⟨RX3, "placeTold", "(II)I"⟩
abbrev cX3_place : ByteArray := prog_5_method_26_code
def yX3_place : MethodName := ⟨RX3, "place", "(II)I"⟩
abbrev cX3_craneOf : ByteArray := prog_5_method_27_code
def yX3_craneOf : MethodName := ⟨RX3, "craneOf", "(I)I"⟩
abbrev cX3_barrelTold : ByteArray := prog_5_method_28_code
def yX3_barrelTold : MethodName := ⟨RX3, "barrelTold", "(II)I"⟩
abbrev cX3_barrel : ByteArray := prog_5_method_29_code
def yX3_barrel : MethodName := ⟨RX3, "barrel", "(II)I"⟩
abbrev cX3_craneTold : ByteArray := prog_5_method_30_code
def yX3_craneTold : MethodName := ⟨RX3, "craneTold", "(II)I"⟩
abbrev cX3_crane : ByteArray := prog_5_method_31_code
def yX3_crane : MethodName := ⟨RX3, "crane", "(II)I"⟩
abbrev cX3_counted : ByteArray := prog_5_method_32_code
def yX3_counted : MethodName := ⟨RX3, "counted", "(I)I"⟩
abbrev cX3_count : ByteArray := prog_5_method_33_code
def yX3_count : MethodName := ⟨RX3, "count", "(I)I"⟩
abbrev cX3_ticksOf : ByteArray := prog_5_method_34_code
def yX3_ticksOf : MethodName := ⟨RX3, "ticksOf", "(III)I"⟩
abbrev cX3_move : ByteArray := prog_5_method_35_code
def yX3_move : MethodName := ⟨RX3, "move", "(III)I"⟩
abbrev cX3_best : ByteArray := prog_5_method_36_code
def yX3_best : MethodName := ⟨RX3, "best", "(II)I"⟩
abbrev cX3_lasts : ByteArray := prog_5_method_37_code
def yX3_lasts : MethodName := ⟨RX3, "lasts", "(II)I"⟩
abbrev cX3_within : ByteArray := prog_5_method_38_code
def yX3_within : MethodName := ⟨RX3, "within", "(I)I"⟩
abbrev cX3_mean : ByteArray := prog_5_method_39_code
def yX3_mean : MethodName := ⟨RX3, "mean", "()D"⟩
abbrev cX3_digest : ByteArray := prog_5_method_40_code
def yX3_digest : MethodName := ⟨RX3, "digest", "()J"⟩
def RJx145de : String := "java/io/Serializable"
def TJx145de : u_T := fun k => match k with
  | _ => ("", "", "", false)
def tyJx145de : Nat → FieldType := fun k => match k with
  | _ => .int
abbrev wsJx145de0 : List Cond := u_ws RJx145de TJx145de 0
theorem nmJx145de : ∀ a, a < 0 → ∀ b, b < 0 → a ≠ b → (TJx145de a).2.1 ≠ (TJx145de b).2.1 := by decide +kernel
theorem tyJx145de_ok : ∀ k, k < 0 → parseFieldDescriptor (TJx145de k).2.2.1 = some (tyJx145de k) := by decide +kernel
def RJx8e188 : String := "java/lang/Cloneable"
def TJx8e188 : u_T := fun k => match k with
  | _ => ("", "", "", false)
def tyJx8e188 : Nat → FieldType := fun k => match k with
  | _ => .int
abbrev wsJx8e1880 : List Cond := u_ws RJx8e188 TJx8e188 0
theorem nmJx8e188 : ∀ a, a < 0 → ∀ b, b < 0 → a ≠ b → (TJx8e188 a).2.1 ≠ (TJx8e188 b).2.1 := by decide +kernel
theorem tyJx8e188_ok : ∀ k, k < 0 → parseFieldDescriptor (TJx8e188 k).2.2.1 = some (tyJx8e188 k) := by decide +kernel
def RJxab1ab : String := "java/lang/Iterable"
def TJxab1ab : u_T := fun k => match k with
  | _ => ("", "", "", false)
def tyJxab1ab : Nat → FieldType := fun k => match k with
  | _ => .int
abbrev wsJxab1ab0 : List Cond := u_ws RJxab1ab TJxab1ab 0
theorem nmJxab1ab : ∀ a, a < 0 → ∀ b, b < 0 → a ≠ b → (TJxab1ab a).2.1 ≠ (TJxab1ab b).2.1 := by decide +kernel
theorem tyJxab1ab_ok : ∀ k, k < 0 → parseFieldDescriptor (TJxab1ab k).2.2.1 = some (tyJxab1ab k) := by decide +kernel
def RJ9 : String := "java/lang/Math"
def TJ9 : u_T := fun k => match k with
  | _ => ("", "", "", false)
def tyJ9 : Nat → FieldType := fun k => match k with
  | _ => .int
abbrev wsJ90 : List Cond := u_ws RJ9 TJ9 0
theorem nmJ9 : ∀ a, a < 0 → ∀ b, b < 0 → a ≠ b → (TJ9 a).2.1 ≠ (TJ9 b).2.1 := by decide +kernel
theorem tyJ9_ok : ∀ k, k < 0 → parseFieldDescriptor (TJ9 k).2.2.1 = some (tyJ9 k) := by decide +kernel
abbrev cJ9_abs_0f7a4 : ByteArray := prog_13_method_59_code
def yJ9_abs_0f7a4 : MethodName := ⟨RJ9, "abs", "(I)I"⟩
abbrev cJ9_max_7cf53 : ByteArray := prog_13_method_65_code
def yJ9_max_7cf53 : MethodName := ⟨RJ9, "max", "(II)I"⟩
abbrev cJ9_min_7cf53 : ByteArray := prog_13_method_69_code
def yJ9_min_7cf53 : MethodName := ⟨RJ9, "min", "(II)I"⟩
def RJ0 : String := "java/lang/String"
def TJ0 : u_T := fun k => match k with
  | _ => ("", "", "", false)
def tyJ0 : Nat → FieldType := fun k => match k with
  | _ => .int
abbrev wsJ00 : List Cond := u_ws RJ0 TJ0 0
theorem nmJ0 : ∀ a, a < 0 → ∀ b, b < 0 → a ≠ b → (TJ0 a).2.1 ≠ (TJ0 b).2.1 := by decide +kernel
theorem tyJ0_ok : ∀ k, k < 0 → parseFieldDescriptor (TJ0 k).2.2.1 = some (tyJ0 k) := by decide +kernel
def RJ10 : String := "java/lang/System"
def TJ10 : u_T := fun k => match k with
  | _ => ("", "", "", false)
def tyJ10 : Nat → FieldType := fun k => match k with
  | _ => .int
abbrev wsJ100 : List Cond := u_ws RJ10 TJ10 0
theorem nmJ10 : ∀ a, a < 0 → ∀ b, b < 0 → a ≠ b → (TJ10 a).2.1 ≠ (TJ10 b).2.1 := by decide +kernel
theorem tyJ10_ok : ∀ k, k < 0 → parseFieldDescriptor (TJ10 k).2.2.1 = some (tyJ10 k) := by decide +kernel
def RJxa1e45 : String := "java/util/AbstractCollection"
def TJxa1e45 : u_T := fun k => match k with
  | _ => ("", "", "", false)
def tyJxa1e45 : Nat → FieldType := fun k => match k with
  | _ => .int
abbrev wsJxa1e450 : List Cond := u_ws RJxa1e45 TJxa1e45 0
theorem nmJxa1e45 : ∀ a, a < 0 → ∀ b, b < 0 → a ≠ b → (TJxa1e45 a).2.1 ≠ (TJxa1e45 b).2.1 := by decide +kernel
theorem tyJxa1e45_ok : ∀ k, k < 0 → parseFieldDescriptor (TJxa1e45 k).2.2.1 = some (tyJxa1e45 k) := by decide +kernel
abbrev cJxa1e45_init_da8c8 : ByteArray := prog_18_method_1_code
def yJxa1e45_init_da8c8 : MethodName := ⟨RJxa1e45, "<init>", "()V"⟩
def RJxc12de : String := "java/util/AbstractList"
def TJxc12de : u_T := fun k => match k with
  | _ => ("", "", "", false)
def tyJxc12de : Nat → FieldType := fun k => match k with
  | _ => .int
abbrev wsJxc12de0 : List Cond := u_ws RJxc12de TJxc12de 0
theorem nmJxc12de : ∀ a, a < 0 → ∀ b, b < 0 → a ≠ b → (TJxc12de a).2.1 ≠ (TJxc12de b).2.1 := by decide +kernel
theorem tyJxc12de_ok : ∀ k, k < 0 → parseFieldDescriptor (TJxc12de k).2.2.1 = some (tyJxc12de k) := by decide +kernel
abbrev cJxc12de_init_da8c8 : ByteArray := prog_19_method_1_code
def yJxc12de_init_da8c8 : MethodName := ⟨RJxc12de, "<init>", "()V"⟩
def RJx4a65c : String := "java/util/ArrayList"
def TJx4a65c : u_T := fun k => match k with
  | 0 => ("java/util/AbstractList", "modCount", "I", false)
  | 1 => ("java/util/ArrayList", "elementData", "[Ljava/lang/Object;", false)
  | _ => ("java/util/ArrayList", "size", "I", false)
def tyJx4a65c : Nat → FieldType := fun k => match k with
  | 0 => .int
  | 1 => .array (.object "java/lang/Object")
  | _ => .int
abbrev wsJx4a65c0 : List Cond := u_ws RJx4a65c TJx4a65c 3
theorem nmJx4a65c : ∀ a, a < 3 → ∀ b, b < 3 → a ≠ b → (TJx4a65c a).2.1 ≠ (TJx4a65c b).2.1 := by decide +kernel
theorem tyJx4a65c_ok : ∀ k, k < 3 → parseFieldDescriptor (TJx4a65c k).2.2.1 = some (tyJx4a65c k) := by decide +kernel
abbrev cJx4a65c_init_da8c8 : ByteArray := prog_20_method_2_code
def yJx4a65c_init_da8c8 : MethodName := ⟨RJx4a65c, "<init>", "()V"⟩
abbrev cJx4a65c_grow_92f84 : ByteArray := prog_20_method_6_code
def yJx4a65c_grow_92f84 : MethodName := ⟨RJx4a65c, "grow", "(I)[Ljava/lang/Object;"⟩
abbrev cJx4a65c_grow_d5877 : ByteArray := prog_20_method_7_code
def yJx4a65c_grow_d5877 : MethodName := ⟨RJx4a65c, "grow", "()[Ljava/lang/Object;"⟩
abbrev cJx4a65c_size_8abf5 : ByteArray := prog_20_method_8_code
def yJx4a65c_size_8abf5 : MethodName := ⟨RJx4a65c, "size", "()I"⟩
abbrev cJx4a65c_elementData_915e3 : ByteArray := prog_20_method_18_code
def yJx4a65c_elementData_915e3 : MethodName := ⟨RJx4a65c, "elementData", "(I)Ljava/lang/Object;"⟩
abbrev cJx4a65c_get_915e3 : ByteArray := prog_20_method_20_code
def yJx4a65c_get_915e3 : MethodName := ⟨RJx4a65c, "get", "(I)Ljava/lang/Object;"⟩
abbrev cJx4a65c_add_72be8 : ByteArray := prog_20_method_24_code
def yJx4a65c_add_72be8 : MethodName := ⟨RJx4a65c, "add", "(Ljava/lang/Object;[Ljava/lang/Object;I)V"⟩
abbrev cJx4a65c_add_9ea2d : ByteArray := prog_20_method_25_code
def yJx4a65c_add_9ea2d : MethodName := ⟨RJx4a65c, "add", "(Ljava/lang/Object;)Z"⟩
def RJ7 : String := "java/util/Arrays"
def TJ7 : u_T := fun k => match k with
  | _ => ("", "", "", false)
def tyJ7 : Nat → FieldType := fun k => match k with
  | _ => .int
abbrev wsJ70 : List Cond := u_ws RJ7 TJ7 0
theorem nmJ7 : ∀ a, a < 0 → ∀ b, b < 0 → a ≠ b → (TJ7 a).2.1 ≠ (TJ7 b).2.1 := by decide +kernel
theorem tyJ7_ok : ∀ k, k < 0 → parseFieldDescriptor (TJ7 k).2.2.1 = some (tyJ7 k) := by decide +kernel
abbrev cJ7_copyOf_1904c : ByteArray := prog_21_method_119_code
def yJ7_copyOf_1904c : MethodName := ⟨RJ7, "copyOf", "([Ljava/lang/Object;I)[Ljava/lang/Object;"⟩
abbrev cJ7_copyOf_6403c : ByteArray := prog_21_method_120_code
def yJ7_copyOf_6403c : MethodName := ⟨RJ7, "copyOf", "([Ljava/lang/Object;ILjava/lang/Class;)[Ljava/lang/Object;"⟩
def RJx5ef63 : String := "java/util/Collection"
def TJx5ef63 : u_T := fun k => match k with
  | _ => ("", "", "", false)
def tyJx5ef63 : Nat → FieldType := fun k => match k with
  | _ => .int
abbrev wsJx5ef630 : List Cond := u_ws RJx5ef63 TJx5ef63 0
theorem nmJx5ef63 : ∀ a, a < 0 → ∀ b, b < 0 → a ≠ b → (TJx5ef63 a).2.1 ≠ (TJx5ef63 b).2.1 := by decide +kernel
theorem tyJx5ef63_ok : ∀ k, k < 0 → parseFieldDescriptor (TJx5ef63 k).2.2.1 = some (tyJx5ef63 k) := by decide +kernel
def RJxbd725 : String := "java/util/List"
def TJxbd725 : u_T := fun k => match k with
  | _ => ("", "", "", false)
def tyJxbd725 : Nat → FieldType := fun k => match k with
  | _ => .int
abbrev wsJxbd7250 : List Cond := u_ws RJxbd725 TJxbd725 0
theorem nmJxbd725 : ∀ a, a < 0 → ∀ b, b < 0 → a ≠ b → (TJxbd725 a).2.1 ≠ (TJxbd725 b).2.1 := by decide +kernel
theorem tyJxbd725_ok : ∀ k, k < 0 → parseFieldDescriptor (TJxbd725 k).2.2.1 = some (tyJxbd725 k) := by decide +kernel
def RJ15 : String := "java/util/Objects"
def TJ15 : u_T := fun k => match k with
  | _ => ("", "", "", false)
def tyJ15 : Nat → FieldType := fun k => match k with
  | _ => .int
abbrev wsJ150 : List Cond := u_ws RJ15 TJ15 0
theorem nmJ15 : ∀ a, a < 0 → ∀ b, b < 0 → a ≠ b → (TJ15 a).2.1 ≠ (TJ15 b).2.1 := by decide +kernel
theorem tyJ15_ok : ∀ k, k < 0 → parseFieldDescriptor (TJ15 k).2.2.1 = some (tyJ15 k) := by decide +kernel
abbrev cJ15_checkIndex_7cf53 : ByteArray := prog_24_method_17_code
def yJ15_checkIndex_7cf53 : MethodName := ⟨RJ15, "checkIndex", "(II)I"⟩
def RJxf0a74 : String := "java/util/RandomAccess"
def TJxf0a74 : u_T := fun k => match k with
  | _ => ("", "", "", false)
def tyJxf0a74 : Nat → FieldType := fun k => match k with
  | _ => .int
abbrev wsJxf0a740 : List Cond := u_ws RJxf0a74 TJxf0a74 0
theorem nmJxf0a74 : ∀ a, a < 0 → ∀ b, b < 0 → a ≠ b → (TJxf0a74 a).2.1 ≠ (TJxf0a74 b).2.1 := by decide +kernel
theorem tyJxf0a74_ok : ∀ k, k < 0 → parseFieldDescriptor (TJxf0a74 k).2.2.1 = some (tyJxf0a74 k) := by decide +kernel
def RJxa66e6 : String := "java/util/SequencedCollection"
def TJxa66e6 : u_T := fun k => match k with
  | _ => ("", "", "", false)
def tyJxa66e6 : Nat → FieldType := fun k => match k with
  | _ => .int
abbrev wsJxa66e60 : List Cond := u_ws RJxa66e6 TJxa66e6 0
theorem nmJxa66e6 : ∀ a, a < 0 → ∀ b, b < 0 → a ≠ b → (TJxa66e6 a).2.1 ≠ (TJxa66e6 b).2.1 := by decide +kernel
theorem tyJxa66e6_ok : ∀ k, k < 0 → parseFieldDescriptor (TJxa66e6 k).2.2.1 = some (tyJxa66e6 k) := by decide +kernel
def RJ8 : String := "jdk/internal/util/ArraysSupport"
def TJ8 : u_T := fun k => match k with
  | _ => ("", "", "", false)
def tyJ8 : Nat → FieldType := fun k => match k with
  | _ => .int
abbrev wsJ80 : List Cond := u_ws RJ8 TJ8 0
theorem nmJ8 : ∀ a, a < 0 → ∀ b, b < 0 → a ≠ b → (TJ8 a).2.1 ≠ (TJ8 b).2.1 := by decide +kernel
theorem tyJ8_ok : ∀ k, k < 0 → parseFieldDescriptor (TJ8 k).2.2.1 = some (tyJ8 k) := by decide +kernel
abbrev cJ8_newLength_cabcc : ByteArray := prog_27_method_27_code
def yJ8_newLength_cabcc : MethodName := ⟨RJ8, "newLength", "(III)I"⟩
abbrev cJ8_hugeLength_7cf53 : ByteArray := prog_27_method_28_code
def yJ8_hugeLength_7cf53 : MethodName := ⟨RJ8, "hugeLength", "(II)I"⟩
def RJ3 : String := "jdk/internal/util/Preconditions"
def TJ3 : u_T := fun k => match k with
  | _ => ("", "", "", false)
def tyJ3 : Nat → FieldType := fun k => match k with
  | _ => .int
abbrev wsJ30 : List Cond := u_ws RJ3 TJ3 0
theorem nmJ3 : ∀ a, a < 0 → ∀ b, b < 0 → a ≠ b → (TJ3 a).2.1 ≠ (TJ3 b).2.1 := by decide +kernel
theorem tyJ3_ok : ∀ k, k < 0 → parseFieldDescriptor (TJ3 k).2.2.1 = some (tyJ3 k) := by decide +kernel
abbrev cJ3_checkIndex_8e157 : ByteArray := prog_28_method_11_code
def yJ3_checkIndex_8e157 : MethodName := ⟨RJ3, "checkIndex", "(IILjava/util/function/BiFunction;)I"⟩
def RL : String := "TreadCranesLaw"
abbrev cL_land : ByteArray := method_3_code
def yL_land : MethodName := ⟨RL, "land", "(LTreadCranes;II[J)I"⟩
abbrev cL_build : ByteArray := method_4_code
def yL_build : MethodName := ⟨RL, "build", "(LTreadCranes;IIII[J)I"⟩
abbrev cL_man : ByteArray := method_5_code
def yL_man : MethodName := ⟨RL, "man", "(LTreadCranes;II[J)I"⟩
abbrev cL_mend : ByteArray := method_6_code
def yL_mend : MethodName := ⟨RL, "mend", "(LTreadCranes;I[J)I"⟩
abbrev cL_turn : ByteArray := method_7_code
def yL_turn : MethodName := ⟨RL, "turn", "(LTreadCranes;II[J)I"⟩
abbrev cL_hoist : ByteArray := method_8_code
def yL_hoist : MethodName := ⟨RL, "hoist", "(LTreadCranes;II[J)I"⟩
abbrev cL_take : ByteArray := method_9_code
def yL_take : MethodName := ⟨RL, "take", "(LTreadCranes;I[J)I"⟩
abbrev cL_lay : ByteArray := method_10_code
def yL_lay : MethodName := ⟨RL, "lay", "(LTreadCranes;I[J)I"⟩
abbrev cL_place : ByteArray := method_11_code
def yL_place : MethodName := ⟨RL, "place", "(LTreadCranes;II[J)I"⟩
abbrev cL_barrel : ByteArray := method_12_code
def yL_barrel : MethodName := ⟨RL, "barrel", "(LTreadCranes;II[J)I"⟩
abbrev cL_crane : ByteArray := method_13_code
def yL_crane : MethodName := ⟨RL, "crane", "(LTreadCranes;II[J)I"⟩
abbrev cL_count : ByteArray := method_14_code
def yL_count : MethodName := ⟨RL, "count", "(LTreadCranes;I[J)I"⟩
abbrev cL_move : ByteArray := method_15_code
def yL_move : MethodName := ⟨RL, "move", "(LTreadCranes;III[J)I"⟩
abbrev cL_best : ByteArray := method_16_code
def yL_best : MethodName := ⟨RL, "best", "(LTreadCranes;II[J)I"⟩
abbrev cL_lasts : ByteArray := method_17_code
def yL_lasts : MethodName := ⟨RL, "lasts", "(LTreadCranes;II[J)I"⟩
abbrev cL_within : ByteArray := method_18_code
def yL_within : MethodName := ⟨RL, "within", "(LTreadCranes;I[J)I"⟩
abbrev cL_law : ByteArray := code
def yL_law : MethodName := ⟨RL, "law", "([I)Z"⟩
abbrev vwCl : List vw_C := [(RJx4a65c, TJx4a65c, 3), (RX0, TX0, 7), (RX1, TX1, 8), (RX2, TX2, 4), (RX3, TX3, 15)]
end
section
def wsX0_init : List Cond := .code yX0_init cX0_init 3 none :: ([.methodLink RX0 3 objectInit, .instanceMethod objectInit, .code objectInit ⟨#[0xb1]⟩ 1 none, .fieldLink RX0 9 "TreadCranes$Barrel" "place" "I", .fieldLink RX0 15 "TreadCranes$Barrel" "crane" "I", .fieldLink RX0 18 "TreadCranes$Barrel" "number" "I", .fieldLink RX0 21 "TreadCranes$Barrel" "weight" "I"] ++ wsX00)
def wsX1_init : List Cond := .code yX1_init cX1_init 5 none :: ([.methodLink RX1 3 objectInit, .instanceMethod objectInit, .code objectInit ⟨#[0xb1]⟩ 1 none, .fieldLink RX1 9 "TreadCranes$Crane" "hookHeight" "I", .fieldLink RX1 15 "TreadCranes$Crane" "place" "I", .fieldLink RX1 18 "TreadCranes$Crane" "reach" "I", .fieldLink RX1 21 "TreadCranes$Crane" "drum" "I", .fieldLink RX1 24 "TreadCranes$Crane" "walkers" "I", .fieldLink RX1 27 "TreadCranes$Crane" "hookPlace" "I"] ++ wsX10)
def wsX1_strength : List Cond := .code yX1_strength cX1_strength 1 (some .int) :: ([.fieldLink RX1 21 "TreadCranes$Crane" "drum" "I", .fieldLink RX1 24 "TreadCranes$Crane" "walkers" "I"] ++ wsX10)
def wsX1_canLift : List Cond := .code yX1_canLift cX1_canLift 2 (some .boolean) :: ([.methodLink RX1 30 yX1_strength, .instanceMethod yX1_strength, .selects RX1 yX1_strength yX1_strength, .initialized RX1, .code yX1_strength cX1_strength 1 (some .int), .fieldLink RX1 21 "TreadCranes$Crane" "drum" "I", .fieldLink RX1 24 "TreadCranes$Crane" "walkers" "I"] ++ wsX10)
def wsX2_distance : List Cond := .code yX2_distance cX2_distance 2 (some .int) :: ([.methodLink RX2 217 Lib.Math.abs.name, .static Lib.Math.abs.name, .initialized "java/lang/Math", .code Lib.Math.abs.name Lib.Math.abs.code 1 (some .int)])
def wsX1_reaches : List Cond := .code yX1_reaches cX1_reaches 2 (some .boolean) :: ([.fieldLink RX1 15 "TreadCranes$Crane" "place" "I", .fieldLink RX1 18 "TreadCranes$Crane" "reach" "I", .static yX2_distance, .initialized RX2, .code yX2_distance cX2_distance 2 (some .int), .methodLink RX2 217 Lib.Math.abs.name, .static Lib.Math.abs.name, .initialized "java/lang/Math", .code Lib.Math.abs.name Lib.Math.abs.code 1 (some .int)] ++ wsX10)
def wsX1_ticksToWind : List Cond := .code yX1_ticksToWind cX1_ticksToWind 2 (some .int) :: ([.fieldLink RX1 21 "TreadCranes$Crane" "drum" "I"] ++ wsX10)
def wsX1_lowestHook : List Cond := .code yX1_lowestHook cX1_lowestHook 2 (some .int) :: ([.fieldLink RX1 38 "TreadCranes$Crane" "load" "LTreadCranes$Barrel;"] ++ wsX10)
def wsX2_wearInATick : List Cond := .code yX2_wearInATick cX2_wearInATick 1 (some .int) :: ([])
def wsX1_wornAfterLowering : List Cond := .code yX1_wornAfterLowering cX1_wornAfterLowering 3 (some .int) :: ([.fieldLink RX1 42 "TreadCranes$Crane" "worn" "I", .static yX2_wearInATick, .initialized RX2, .code yX2_wearInATick cX2_wearInATick 1 (some .int)] ++ wsX10)
def wsJxa1e45_init_da8c8 : List Cond := .code yJxa1e45_init_da8c8 cJxa1e45_init_da8c8 1 none :: ([.methodLink RJxa1e45 1 objectInit, .instanceMethod objectInit, .code objectInit ⟨#[0xb1]⟩ 1 none])
def wsJxc12de_init_da8c8 : List Cond := .code yJxc12de_init_da8c8 cJxc12de_init_da8c8 1 none :: ([.fieldLink RJxc12de 7 "java/util/AbstractList" "modCount" "I", .methodLink RJxc12de 1 yJxa1e45_init_da8c8, .instanceMethod yJxa1e45_init_da8c8, .initialized RJxa1e45, .code yJxa1e45_init_da8c8 cJxa1e45_init_da8c8 1 none, .methodLink RJxa1e45 1 objectInit, .instanceMethod objectInit, .code objectInit ⟨#[0xb1]⟩ 1 none] ++ wsJx4a65c0)
def wsJx4a65c_init_da8c8 : List Cond := .code yJx4a65c_init_da8c8 cJx4a65c_init_da8c8 1 none :: ([.fieldLink RJx4a65c 39 "java/util/ArrayList" "DEFAULTCAPACITY_EMPTY_ELEMENTDATA" "[Ljava/lang/Object;", .fieldLink RJx4a65c 9 "java/util/ArrayList" "elementData" "[Ljava/lang/Object;", .methodLink RJx4a65c 1 yJxc12de_init_da8c8, .instanceMethod yJxc12de_init_da8c8, .initialized RJxc12de, .code yJxc12de_init_da8c8 cJxc12de_init_da8c8 1 none, .fieldLink RJxc12de 7 "java/util/AbstractList" "modCount" "I", .methodLink RJxc12de 1 yJxa1e45_init_da8c8, .instanceMethod yJxa1e45_init_da8c8, .initialized RJxa1e45, .code yJxa1e45_init_da8c8 cJxa1e45_init_da8c8 1 none, .methodLink RJxa1e45 1 objectInit, .instanceMethod objectInit, .code objectInit ⟨#[0xb1]⟩ 1 none] ++ wsJx4a65c0)
def wsX2_init_r1 : List Cond := [Cond.methodLink RX2 1 objectInit, Cond.instanceMethod objectInit, Cond.code objectInit ⟨#[0xb1]⟩ 1 none, Cond.classLink RX2 9 RX0, Cond.fieldLink RX2 11 "TreadCranes" "uppermost" "[LTreadCranes$Barrel;", Cond.classLink RX2 15 RJx4a65c, Cond.instantiable RJx4a65c 3, Cond.initialized RJx4a65c, Cond.fieldLink RX2 18 "TreadCranes" "barrels" "Ljava/util/ArrayList;", Cond.fieldLink RX2 22 "TreadCranes" "cranes" "Ljava/util/ArrayList;", Cond.methodLink RX2 17 yJx4a65c_init_da8c8, Cond.instanceMethod yJx4a65c_init_da8c8, Cond.code yJx4a65c_init_da8c8 cJx4a65c_init_da8c8 1 none, Cond.fieldLink RJx4a65c 39 "java/util/ArrayList" "DEFAULTCAPACITY_EMPTY_ELEMENTDATA" "[Ljava/lang/Object;", Cond.fieldLink RJx4a65c 9 "java/util/ArrayList" "elementData" "[Ljava/lang/Object;", Cond.methodLink RJx4a65c 1 yJxc12de_init_da8c8, Cond.instanceMethod yJxc12de_init_da8c8, Cond.initialized RJxc12de, Cond.code yJxc12de_init_da8c8 cJxc12de_init_da8c8 1 none, Cond.fieldLink RJxc12de 7 "java/util/AbstractList" "modCount" "I", Cond.methodLink RJxc12de 1 yJxa1e45_init_da8c8, Cond.instanceMethod yJxa1e45_init_da8c8, Cond.initialized RJxa1e45, Cond.code yJxa1e45_init_da8c8 cJxa1e45_init_da8c8 1 none]
def wsX2_init_r2 : List Cond := [Cond.methodLink RJxa1e45 1 objectInit]
def wsX2_init : List Cond := .code yX2_init cX2_init 1 none :: ((wsX2_init_r1 ++ wsX2_init_r2) ++ wsX20 ++ wsJx4a65c0)
def wsX2_isBetween : List Cond := .code yX2_isBetween cX2_isBetween 3 (some .boolean) :: ([])
def wsX2_isPlace : List Cond := .code yX2_isPlace cX2_isPlace 1 (some .boolean) :: ([.methodLink RX2 68 yX2_isBetween, .static yX2_isBetween, .initialized RX2, .code yX2_isBetween cX2_isBetween 3 (some .boolean)])
def wsX2_requirePlace : List Cond := .code yX2_requirePlace cX2_requirePlace 1 none :: ([.classLink RX2 171 "java/lang/IndexOutOfBoundsException", .initialized "java/lang/IndexOutOfBoundsException", .methodLink RX2 204 yX2_isPlace, .static yX2_isPlace, .initialized RX2, .code yX2_isPlace cX2_isPlace 1 (some .boolean), .methodLink RX2 68 yX2_isBetween, .static yX2_isBetween, .code yX2_isBetween cX2_isBetween 3 (some .boolean)] ++ (vx_atS RX2 175 "java/lang/IndexOutOfBoundsException" ["java/lang/RuntimeException", "java/lang/Exception"]).filter goodWord)
def wsX2_requireWeight : List Cond := .code yX2_requireWeight cX2_requireWeight 1 none :: ([.classLink RX2 71 "java/lang/IllegalArgumentException", .initialized "java/lang/IllegalArgumentException", .methodLink RX2 68 yX2_isBetween, .static yX2_isBetween, .initialized RX2, .code yX2_isBetween cX2_isBetween 3 (some .boolean)] ++ (vx_atS RX2 75 "java/lang/IllegalArgumentException" ["java/lang/RuntimeException", "java/lang/Exception"]).filter goodWord)
def wsJx4a65c_size_8abf5 : List Cond := .code yJx4a65c_size_8abf5 cJx4a65c_size_8abf5 1 (some .int) :: ([.fieldLink RJx4a65c 48 "java/util/ArrayList" "size" "I"] ++ wsJx4a65c0)
def wsX2_uppermostAt : List Cond := .code yX2_uppermostAt cX2_uppermostAt 2 (some (.object "TreadCranes$Barrel")) :: ([.fieldLink RX2 11 "TreadCranes" "uppermost" "[LTreadCranes$Barrel;", .methodLink RX2 204 yX2_isPlace, .static yX2_isPlace, .initialized RX2, .code yX2_isPlace cX2_isPlace 1 (some .boolean), .methodLink RX2 68 yX2_isBetween, .static yX2_isBetween, .code yX2_isBetween cX2_isBetween 3 (some .boolean)] ++ wsX20)
def wsX2_heightOf : List Cond := .code yX2_heightOf cX2_heightOf 3 (some .int) :: ([.fieldLink RX2 222 "TreadCranes$Barrel" "level" "I", .methodLink RX2 149 yX2_uppermostAt, .instanceMethod yX2_uppermostAt, .selects RX2 yX2_uppermostAt yX2_uppermostAt, .initialized RX2, .code yX2_uppermostAt cX2_uppermostAt 2 (some (.object "TreadCranes$Barrel")), .fieldLink RX2 11 "TreadCranes" "uppermost" "[LTreadCranes$Barrel;", .methodLink RX2 204 yX2_isPlace, .static yX2_isPlace, .code yX2_isPlace cX2_isPlace 1 (some .boolean), .methodLink RX2 68 yX2_isBetween, .static yX2_isBetween, .code yX2_isBetween cX2_isBetween 3 (some .boolean)] ++ wsX00 ++ wsX20)
def wsJ3_checkIndex_8e157 : List Cond := .code yJ3_checkIndex_8e157 cJ3_checkIndex_8e157 3 (some .int) :: ([])
def wsJ15_checkIndex_7cf53 : List Cond := .code yJ15_checkIndex_7cf53 cJ15_checkIndex_7cf53 2 (some .int) :: ([.methodLink RJ15 105 yJ3_checkIndex_8e157, .static yJ3_checkIndex_8e157, .initialized RJ3, .code yJ3_checkIndex_8e157 cJ3_checkIndex_8e157 3 (some .int)])
def wsJx4a65c_elementData_915e3 : List Cond := .code yJx4a65c_elementData_915e3 cJx4a65c_elementData_915e3 2 (some (.object "java/lang/Object")) :: ([.fieldLink RJx4a65c 9 "java/util/ArrayList" "elementData" "[Ljava/lang/Object;"] ++ wsJx4a65c0)
def wsJx4a65c_get_915e3 : List Cond := .code yJx4a65c_get_915e3 cJx4a65c_get_915e3 2 (some (.object "java/lang/Object")) :: ([.fieldLink RJx4a65c 48 "java/util/ArrayList" "size" "I", .methodLink RJx4a65c 118 yJ15_checkIndex_7cf53, .static yJ15_checkIndex_7cf53, .initialized RJ15, .code yJ15_checkIndex_7cf53 cJ15_checkIndex_7cf53 2 (some .int), .methodLink RJ15 105 yJ3_checkIndex_8e157, .static yJ3_checkIndex_8e157, .initialized RJ3, .code yJ3_checkIndex_8e157 cJ3_checkIndex_8e157 3 (some .int), .methodLink RJx4a65c 123 yJx4a65c_elementData_915e3, .instanceMethod yJx4a65c_elementData_915e3, .selects RJx4a65c yJx4a65c_elementData_915e3 yJx4a65c_elementData_915e3, .initialized RJx4a65c, .code yJx4a65c_elementData_915e3 cJx4a65c_elementData_915e3 2 (some (.object "java/lang/Object")), .fieldLink RJx4a65c 9 "java/util/ArrayList" "elementData" "[Ljava/lang/Object;"] ++ wsJx4a65c0)
def wsX2_hooksAllow_r1 : List Cond := [Cond.fieldLink RX2 22 "TreadCranes" "cranes" "Ljava/util/ArrayList;", Cond.classLink RX2 81 "TreadCranes$Crane", Cond.fieldLink RX2 108 "TreadCranes$Crane" "hookPlace" "I", Cond.fieldLink RX2 105 "TreadCranes$Crane" "hookHeight" "I", Cond.methodLink RX2 32 yJx4a65c_size_8abf5, Cond.instanceMethod yJx4a65c_size_8abf5, Cond.selects RJx4a65c yJx4a65c_size_8abf5 yJx4a65c_size_8abf5, Cond.initialized RJx4a65c, Cond.code yJx4a65c_size_8abf5 cJx4a65c_size_8abf5 1 (some .int), Cond.fieldLink RJx4a65c 48 "java/util/ArrayList" "size" "I", Cond.methodLink RX2 89 yJx4a65c_get_915e3, Cond.instanceMethod yJx4a65c_get_915e3, Cond.selects RJx4a65c yJx4a65c_get_915e3 yJx4a65c_get_915e3, Cond.code yJx4a65c_get_915e3 cJx4a65c_get_915e3 2 (some (.object "java/lang/Object")), Cond.methodLink RJx4a65c 118 yJ15_checkIndex_7cf53, Cond.static yJ15_checkIndex_7cf53, Cond.initialized RJ15, Cond.code yJ15_checkIndex_7cf53 cJ15_checkIndex_7cf53 2 (some .int), Cond.methodLink RJ15 105 yJ3_checkIndex_8e157, Cond.static yJ3_checkIndex_8e157, Cond.initialized RJ3, Cond.code yJ3_checkIndex_8e157 cJ3_checkIndex_8e157 3 (some .int), Cond.methodLink RJx4a65c 123 yJx4a65c_elementData_915e3, Cond.instanceMethod yJx4a65c_elementData_915e3]
def wsX2_hooksAllow_r2 : List Cond := [Cond.selects RJx4a65c yJx4a65c_elementData_915e3 yJx4a65c_elementData_915e3, Cond.code yJx4a65c_elementData_915e3 cJx4a65c_elementData_915e3 2 (some (.object "java/lang/Object")), Cond.fieldLink RJx4a65c 9 "java/util/ArrayList" "elementData" "[Ljava/lang/Object;", Cond.methodLink RX2 115 yX1_lowestHook, Cond.instanceMethod yX1_lowestHook, Cond.selects RX1 yX1_lowestHook yX1_lowestHook, Cond.initialized RX1, Cond.code yX1_lowestHook cX1_lowestHook 2 (some .int), Cond.fieldLink RX1 38 "TreadCranes$Crane" "load" "LTreadCranes$Barrel;"]
def wsX2_hooksAllow : List Cond := .code yX2_hooksAllow cX2_hooksAllow 6 (some .boolean) :: ((wsX2_hooksAllow_r1 ++ wsX2_hooksAllow_r2) ++ wsX20 ++ wsX10 ++ wsJx4a65c0)
def wsJ8_hugeLength_7cf53 : List Cond := .code yJ8_hugeLength_7cf53 cJ8_hugeLength_7cf53 3 (some .int) :: ([.constant RJ8 200 (2147483639)])
def wsJ8_newLength_cabcc : List Cond := .code yJ8_newLength_cabcc cJ8_newLength_cabcc 4 (some .int) :: ([.methodLink RJ8 194 Lib.Math.max.name, .static Lib.Math.max.name, .initialized "java/lang/Math", .code Lib.Math.max.name Lib.Math.max.code 2 (some .int), .constant RJ8 200 (2147483639), .methodLink RJ8 201 yJ8_hugeLength_7cf53, .static yJ8_hugeLength_7cf53, .initialized RJ8, .code yJ8_hugeLength_7cf53 cJ8_hugeLength_7cf53 3 (some .int)])
def wsJ7_copyOf_6403c : List Cond := .code yJ7_copyOf_6403c cJ7_copyOf_6403c 4 (some (.array (.object "java/lang/Object"))) :: ([.classLink RJ7 110 "[Ljava/lang/Object;", .classLink RJ7 2 "java/lang/Object", .methodLink RJ7 304 Lib.Math.min.name, .static Lib.Math.min.name, .initialized "java/lang/Math", .code Lib.Math.min.name Lib.Math.min.code 2 (some .int), .methodLink RJ7 150 arraycopyName, .native arraycopyName, .static arraycopyName, .initialized "java/lang/System"])
def wsJ7_copyOf_1904c : List Cond := .code yJ7_copyOf_1904c cJ7_copyOf_1904c 2 (some (.array (.object "java/lang/Object"))) :: ([.methodLink RJ7 86 ⟨"java/lang/Object", "getClass", "()Ljava/lang/Class;"⟩, .selects "[Ljava/lang/Object;" ⟨"java/lang/Object", "getClass", "()Ljava/lang/Class;"⟩ ⟨"java/lang/Object", "getClass", "()Ljava/lang/Class;"⟩, .instanceMethod ⟨"java/lang/Object", "getClass", "()Ljava/lang/Class;"⟩, .native ⟨"java/lang/Object", "getClass", "()Ljava/lang/Class;"⟩, .methodLink RJ7 300 yJ7_copyOf_6403c, .static yJ7_copyOf_6403c, .initialized RJ7, .code yJ7_copyOf_6403c cJ7_copyOf_6403c 4 (some (.array (.object "java/lang/Object"))), .classLink RJ7 110 "[Ljava/lang/Object;", .classLink RJ7 2 "java/lang/Object", .methodLink RJ7 304 Lib.Math.min.name, .static Lib.Math.min.name, .initialized "java/lang/Math", .code Lib.Math.min.name Lib.Math.min.code 2 (some .int), .methodLink RJ7 150 arraycopyName, .native arraycopyName, .static arraycopyName, .initialized "java/lang/System"])
def wsJx4a65c_grow_92f84_r1 : List Cond := [Cond.fieldLink RJx4a65c 9 "java/util/ArrayList" "elementData" "[Ljava/lang/Object;", Cond.fieldLink RJx4a65c 39 "java/util/ArrayList" "DEFAULTCAPACITY_EMPTY_ELEMENTDATA" "[Ljava/lang/Object;", Cond.methodLink RJx4a65c 79 Lib.Math.max.name, Cond.static Lib.Math.max.name, Cond.initialized "java/lang/Math", Cond.code Lib.Math.max.name Lib.Math.max.code 2 (some .int), Cond.classLink RJx4a65c 7 "java/lang/Object", Cond.methodLink RJx4a65c 73 yJ8_newLength_cabcc, Cond.static yJ8_newLength_cabcc, Cond.initialized RJ8, Cond.code yJ8_newLength_cabcc cJ8_newLength_cabcc 4 (some .int), Cond.methodLink RJ8 194 Lib.Math.max.name, Cond.constant RJ8 200 (2147483639), Cond.methodLink RJ8 201 yJ8_hugeLength_7cf53, Cond.static yJ8_hugeLength_7cf53, Cond.code yJ8_hugeLength_7cf53 cJ8_hugeLength_7cf53 3 (some .int), Cond.methodLink RJx4a65c 66 yJ7_copyOf_1904c, Cond.static yJ7_copyOf_1904c, Cond.initialized RJ7, Cond.code yJ7_copyOf_1904c cJ7_copyOf_1904c 2 (some (.array (.object "java/lang/Object"))), Cond.methodLink RJ7 86 ⟨"java/lang/Object", "getClass", "()Ljava/lang/Class;"⟩, Cond.selects "[Ljava/lang/Object;" ⟨"java/lang/Object", "getClass", "()Ljava/lang/Class;"⟩ ⟨"java/lang/Object", "getClass", "()Ljava/lang/Class;"⟩, Cond.instanceMethod ⟨"java/lang/Object", "getClass", "()Ljava/lang/Class;"⟩, Cond.native ⟨"java/lang/Object", "getClass", "()Ljava/lang/Class;"⟩]
def wsJx4a65c_grow_92f84_r2 : List Cond := [Cond.methodLink RJ7 300 yJ7_copyOf_6403c, Cond.static yJ7_copyOf_6403c, Cond.code yJ7_copyOf_6403c cJ7_copyOf_6403c 4 (some (.array (.object "java/lang/Object"))), Cond.classLink RJ7 110 "[Ljava/lang/Object;", Cond.classLink RJ7 2 "java/lang/Object", Cond.methodLink RJ7 304 Lib.Math.min.name, Cond.static Lib.Math.min.name, Cond.code Lib.Math.min.name Lib.Math.min.code 2 (some .int), Cond.methodLink RJ7 150 arraycopyName, Cond.native arraycopyName, Cond.static arraycopyName, Cond.initialized "java/lang/System"]
def wsJx4a65c_grow_92f84 : List Cond := .code yJx4a65c_grow_92f84 cJx4a65c_grow_92f84 4 (some (.array (.object "java/lang/Object"))) :: ((wsJx4a65c_grow_92f84_r1 ++ wsJx4a65c_grow_92f84_r2) ++ wsJx4a65c0)
def wsJx4a65c_grow_d5877_r1 : List Cond := [Cond.fieldLink RJx4a65c 48 "java/util/ArrayList" "size" "I", Cond.methodLink RJx4a65c 69 yJx4a65c_grow_92f84, Cond.instanceMethod yJx4a65c_grow_92f84, Cond.selects RJx4a65c yJx4a65c_grow_92f84 yJx4a65c_grow_92f84, Cond.initialized RJx4a65c, Cond.code yJx4a65c_grow_92f84 cJx4a65c_grow_92f84 4 (some (.array (.object "java/lang/Object"))), Cond.fieldLink RJx4a65c 9 "java/util/ArrayList" "elementData" "[Ljava/lang/Object;", Cond.fieldLink RJx4a65c 39 "java/util/ArrayList" "DEFAULTCAPACITY_EMPTY_ELEMENTDATA" "[Ljava/lang/Object;", Cond.methodLink RJx4a65c 79 Lib.Math.max.name, Cond.static Lib.Math.max.name, Cond.initialized "java/lang/Math", Cond.code Lib.Math.max.name Lib.Math.max.code 2 (some .int), Cond.classLink RJx4a65c 7 "java/lang/Object", Cond.methodLink RJx4a65c 73 yJ8_newLength_cabcc, Cond.static yJ8_newLength_cabcc, Cond.initialized RJ8, Cond.code yJ8_newLength_cabcc cJ8_newLength_cabcc 4 (some .int), Cond.methodLink RJ8 194 Lib.Math.max.name, Cond.constant RJ8 200 (2147483639), Cond.methodLink RJ8 201 yJ8_hugeLength_7cf53, Cond.static yJ8_hugeLength_7cf53, Cond.code yJ8_hugeLength_7cf53 cJ8_hugeLength_7cf53 3 (some .int), Cond.methodLink RJx4a65c 66 yJ7_copyOf_1904c, Cond.static yJ7_copyOf_1904c]
def wsJx4a65c_grow_d5877_r2 : List Cond := [Cond.initialized RJ7, Cond.code yJ7_copyOf_1904c cJ7_copyOf_1904c 2 (some (.array (.object "java/lang/Object"))), Cond.methodLink RJ7 86 ⟨"java/lang/Object", "getClass", "()Ljava/lang/Class;"⟩, Cond.selects "[Ljava/lang/Object;" ⟨"java/lang/Object", "getClass", "()Ljava/lang/Class;"⟩ ⟨"java/lang/Object", "getClass", "()Ljava/lang/Class;"⟩, Cond.instanceMethod ⟨"java/lang/Object", "getClass", "()Ljava/lang/Class;"⟩, Cond.native ⟨"java/lang/Object", "getClass", "()Ljava/lang/Class;"⟩, Cond.methodLink RJ7 300 yJ7_copyOf_6403c, Cond.static yJ7_copyOf_6403c, Cond.code yJ7_copyOf_6403c cJ7_copyOf_6403c 4 (some (.array (.object "java/lang/Object"))), Cond.classLink RJ7 110 "[Ljava/lang/Object;", Cond.classLink RJ7 2 "java/lang/Object", Cond.methodLink RJ7 304 Lib.Math.min.name, Cond.static Lib.Math.min.name, Cond.code Lib.Math.min.name Lib.Math.min.code 2 (some .int), Cond.methodLink RJ7 150 arraycopyName, Cond.native arraycopyName, Cond.static arraycopyName, Cond.initialized "java/lang/System"]
def wsJx4a65c_grow_d5877 : List Cond := .code yJx4a65c_grow_d5877 cJx4a65c_grow_d5877 1 (some (.array (.object "java/lang/Object"))) :: ((wsJx4a65c_grow_d5877_r1 ++ wsJx4a65c_grow_d5877_r2) ++ wsJx4a65c0)
def wsJx4a65c_add_72be8_r1 : List Cond := [Cond.fieldLink RJx4a65c 48 "java/util/ArrayList" "size" "I", Cond.methodLink RJx4a65c 129 yJx4a65c_grow_d5877, Cond.instanceMethod yJx4a65c_grow_d5877, Cond.selects RJx4a65c yJx4a65c_grow_d5877 yJx4a65c_grow_d5877, Cond.initialized RJx4a65c, Cond.code yJx4a65c_grow_d5877 cJx4a65c_grow_d5877 1 (some (.array (.object "java/lang/Object"))), Cond.methodLink RJx4a65c 69 yJx4a65c_grow_92f84, Cond.instanceMethod yJx4a65c_grow_92f84, Cond.selects RJx4a65c yJx4a65c_grow_92f84 yJx4a65c_grow_92f84, Cond.code yJx4a65c_grow_92f84 cJx4a65c_grow_92f84 4 (some (.array (.object "java/lang/Object"))), Cond.fieldLink RJx4a65c 9 "java/util/ArrayList" "elementData" "[Ljava/lang/Object;", Cond.fieldLink RJx4a65c 39 "java/util/ArrayList" "DEFAULTCAPACITY_EMPTY_ELEMENTDATA" "[Ljava/lang/Object;", Cond.methodLink RJx4a65c 79 Lib.Math.max.name, Cond.static Lib.Math.max.name, Cond.initialized "java/lang/Math", Cond.code Lib.Math.max.name Lib.Math.max.code 2 (some .int), Cond.classLink RJx4a65c 7 "java/lang/Object", Cond.methodLink RJx4a65c 73 yJ8_newLength_cabcc, Cond.static yJ8_newLength_cabcc, Cond.initialized RJ8, Cond.code yJ8_newLength_cabcc cJ8_newLength_cabcc 4 (some .int), Cond.methodLink RJ8 194 Lib.Math.max.name, Cond.constant RJ8 200 (2147483639), Cond.methodLink RJ8 201 yJ8_hugeLength_7cf53]
def wsJx4a65c_add_72be8_r2 : List Cond := [Cond.static yJ8_hugeLength_7cf53, Cond.code yJ8_hugeLength_7cf53 cJ8_hugeLength_7cf53 3 (some .int), Cond.methodLink RJx4a65c 66 yJ7_copyOf_1904c, Cond.static yJ7_copyOf_1904c, Cond.initialized RJ7, Cond.code yJ7_copyOf_1904c cJ7_copyOf_1904c 2 (some (.array (.object "java/lang/Object"))), Cond.methodLink RJ7 86 ⟨"java/lang/Object", "getClass", "()Ljava/lang/Class;"⟩, Cond.selects "[Ljava/lang/Object;" ⟨"java/lang/Object", "getClass", "()Ljava/lang/Class;"⟩ ⟨"java/lang/Object", "getClass", "()Ljava/lang/Class;"⟩, Cond.instanceMethod ⟨"java/lang/Object", "getClass", "()Ljava/lang/Class;"⟩, Cond.native ⟨"java/lang/Object", "getClass", "()Ljava/lang/Class;"⟩, Cond.methodLink RJ7 300 yJ7_copyOf_6403c, Cond.static yJ7_copyOf_6403c, Cond.code yJ7_copyOf_6403c cJ7_copyOf_6403c 4 (some (.array (.object "java/lang/Object"))), Cond.classLink RJ7 110 "[Ljava/lang/Object;", Cond.classLink RJ7 2 "java/lang/Object", Cond.methodLink RJ7 304 Lib.Math.min.name, Cond.static Lib.Math.min.name, Cond.code Lib.Math.min.name Lib.Math.min.code 2 (some .int), Cond.methodLink RJ7 150 arraycopyName, Cond.native arraycopyName, Cond.static arraycopyName, Cond.initialized "java/lang/System"]
def wsJx4a65c_add_72be8 : List Cond := .code yJx4a65c_add_72be8 cJx4a65c_add_72be8 4 none :: ((wsJx4a65c_add_72be8_r1 ++ wsJx4a65c_add_72be8_r2) ++ wsJx4a65c0)
def wsJx4a65c_add_9ea2d_r1 : List Cond := [Cond.fieldLink RJx4a65c 63 "java/util/ArrayList" "modCount" "I", Cond.sameField "java/util/ArrayList" "java/util/AbstractList" "modCount" "I", Cond.fieldLink RJx4a65c 9 "java/util/ArrayList" "elementData" "[Ljava/lang/Object;", Cond.fieldLink RJx4a65c 48 "java/util/ArrayList" "size" "I", Cond.methodLink RJx4a65c 131 yJx4a65c_add_72be8, Cond.instanceMethod yJx4a65c_add_72be8, Cond.selects RJx4a65c yJx4a65c_add_72be8 yJx4a65c_add_72be8, Cond.initialized RJx4a65c, Cond.code yJx4a65c_add_72be8 cJx4a65c_add_72be8 4 none, Cond.methodLink RJx4a65c 129 yJx4a65c_grow_d5877, Cond.instanceMethod yJx4a65c_grow_d5877, Cond.selects RJx4a65c yJx4a65c_grow_d5877 yJx4a65c_grow_d5877, Cond.code yJx4a65c_grow_d5877 cJx4a65c_grow_d5877 1 (some (.array (.object "java/lang/Object"))), Cond.methodLink RJx4a65c 69 yJx4a65c_grow_92f84, Cond.instanceMethod yJx4a65c_grow_92f84, Cond.selects RJx4a65c yJx4a65c_grow_92f84 yJx4a65c_grow_92f84, Cond.code yJx4a65c_grow_92f84 cJx4a65c_grow_92f84 4 (some (.array (.object "java/lang/Object"))), Cond.fieldLink RJx4a65c 39 "java/util/ArrayList" "DEFAULTCAPACITY_EMPTY_ELEMENTDATA" "[Ljava/lang/Object;", Cond.methodLink RJx4a65c 79 Lib.Math.max.name, Cond.static Lib.Math.max.name, Cond.initialized "java/lang/Math", Cond.code Lib.Math.max.name Lib.Math.max.code 2 (some .int), Cond.classLink RJx4a65c 7 "java/lang/Object", Cond.methodLink RJx4a65c 73 yJ8_newLength_cabcc]
def wsJx4a65c_add_9ea2d_r2 : List Cond := [Cond.static yJ8_newLength_cabcc, Cond.initialized RJ8, Cond.code yJ8_newLength_cabcc cJ8_newLength_cabcc 4 (some .int), Cond.methodLink RJ8 194 Lib.Math.max.name, Cond.constant RJ8 200 (2147483639), Cond.methodLink RJ8 201 yJ8_hugeLength_7cf53, Cond.static yJ8_hugeLength_7cf53, Cond.code yJ8_hugeLength_7cf53 cJ8_hugeLength_7cf53 3 (some .int), Cond.methodLink RJx4a65c 66 yJ7_copyOf_1904c, Cond.static yJ7_copyOf_1904c, Cond.initialized RJ7, Cond.code yJ7_copyOf_1904c cJ7_copyOf_1904c 2 (some (.array (.object "java/lang/Object"))), Cond.methodLink RJ7 86 ⟨"java/lang/Object", "getClass", "()Ljava/lang/Class;"⟩, Cond.selects "[Ljava/lang/Object;" ⟨"java/lang/Object", "getClass", "()Ljava/lang/Class;"⟩ ⟨"java/lang/Object", "getClass", "()Ljava/lang/Class;"⟩, Cond.instanceMethod ⟨"java/lang/Object", "getClass", "()Ljava/lang/Class;"⟩, Cond.native ⟨"java/lang/Object", "getClass", "()Ljava/lang/Class;"⟩, Cond.methodLink RJ7 300 yJ7_copyOf_6403c, Cond.static yJ7_copyOf_6403c, Cond.code yJ7_copyOf_6403c cJ7_copyOf_6403c 4 (some (.array (.object "java/lang/Object"))), Cond.classLink RJ7 110 "[Ljava/lang/Object;", Cond.classLink RJ7 2 "java/lang/Object", Cond.methodLink RJ7 304 Lib.Math.min.name, Cond.static Lib.Math.min.name, Cond.code Lib.Math.min.name Lib.Math.min.code 2 (some .int)]
def wsJx4a65c_add_9ea2d_r3 : List Cond := [Cond.methodLink RJ7 150 arraycopyName, Cond.native arraycopyName, Cond.static arraycopyName, Cond.initialized "java/lang/System"]
def wsJx4a65c_add_9ea2d : List Cond := .code yJx4a65c_add_9ea2d cJx4a65c_add_9ea2d 2 (some .boolean) :: ((wsJx4a65c_add_9ea2d_r1 ++ (wsJx4a65c_add_9ea2d_r2 ++ wsJx4a65c_add_9ea2d_r3)) ++ wsJx4a65c0)
def wsX2_putUpon : List Cond := .code yX2_putUpon cX2_putUpon 3 none :: ([.fieldLink RX2 193 "TreadCranes$Barrel" "place" "I", .fieldLink RX2 222 "TreadCranes$Barrel" "level" "I", .fieldLink RX2 11 "TreadCranes" "uppermost" "[LTreadCranes$Barrel;", .fieldLink RX2 231 "TreadCranes$Barrel" "below" "LTreadCranes$Barrel;", .methodLink RX2 204 yX2_isPlace, .static yX2_isPlace, .initialized RX2, .code yX2_isPlace cX2_isPlace 1 (some .boolean), .methodLink RX2 68 yX2_isBetween, .static yX2_isBetween, .code yX2_isBetween cX2_isBetween 3 (some .boolean), .methodLink RX2 36 yX2_heightOf, .instanceMethod yX2_heightOf, .selects RX2 yX2_heightOf yX2_heightOf, .code yX2_heightOf cX2_heightOf 3 (some .int), .methodLink RX2 149 yX2_uppermostAt, .instanceMethod yX2_uppermostAt, .selects RX2 yX2_uppermostAt yX2_uppermostAt, .code yX2_uppermostAt cX2_uppermostAt 2 (some (.object "TreadCranes$Barrel"))] ++ wsX00 ++ wsX20)
def wsX2_land_r1 : List Cond := [Cond.classLink RX2 40 "java/lang/IllegalStateException", Cond.initialized "java/lang/IllegalStateException", Cond.fieldLink RX2 18 "TreadCranes" "barrels" "Ljava/util/ArrayList;", Cond.classLink RX2 9 RX0, Cond.instantiable RX0 7, Cond.initialized RX0, Cond.fieldLink RX2 64 "TreadCranes$Barrel" "number" "I", Cond.methodLink RX2 25 yX2_requirePlace, Cond.static yX2_requirePlace, Cond.initialized RX2, Cond.code yX2_requirePlace cX2_requirePlace 1 none, Cond.classLink RX2 171 "java/lang/IndexOutOfBoundsException", Cond.initialized "java/lang/IndexOutOfBoundsException", Cond.methodLink RX2 204 yX2_isPlace, Cond.static yX2_isPlace, Cond.code yX2_isPlace cX2_isPlace 1 (some .boolean), Cond.methodLink RX2 68 yX2_isBetween, Cond.static yX2_isBetween, Cond.code yX2_isBetween cX2_isBetween 3 (some .boolean), Cond.methodLink RX2 29 yX2_requireWeight, Cond.static yX2_requireWeight, Cond.code yX2_requireWeight cX2_requireWeight 1 none, Cond.classLink RX2 71 "java/lang/IllegalArgumentException", Cond.initialized "java/lang/IllegalArgumentException"]
def wsX2_land_r2 : List Cond := [Cond.methodLink RX2 32 yJx4a65c_size_8abf5, Cond.instanceMethod yJx4a65c_size_8abf5, Cond.selects RJx4a65c yJx4a65c_size_8abf5 yJx4a65c_size_8abf5, Cond.initialized RJx4a65c, Cond.code yJx4a65c_size_8abf5 cJx4a65c_size_8abf5 1 (some .int), Cond.fieldLink RJx4a65c 48 "java/util/ArrayList" "size" "I", Cond.methodLink RX2 36 yX2_heightOf, Cond.instanceMethod yX2_heightOf, Cond.selects RX2 yX2_heightOf yX2_heightOf, Cond.code yX2_heightOf cX2_heightOf 3 (some .int), Cond.fieldLink RX2 222 "TreadCranes$Barrel" "level" "I", Cond.methodLink RX2 149 yX2_uppermostAt, Cond.instanceMethod yX2_uppermostAt, Cond.selects RX2 yX2_uppermostAt yX2_uppermostAt, Cond.code yX2_uppermostAt cX2_uppermostAt 2 (some (.object "TreadCranes$Barrel")), Cond.fieldLink RX2 11 "TreadCranes" "uppermost" "[LTreadCranes$Barrel;", Cond.methodLink RX2 47 yX2_hooksAllow, Cond.instanceMethod yX2_hooksAllow, Cond.selects RX2 yX2_hooksAllow yX2_hooksAllow, Cond.code yX2_hooksAllow cX2_hooksAllow 6 (some .boolean), Cond.fieldLink RX2 22 "TreadCranes" "cranes" "Ljava/util/ArrayList;", Cond.classLink RX2 81 "TreadCranes$Crane", Cond.fieldLink RX2 108 "TreadCranes$Crane" "hookPlace" "I", Cond.fieldLink RX2 105 "TreadCranes$Crane" "hookHeight" "I"]
def wsX2_land_r3 : List Cond := [Cond.methodLink RX2 89 yJx4a65c_get_915e3, Cond.instanceMethod yJx4a65c_get_915e3, Cond.selects RJx4a65c yJx4a65c_get_915e3 yJx4a65c_get_915e3, Cond.code yJx4a65c_get_915e3 cJx4a65c_get_915e3 2 (some (.object "java/lang/Object")), Cond.methodLink RJx4a65c 118 yJ15_checkIndex_7cf53, Cond.static yJ15_checkIndex_7cf53, Cond.initialized RJ15, Cond.code yJ15_checkIndex_7cf53 cJ15_checkIndex_7cf53 2 (some .int), Cond.methodLink RJ15 105 yJ3_checkIndex_8e157, Cond.static yJ3_checkIndex_8e157, Cond.initialized RJ3, Cond.code yJ3_checkIndex_8e157 cJ3_checkIndex_8e157 3 (some .int), Cond.methodLink RJx4a65c 123 yJx4a65c_elementData_915e3, Cond.instanceMethod yJx4a65c_elementData_915e3, Cond.selects RJx4a65c yJx4a65c_elementData_915e3 yJx4a65c_elementData_915e3, Cond.code yJx4a65c_elementData_915e3 cJx4a65c_elementData_915e3 2 (some (.object "java/lang/Object")), Cond.fieldLink RJx4a65c 9 "java/util/ArrayList" "elementData" "[Ljava/lang/Object;", Cond.methodLink RX2 115 yX1_lowestHook, Cond.instanceMethod yX1_lowestHook, Cond.selects RX1 yX1_lowestHook yX1_lowestHook, Cond.initialized RX1, Cond.code yX1_lowestHook cX1_lowestHook 2 (some .int), Cond.fieldLink RX1 38 "TreadCranes$Crane" "load" "LTreadCranes$Barrel;", Cond.methodLink RX2 53 yX0_init]
def wsX2_land_r4 : List Cond := [Cond.instanceMethod yX0_init, Cond.code yX0_init cX0_init 3 none, Cond.methodLink RX0 3 objectInit, Cond.instanceMethod objectInit, Cond.code objectInit ⟨#[0xb1]⟩ 1 none, Cond.fieldLink RX0 9 "TreadCranes$Barrel" "place" "I", Cond.fieldLink RX0 15 "TreadCranes$Barrel" "crane" "I", Cond.fieldLink RX0 18 "TreadCranes$Barrel" "number" "I", Cond.fieldLink RX0 21 "TreadCranes$Barrel" "weight" "I", Cond.methodLink RX2 56 yJx4a65c_add_9ea2d, Cond.instanceMethod yJx4a65c_add_9ea2d, Cond.selects RJx4a65c yJx4a65c_add_9ea2d yJx4a65c_add_9ea2d, Cond.code yJx4a65c_add_9ea2d cJx4a65c_add_9ea2d 2 (some .boolean), Cond.fieldLink RJx4a65c 63 "java/util/ArrayList" "modCount" "I", Cond.sameField "java/util/ArrayList" "java/util/AbstractList" "modCount" "I", Cond.methodLink RJx4a65c 131 yJx4a65c_add_72be8, Cond.instanceMethod yJx4a65c_add_72be8, Cond.selects RJx4a65c yJx4a65c_add_72be8 yJx4a65c_add_72be8, Cond.code yJx4a65c_add_72be8 cJx4a65c_add_72be8 4 none, Cond.methodLink RJx4a65c 129 yJx4a65c_grow_d5877, Cond.instanceMethod yJx4a65c_grow_d5877, Cond.selects RJx4a65c yJx4a65c_grow_d5877 yJx4a65c_grow_d5877, Cond.code yJx4a65c_grow_d5877 cJx4a65c_grow_d5877 1 (some (.array (.object "java/lang/Object"))), Cond.methodLink RJx4a65c 69 yJx4a65c_grow_92f84]
def wsX2_land_r5 : List Cond := [Cond.instanceMethod yJx4a65c_grow_92f84, Cond.selects RJx4a65c yJx4a65c_grow_92f84 yJx4a65c_grow_92f84, Cond.code yJx4a65c_grow_92f84 cJx4a65c_grow_92f84 4 (some (.array (.object "java/lang/Object"))), Cond.fieldLink RJx4a65c 39 "java/util/ArrayList" "DEFAULTCAPACITY_EMPTY_ELEMENTDATA" "[Ljava/lang/Object;", Cond.methodLink RJx4a65c 79 Lib.Math.max.name, Cond.static Lib.Math.max.name, Cond.initialized "java/lang/Math", Cond.code Lib.Math.max.name Lib.Math.max.code 2 (some .int), Cond.classLink RJx4a65c 7 "java/lang/Object", Cond.methodLink RJx4a65c 73 yJ8_newLength_cabcc, Cond.static yJ8_newLength_cabcc, Cond.initialized RJ8, Cond.code yJ8_newLength_cabcc cJ8_newLength_cabcc 4 (some .int), Cond.methodLink RJ8 194 Lib.Math.max.name, Cond.constant RJ8 200 (2147483639), Cond.methodLink RJ8 201 yJ8_hugeLength_7cf53, Cond.static yJ8_hugeLength_7cf53, Cond.code yJ8_hugeLength_7cf53 cJ8_hugeLength_7cf53 3 (some .int), Cond.methodLink RJx4a65c 66 yJ7_copyOf_1904c, Cond.static yJ7_copyOf_1904c, Cond.initialized RJ7, Cond.code yJ7_copyOf_1904c cJ7_copyOf_1904c 2 (some (.array (.object "java/lang/Object"))), Cond.methodLink RJ7 86 ⟨"java/lang/Object", "getClass", "()Ljava/lang/Class;"⟩, Cond.selects "[Ljava/lang/Object;" ⟨"java/lang/Object", "getClass", "()Ljava/lang/Class;"⟩ ⟨"java/lang/Object", "getClass", "()Ljava/lang/Class;"⟩]
def wsX2_land_r6 : List Cond := [Cond.instanceMethod ⟨"java/lang/Object", "getClass", "()Ljava/lang/Class;"⟩, Cond.native ⟨"java/lang/Object", "getClass", "()Ljava/lang/Class;"⟩, Cond.methodLink RJ7 300 yJ7_copyOf_6403c, Cond.static yJ7_copyOf_6403c, Cond.code yJ7_copyOf_6403c cJ7_copyOf_6403c 4 (some (.array (.object "java/lang/Object"))), Cond.classLink RJ7 110 "[Ljava/lang/Object;", Cond.classLink RJ7 2 "java/lang/Object", Cond.methodLink RJ7 304 Lib.Math.min.name, Cond.static Lib.Math.min.name, Cond.code Lib.Math.min.name Lib.Math.min.code 2 (some .int), Cond.methodLink RJ7 150 arraycopyName, Cond.native arraycopyName, Cond.static arraycopyName, Cond.initialized "java/lang/System", Cond.methodLink RX2 60 yX2_putUpon, Cond.instanceMethod yX2_putUpon, Cond.selects RX2 yX2_putUpon yX2_putUpon, Cond.code yX2_putUpon cX2_putUpon 3 none, Cond.fieldLink RX2 193 "TreadCranes$Barrel" "place" "I", Cond.fieldLink RX2 231 "TreadCranes$Barrel" "below" "LTreadCranes$Barrel;"]
def wsX2_land : List Cond := .code yX2_land cX2_land 4 (some .int) :: ((wsX2_land_r1 ++ (wsX2_land_r2 ++ (wsX2_land_r3 ++ (wsX2_land_r4 ++ (wsX2_land_r5 ++ wsX2_land_r6))))) ++ wsX20 ++ wsX00 ++ wsJx4a65c0 ++ wsX10 ++ (vx_atS RX2 44 "java/lang/IllegalStateException" ["java/lang/RuntimeException", "java/lang/Exception"]).filter goodWord ++ (vx_atS RX2 175 "java/lang/IndexOutOfBoundsException" ["java/lang/RuntimeException", "java/lang/Exception"]).filter goodWord ++ (vx_atS RX2 75 "java/lang/IllegalArgumentException" ["java/lang/RuntimeException", "java/lang/Exception"]).filter goodWord)
def wsX2_requireWalkers : List Cond := .code yX2_requireWalkers cX2_requireWalkers 1 none :: ([.classLink RX2 71 "java/lang/IllegalArgumentException", .initialized "java/lang/IllegalArgumentException", .methodLink RX2 68 yX2_isBetween, .static yX2_isBetween, .initialized RX2, .code yX2_isBetween cX2_isBetween 3 (some .boolean)] ++ (vx_atS RX2 75 "java/lang/IllegalArgumentException" ["java/lang/RuntimeException", "java/lang/Exception"]).filter goodWord)
def wsX2_build_r1 : List Cond := [Cond.classLink RX2 71 "java/lang/IllegalArgumentException", Cond.initialized "java/lang/IllegalArgumentException", Cond.classLink RX2 40 "java/lang/IllegalStateException", Cond.initialized "java/lang/IllegalStateException", Cond.fieldLink RX2 22 "TreadCranes" "cranes" "Ljava/util/ArrayList;", Cond.classLink RX2 81 RX1, Cond.instantiable RX1 8, Cond.initialized RX1, Cond.methodLink RX2 25 yX2_requirePlace, Cond.static yX2_requirePlace, Cond.initialized RX2, Cond.code yX2_requirePlace cX2_requirePlace 1 none, Cond.classLink RX2 171 "java/lang/IndexOutOfBoundsException", Cond.initialized "java/lang/IndexOutOfBoundsException", Cond.methodLink RX2 204 yX2_isPlace, Cond.static yX2_isPlace, Cond.code yX2_isPlace cX2_isPlace 1 (some .boolean), Cond.methodLink RX2 68 yX2_isBetween, Cond.static yX2_isBetween, Cond.code yX2_isBetween cX2_isBetween 3 (some .boolean), Cond.methodLink RX2 76 yX2_requireWalkers, Cond.static yX2_requireWalkers, Cond.code yX2_requireWalkers cX2_requireWalkers 1 none, Cond.methodLink RX2 32 yJx4a65c_size_8abf5]
def wsX2_build_r2 : List Cond := [Cond.instanceMethod yJx4a65c_size_8abf5, Cond.selects RJx4a65c yJx4a65c_size_8abf5 yJx4a65c_size_8abf5, Cond.initialized RJx4a65c, Cond.code yJx4a65c_size_8abf5 cJx4a65c_size_8abf5 1 (some .int), Cond.fieldLink RJx4a65c 48 "java/util/ArrayList" "size" "I", Cond.methodLink RX2 83 yX1_init, Cond.instanceMethod yX1_init, Cond.code yX1_init cX1_init 5 none, Cond.methodLink RX1 3 objectInit, Cond.instanceMethod objectInit, Cond.code objectInit ⟨#[0xb1]⟩ 1 none, Cond.fieldLink RX1 9 "TreadCranes$Crane" "hookHeight" "I", Cond.fieldLink RX1 15 "TreadCranes$Crane" "place" "I", Cond.fieldLink RX1 18 "TreadCranes$Crane" "reach" "I", Cond.fieldLink RX1 21 "TreadCranes$Crane" "drum" "I", Cond.fieldLink RX1 24 "TreadCranes$Crane" "walkers" "I", Cond.fieldLink RX1 27 "TreadCranes$Crane" "hookPlace" "I", Cond.methodLink RX2 56 yJx4a65c_add_9ea2d, Cond.instanceMethod yJx4a65c_add_9ea2d, Cond.selects RJx4a65c yJx4a65c_add_9ea2d yJx4a65c_add_9ea2d, Cond.code yJx4a65c_add_9ea2d cJx4a65c_add_9ea2d 2 (some .boolean), Cond.fieldLink RJx4a65c 63 "java/util/ArrayList" "modCount" "I", Cond.sameField "java/util/ArrayList" "java/util/AbstractList" "modCount" "I", Cond.fieldLink RJx4a65c 9 "java/util/ArrayList" "elementData" "[Ljava/lang/Object;"]
def wsX2_build_r3 : List Cond := [Cond.methodLink RJx4a65c 131 yJx4a65c_add_72be8, Cond.instanceMethod yJx4a65c_add_72be8, Cond.selects RJx4a65c yJx4a65c_add_72be8 yJx4a65c_add_72be8, Cond.code yJx4a65c_add_72be8 cJx4a65c_add_72be8 4 none, Cond.methodLink RJx4a65c 129 yJx4a65c_grow_d5877, Cond.instanceMethod yJx4a65c_grow_d5877, Cond.selects RJx4a65c yJx4a65c_grow_d5877 yJx4a65c_grow_d5877, Cond.code yJx4a65c_grow_d5877 cJx4a65c_grow_d5877 1 (some (.array (.object "java/lang/Object"))), Cond.methodLink RJx4a65c 69 yJx4a65c_grow_92f84, Cond.instanceMethod yJx4a65c_grow_92f84, Cond.selects RJx4a65c yJx4a65c_grow_92f84 yJx4a65c_grow_92f84, Cond.code yJx4a65c_grow_92f84 cJx4a65c_grow_92f84 4 (some (.array (.object "java/lang/Object"))), Cond.fieldLink RJx4a65c 39 "java/util/ArrayList" "DEFAULTCAPACITY_EMPTY_ELEMENTDATA" "[Ljava/lang/Object;", Cond.methodLink RJx4a65c 79 Lib.Math.max.name, Cond.static Lib.Math.max.name, Cond.initialized "java/lang/Math", Cond.code Lib.Math.max.name Lib.Math.max.code 2 (some .int), Cond.classLink RJx4a65c 7 "java/lang/Object", Cond.methodLink RJx4a65c 73 yJ8_newLength_cabcc, Cond.static yJ8_newLength_cabcc, Cond.initialized RJ8, Cond.code yJ8_newLength_cabcc cJ8_newLength_cabcc 4 (some .int), Cond.methodLink RJ8 194 Lib.Math.max.name, Cond.constant RJ8 200 (2147483639)]
def wsX2_build_r4 : List Cond := [Cond.methodLink RJ8 201 yJ8_hugeLength_7cf53, Cond.static yJ8_hugeLength_7cf53, Cond.code yJ8_hugeLength_7cf53 cJ8_hugeLength_7cf53 3 (some .int), Cond.methodLink RJx4a65c 66 yJ7_copyOf_1904c, Cond.static yJ7_copyOf_1904c, Cond.initialized RJ7, Cond.code yJ7_copyOf_1904c cJ7_copyOf_1904c 2 (some (.array (.object "java/lang/Object"))), Cond.methodLink RJ7 86 ⟨"java/lang/Object", "getClass", "()Ljava/lang/Class;"⟩, Cond.selects "[Ljava/lang/Object;" ⟨"java/lang/Object", "getClass", "()Ljava/lang/Class;"⟩ ⟨"java/lang/Object", "getClass", "()Ljava/lang/Class;"⟩, Cond.instanceMethod ⟨"java/lang/Object", "getClass", "()Ljava/lang/Class;"⟩, Cond.native ⟨"java/lang/Object", "getClass", "()Ljava/lang/Class;"⟩, Cond.methodLink RJ7 300 yJ7_copyOf_6403c, Cond.static yJ7_copyOf_6403c, Cond.code yJ7_copyOf_6403c cJ7_copyOf_6403c 4 (some (.array (.object "java/lang/Object"))), Cond.classLink RJ7 110 "[Ljava/lang/Object;", Cond.classLink RJ7 2 "java/lang/Object", Cond.methodLink RJ7 304 Lib.Math.min.name, Cond.static Lib.Math.min.name, Cond.code Lib.Math.min.name Lib.Math.min.code 2 (some .int), Cond.methodLink RJ7 150 arraycopyName, Cond.native arraycopyName, Cond.static arraycopyName, Cond.initialized "java/lang/System"]
def wsX2_build : List Cond := .code yX2_build cX2_build 5 (some .int) :: ((wsX2_build_r1 ++ (wsX2_build_r2 ++ (wsX2_build_r3 ++ wsX2_build_r4))) ++ wsX20 ++ wsX10 ++ wsJx4a65c0 ++ (vx_atS RX2 75 "java/lang/IllegalArgumentException" ["java/lang/RuntimeException", "java/lang/Exception"]).filter goodWord ++ (vx_atS RX2 44 "java/lang/IllegalStateException" ["java/lang/RuntimeException", "java/lang/Exception"]).filter goodWord ++ (vx_atS RX2 175 "java/lang/IndexOutOfBoundsException" ["java/lang/RuntimeException", "java/lang/Exception"]).filter goodWord)
def wsX2_requireCrane : List Cond := .code yX2_requireCrane cX2_requireCrane 2 none :: ([.classLink RX2 171 "java/lang/IndexOutOfBoundsException", .initialized "java/lang/IndexOutOfBoundsException", .fieldLink RX2 22 "TreadCranes" "cranes" "Ljava/util/ArrayList;", .methodLink RX2 32 yJx4a65c_size_8abf5, .instanceMethod yJx4a65c_size_8abf5, .selects RJx4a65c yJx4a65c_size_8abf5 yJx4a65c_size_8abf5, .initialized RJx4a65c, .code yJx4a65c_size_8abf5 cJx4a65c_size_8abf5 1 (some .int), .fieldLink RJx4a65c 48 "java/util/ArrayList" "size" "I", .methodLink RX2 68 yX2_isBetween, .static yX2_isBetween, .initialized RX2, .code yX2_isBetween cX2_isBetween 3 (some .boolean)] ++ wsX20 ++ wsJx4a65c0 ++ (vx_atS RX2 175 "java/lang/IndexOutOfBoundsException" ["java/lang/RuntimeException", "java/lang/Exception"]).filter goodWord)
def wsX2_man_r1 : List Cond := [Cond.fieldLink RX2 22 "TreadCranes" "cranes" "Ljava/util/ArrayList;", Cond.classLink RX2 81 "TreadCranes$Crane", Cond.fieldLink RX2 93 "TreadCranes$Crane" "walkers" "I", Cond.methodLink RX2 86 yX2_requireCrane, Cond.instanceMethod yX2_requireCrane, Cond.selects RX2 yX2_requireCrane yX2_requireCrane, Cond.initialized RX2, Cond.code yX2_requireCrane cX2_requireCrane 2 none, Cond.classLink RX2 171 "java/lang/IndexOutOfBoundsException", Cond.initialized "java/lang/IndexOutOfBoundsException", Cond.methodLink RX2 32 yJx4a65c_size_8abf5, Cond.instanceMethod yJx4a65c_size_8abf5, Cond.selects RJx4a65c yJx4a65c_size_8abf5 yJx4a65c_size_8abf5, Cond.initialized RJx4a65c, Cond.code yJx4a65c_size_8abf5 cJx4a65c_size_8abf5 1 (some .int), Cond.fieldLink RJx4a65c 48 "java/util/ArrayList" "size" "I", Cond.methodLink RX2 68 yX2_isBetween, Cond.static yX2_isBetween, Cond.code yX2_isBetween cX2_isBetween 3 (some .boolean), Cond.methodLink RX2 76 yX2_requireWalkers, Cond.static yX2_requireWalkers, Cond.code yX2_requireWalkers cX2_requireWalkers 1 none, Cond.classLink RX2 71 "java/lang/IllegalArgumentException", Cond.initialized "java/lang/IllegalArgumentException"]
def wsX2_man_r2 : List Cond := [Cond.methodLink RX2 89 yJx4a65c_get_915e3, Cond.instanceMethod yJx4a65c_get_915e3, Cond.selects RJx4a65c yJx4a65c_get_915e3 yJx4a65c_get_915e3, Cond.code yJx4a65c_get_915e3 cJx4a65c_get_915e3 2 (some (.object "java/lang/Object")), Cond.methodLink RJx4a65c 118 yJ15_checkIndex_7cf53, Cond.static yJ15_checkIndex_7cf53, Cond.initialized RJ15, Cond.code yJ15_checkIndex_7cf53 cJ15_checkIndex_7cf53 2 (some .int), Cond.methodLink RJ15 105 yJ3_checkIndex_8e157, Cond.static yJ3_checkIndex_8e157, Cond.initialized RJ3, Cond.code yJ3_checkIndex_8e157 cJ3_checkIndex_8e157 3 (some .int), Cond.methodLink RJx4a65c 123 yJx4a65c_elementData_915e3, Cond.instanceMethod yJx4a65c_elementData_915e3, Cond.selects RJx4a65c yJx4a65c_elementData_915e3 yJx4a65c_elementData_915e3, Cond.code yJx4a65c_elementData_915e3 cJx4a65c_elementData_915e3 2 (some (.object "java/lang/Object")), Cond.fieldLink RJx4a65c 9 "java/util/ArrayList" "elementData" "[Ljava/lang/Object;"]
def wsX2_man : List Cond := .code yX2_man cX2_man 5 (some .int) :: ((wsX2_man_r1 ++ wsX2_man_r2) ++ wsX20 ++ wsX10 ++ wsJx4a65c0 ++ (vx_atS RX2 175 "java/lang/IndexOutOfBoundsException" ["java/lang/RuntimeException", "java/lang/Exception"]).filter goodWord ++ (vx_atS RX2 75 "java/lang/IllegalArgumentException" ["java/lang/RuntimeException", "java/lang/Exception"]).filter goodWord)
def wsX2_mend_r1 : List Cond := [Cond.fieldLink RX2 22 "TreadCranes" "cranes" "Ljava/util/ArrayList;", Cond.classLink RX2 81 "TreadCranes$Crane", Cond.fieldLink RX2 96 "TreadCranes$Crane" "worn" "I", Cond.methodLink RX2 86 yX2_requireCrane, Cond.instanceMethod yX2_requireCrane, Cond.selects RX2 yX2_requireCrane yX2_requireCrane, Cond.initialized RX2, Cond.code yX2_requireCrane cX2_requireCrane 2 none, Cond.classLink RX2 171 "java/lang/IndexOutOfBoundsException", Cond.initialized "java/lang/IndexOutOfBoundsException", Cond.methodLink RX2 32 yJx4a65c_size_8abf5, Cond.instanceMethod yJx4a65c_size_8abf5, Cond.selects RJx4a65c yJx4a65c_size_8abf5 yJx4a65c_size_8abf5, Cond.initialized RJx4a65c, Cond.code yJx4a65c_size_8abf5 cJx4a65c_size_8abf5 1 (some .int), Cond.fieldLink RJx4a65c 48 "java/util/ArrayList" "size" "I", Cond.methodLink RX2 68 yX2_isBetween, Cond.static yX2_isBetween, Cond.code yX2_isBetween cX2_isBetween 3 (some .boolean), Cond.methodLink RX2 89 yJx4a65c_get_915e3, Cond.instanceMethod yJx4a65c_get_915e3, Cond.selects RJx4a65c yJx4a65c_get_915e3 yJx4a65c_get_915e3, Cond.code yJx4a65c_get_915e3 cJx4a65c_get_915e3 2 (some (.object "java/lang/Object")), Cond.methodLink RJx4a65c 118 yJ15_checkIndex_7cf53]
def wsX2_mend_r2 : List Cond := [Cond.static yJ15_checkIndex_7cf53, Cond.initialized RJ15, Cond.code yJ15_checkIndex_7cf53 cJ15_checkIndex_7cf53 2 (some .int), Cond.methodLink RJ15 105 yJ3_checkIndex_8e157, Cond.static yJ3_checkIndex_8e157, Cond.initialized RJ3, Cond.code yJ3_checkIndex_8e157 cJ3_checkIndex_8e157 3 (some .int), Cond.methodLink RJx4a65c 123 yJx4a65c_elementData_915e3, Cond.instanceMethod yJx4a65c_elementData_915e3, Cond.selects RJx4a65c yJx4a65c_elementData_915e3 yJx4a65c_elementData_915e3, Cond.code yJx4a65c_elementData_915e3 cJx4a65c_elementData_915e3 2 (some (.object "java/lang/Object")), Cond.fieldLink RJx4a65c 9 "java/util/ArrayList" "elementData" "[Ljava/lang/Object;"]
def wsX2_mend : List Cond := .code yX2_mend cX2_mend 4 (some .int) :: ((wsX2_mend_r1 ++ wsX2_mend_r2) ++ wsX20 ++ wsX10 ++ wsJx4a65c0 ++ (vx_atS RX2 175 "java/lang/IndexOutOfBoundsException" ["java/lang/RuntimeException", "java/lang/Exception"]).filter goodWord)
def wsX2_highestBetween : List Cond := .code yX2_highestBetween cX2_highestBetween 5 (some .int) :: ([.methodLink RX2 225 Lib.Math.min.name, .static Lib.Math.min.name, .initialized "java/lang/Math", .code Lib.Math.min.name Lib.Math.min.code 2 (some .int), .methodLink RX2 228 Lib.Math.max.name, .static Lib.Math.max.name, .code Lib.Math.max.name Lib.Math.max.code 2 (some .int), .methodLink RX2 68 yX2_isBetween, .static yX2_isBetween, .initialized RX2, .code yX2_isBetween cX2_isBetween 3 (some .boolean), .methodLink RX2 36 yX2_heightOf, .instanceMethod yX2_heightOf, .selects RX2 yX2_heightOf yX2_heightOf, .code yX2_heightOf cX2_heightOf 3 (some .int), .fieldLink RX2 222 "TreadCranes$Barrel" "level" "I", .methodLink RX2 149 yX2_uppermostAt, .instanceMethod yX2_uppermostAt, .selects RX2 yX2_uppermostAt yX2_uppermostAt, .code yX2_uppermostAt cX2_uppermostAt 2 (some (.object "TreadCranes$Barrel")), .fieldLink RX2 11 "TreadCranes" "uppermost" "[LTreadCranes$Barrel;", .methodLink RX2 204 yX2_isPlace, .static yX2_isPlace, .code yX2_isPlace cX2_isPlace 1 (some .boolean)] ++ wsX00 ++ wsX20)
def wsX2_turn_r1 : List Cond := [Cond.classLink RX2 40 "java/lang/IllegalStateException", Cond.initialized "java/lang/IllegalStateException", Cond.fieldLink RX2 22 "TreadCranes" "cranes" "Ljava/util/ArrayList;", Cond.classLink RX2 81 "TreadCranes$Crane", Cond.fieldLink RX2 105 "TreadCranes$Crane" "hookHeight" "I", Cond.fieldLink RX2 108 "TreadCranes$Crane" "hookPlace" "I", Cond.fieldLink RX2 123 "TreadCranes" "ticks" "I", Cond.methodLink RX2 86 yX2_requireCrane, Cond.instanceMethod yX2_requireCrane, Cond.selects RX2 yX2_requireCrane yX2_requireCrane, Cond.initialized RX2, Cond.code yX2_requireCrane cX2_requireCrane 2 none, Cond.classLink RX2 171 "java/lang/IndexOutOfBoundsException", Cond.initialized "java/lang/IndexOutOfBoundsException", Cond.methodLink RX2 32 yJx4a65c_size_8abf5, Cond.instanceMethod yJx4a65c_size_8abf5, Cond.selects RJx4a65c yJx4a65c_size_8abf5 yJx4a65c_size_8abf5, Cond.initialized RJx4a65c, Cond.code yJx4a65c_size_8abf5 cJx4a65c_size_8abf5 1 (some .int), Cond.fieldLink RJx4a65c 48 "java/util/ArrayList" "size" "I", Cond.methodLink RX2 68 yX2_isBetween, Cond.static yX2_isBetween, Cond.code yX2_isBetween cX2_isBetween 3 (some .boolean), Cond.methodLink RX2 25 yX2_requirePlace]
def wsX2_turn_r2 : List Cond := [Cond.static yX2_requirePlace, Cond.code yX2_requirePlace cX2_requirePlace 1 none, Cond.methodLink RX2 204 yX2_isPlace, Cond.static yX2_isPlace, Cond.code yX2_isPlace cX2_isPlace 1 (some .boolean), Cond.methodLink RX2 89 yJx4a65c_get_915e3, Cond.instanceMethod yJx4a65c_get_915e3, Cond.selects RJx4a65c yJx4a65c_get_915e3 yJx4a65c_get_915e3, Cond.code yJx4a65c_get_915e3 cJx4a65c_get_915e3 2 (some (.object "java/lang/Object")), Cond.methodLink RJx4a65c 118 yJ15_checkIndex_7cf53, Cond.static yJ15_checkIndex_7cf53, Cond.initialized RJ15, Cond.code yJ15_checkIndex_7cf53 cJ15_checkIndex_7cf53 2 (some .int), Cond.methodLink RJ15 105 yJ3_checkIndex_8e157, Cond.static yJ3_checkIndex_8e157, Cond.initialized RJ3, Cond.code yJ3_checkIndex_8e157 cJ3_checkIndex_8e157 3 (some .int), Cond.methodLink RJx4a65c 123 yJx4a65c_elementData_915e3, Cond.instanceMethod yJx4a65c_elementData_915e3, Cond.selects RJx4a65c yJx4a65c_elementData_915e3 yJx4a65c_elementData_915e3, Cond.code yJx4a65c_elementData_915e3 cJx4a65c_elementData_915e3 2 (some (.object "java/lang/Object")), Cond.fieldLink RJx4a65c 9 "java/util/ArrayList" "elementData" "[Ljava/lang/Object;", Cond.methodLink RX2 99 yX1_reaches, Cond.instanceMethod yX1_reaches]
def wsX2_turn_r3 : List Cond := [Cond.selects RX1 yX1_reaches yX1_reaches, Cond.initialized RX1, Cond.code yX1_reaches cX1_reaches 2 (some .boolean), Cond.fieldLink RX1 15 "TreadCranes$Crane" "place" "I", Cond.fieldLink RX1 18 "TreadCranes$Crane" "reach" "I", Cond.static yX2_distance, Cond.code yX2_distance cX2_distance 2 (some .int), Cond.methodLink RX2 217 Lib.Math.abs.name, Cond.static Lib.Math.abs.name, Cond.initialized "java/lang/Math", Cond.code Lib.Math.abs.name Lib.Math.abs.code 1 (some .int), Cond.methodLink RX2 111 yX2_highestBetween, Cond.instanceMethod yX2_highestBetween, Cond.selects RX2 yX2_highestBetween yX2_highestBetween, Cond.code yX2_highestBetween cX2_highestBetween 5 (some .int), Cond.methodLink RX2 225 Lib.Math.min.name, Cond.static Lib.Math.min.name, Cond.code Lib.Math.min.name Lib.Math.min.code 2 (some .int), Cond.methodLink RX2 228 Lib.Math.max.name, Cond.static Lib.Math.max.name, Cond.code Lib.Math.max.name Lib.Math.max.code 2 (some .int), Cond.methodLink RX2 36 yX2_heightOf, Cond.instanceMethod yX2_heightOf, Cond.selects RX2 yX2_heightOf yX2_heightOf]
def wsX2_turn_r4 : List Cond := [Cond.code yX2_heightOf cX2_heightOf 3 (some .int), Cond.fieldLink RX2 222 "TreadCranes$Barrel" "level" "I", Cond.methodLink RX2 149 yX2_uppermostAt, Cond.instanceMethod yX2_uppermostAt, Cond.selects RX2 yX2_uppermostAt yX2_uppermostAt, Cond.code yX2_uppermostAt cX2_uppermostAt 2 (some (.object "TreadCranes$Barrel")), Cond.fieldLink RX2 11 "TreadCranes" "uppermost" "[LTreadCranes$Barrel;", Cond.methodLink RX2 115 yX1_lowestHook, Cond.instanceMethod yX1_lowestHook, Cond.selects RX1 yX1_lowestHook yX1_lowestHook, Cond.code yX1_lowestHook cX1_lowestHook 2 (some .int), Cond.fieldLink RX1 38 "TreadCranes$Crane" "load" "LTreadCranes$Barrel;", Cond.methodLink RX2 120 yX2_distance]
def wsX2_turn : List Cond := .code yX2_turn cX2_turn 5 (some .int) :: ((wsX2_turn_r1 ++ (wsX2_turn_r2 ++ (wsX2_turn_r3 ++ wsX2_turn_r4))) ++ wsX20 ++ wsX10 ++ wsJx4a65c0 ++ wsX00 ++ (vx_atS RX2 44 "java/lang/IllegalStateException" ["java/lang/RuntimeException", "java/lang/Exception"]).filter goodWord ++ (vx_atS RX2 175 "java/lang/IndexOutOfBoundsException" ["java/lang/RuntimeException", "java/lang/Exception"]).filter goodWord)
def wsX2_dropLoad : List Cond := .code yX2_dropLoad cX2_dropLoad 2 none :: ([.fieldLink RX2 130 "TreadCranes$Crane" "load" "LTreadCranes$Barrel;", .fieldLink RX2 158 "TreadCranes$Barrel" "crane" "I", .fieldLink RX2 196 "TreadCranes$Barrel" "broken" "Z", .fieldLink RX2 96 "TreadCranes$Crane" "worn" "I"] ++ wsX10 ++ wsX00)
def wsX2_lowerHook : List Cond := .code yX2_lowerHook cX2_lowerHook 6 (some .int) :: ([.fieldLink RX2 105 "TreadCranes$Crane" "hookHeight" "I", .fieldLink RX2 130 "TreadCranes$Crane" "load" "LTreadCranes$Barrel;", .fieldLink RX2 134 "TreadCranes$Barrel" "weight" "I", .fieldLink RX2 96 "TreadCranes$Crane" "worn" "I", .fieldLink RX2 123 "TreadCranes" "ticks" "I", .methodLink RX2 234 yX1_ticksToWind, .instanceMethod yX1_ticksToWind, .selects RX1 yX1_ticksToWind yX1_ticksToWind, .initialized RX1, .code yX1_ticksToWind cX1_ticksToWind 2 (some .int), .fieldLink RX1 21 "TreadCranes$Crane" "drum" "I", .methodLink RX2 237 yX1_wornAfterLowering, .instanceMethod yX1_wornAfterLowering, .selects RX1 yX1_wornAfterLowering yX1_wornAfterLowering, .code yX1_wornAfterLowering cX1_wornAfterLowering 3 (some .int), .fieldLink RX1 42 "TreadCranes$Crane" "worn" "I", .static yX2_wearInATick, .initialized RX2, .code yX2_wearInATick cX2_wearInATick 1 (some .int), .methodLink RX2 240 yX2_dropLoad, .static yX2_dropLoad, .code yX2_dropLoad cX2_dropLoad 2 none, .fieldLink RX2 158 "TreadCranes$Barrel" "crane" "I", .fieldLink RX2 196 "TreadCranes$Barrel" "broken" "Z"] ++ wsX10 ++ wsX00 ++ wsX20)
def wsX2_raiseHook : List Cond := .code yX2_raiseHook cX2_raiseHook 4 (some .int) :: ([.fieldLink RX2 105 "TreadCranes$Crane" "hookHeight" "I", .fieldLink RX2 123 "TreadCranes" "ticks" "I", .methodLink RX2 234 yX1_ticksToWind, .instanceMethod yX1_ticksToWind, .selects RX1 yX1_ticksToWind yX1_ticksToWind, .initialized RX1, .code yX1_ticksToWind cX1_ticksToWind 2 (some .int), .fieldLink RX1 21 "TreadCranes$Crane" "drum" "I"] ++ wsX10 ++ wsX20)
def wsX2_hoist_r1 : List Cond := [Cond.classLink RX2 71 "java/lang/IllegalArgumentException", Cond.initialized "java/lang/IllegalArgumentException", Cond.classLink RX2 40 "java/lang/IllegalStateException", Cond.initialized "java/lang/IllegalStateException", Cond.fieldLink RX2 22 "TreadCranes" "cranes" "Ljava/util/ArrayList;", Cond.classLink RX2 81 "TreadCranes$Crane", Cond.fieldLink RX2 108 "TreadCranes$Crane" "hookPlace" "I", Cond.fieldLink RX2 130 "TreadCranes$Crane" "load" "LTreadCranes$Barrel;", Cond.fieldLink RX2 105 "TreadCranes$Crane" "hookHeight" "I", Cond.fieldLink RX2 134 "TreadCranes$Barrel" "weight" "I", Cond.methodLink RX2 86 yX2_requireCrane, Cond.instanceMethod yX2_requireCrane, Cond.selects RX2 yX2_requireCrane yX2_requireCrane, Cond.initialized RX2, Cond.code yX2_requireCrane cX2_requireCrane 2 none, Cond.classLink RX2 171 "java/lang/IndexOutOfBoundsException", Cond.initialized "java/lang/IndexOutOfBoundsException", Cond.methodLink RX2 32 yJx4a65c_size_8abf5, Cond.instanceMethod yJx4a65c_size_8abf5, Cond.selects RJx4a65c yJx4a65c_size_8abf5 yJx4a65c_size_8abf5, Cond.initialized RJx4a65c, Cond.code yJx4a65c_size_8abf5 cJx4a65c_size_8abf5 1 (some .int), Cond.fieldLink RJx4a65c 48 "java/util/ArrayList" "size" "I", Cond.methodLink RX2 68 yX2_isBetween]
def wsX2_hoist_r2 : List Cond := [Cond.static yX2_isBetween, Cond.code yX2_isBetween cX2_isBetween 3 (some .boolean), Cond.methodLink RX2 89 yJx4a65c_get_915e3, Cond.instanceMethod yJx4a65c_get_915e3, Cond.selects RJx4a65c yJx4a65c_get_915e3 yJx4a65c_get_915e3, Cond.code yJx4a65c_get_915e3 cJx4a65c_get_915e3 2 (some (.object "java/lang/Object")), Cond.methodLink RJx4a65c 118 yJ15_checkIndex_7cf53, Cond.static yJ15_checkIndex_7cf53, Cond.initialized RJ15, Cond.code yJ15_checkIndex_7cf53 cJ15_checkIndex_7cf53 2 (some .int), Cond.methodLink RJ15 105 yJ3_checkIndex_8e157, Cond.static yJ3_checkIndex_8e157, Cond.initialized RJ3, Cond.code yJ3_checkIndex_8e157 cJ3_checkIndex_8e157 3 (some .int), Cond.methodLink RJx4a65c 123 yJx4a65c_elementData_915e3, Cond.instanceMethod yJx4a65c_elementData_915e3, Cond.selects RJx4a65c yJx4a65c_elementData_915e3 yJx4a65c_elementData_915e3, Cond.code yJx4a65c_elementData_915e3 cJx4a65c_elementData_915e3 2 (some (.object "java/lang/Object")), Cond.fieldLink RJx4a65c 9 "java/util/ArrayList" "elementData" "[Ljava/lang/Object;", Cond.methodLink RX2 36 yX2_heightOf, Cond.instanceMethod yX2_heightOf, Cond.selects RX2 yX2_heightOf yX2_heightOf, Cond.code yX2_heightOf cX2_heightOf 3 (some .int), Cond.fieldLink RX2 222 "TreadCranes$Barrel" "level" "I"]
def wsX2_hoist_r3 : List Cond := [Cond.methodLink RX2 149 yX2_uppermostAt, Cond.instanceMethod yX2_uppermostAt, Cond.selects RX2 yX2_uppermostAt yX2_uppermostAt, Cond.code yX2_uppermostAt cX2_uppermostAt 2 (some (.object "TreadCranes$Barrel")), Cond.fieldLink RX2 11 "TreadCranes" "uppermost" "[LTreadCranes$Barrel;", Cond.methodLink RX2 204 yX2_isPlace, Cond.static yX2_isPlace, Cond.code yX2_isPlace cX2_isPlace 1 (some .boolean), Cond.methodLink RX2 115 yX1_lowestHook, Cond.instanceMethod yX1_lowestHook, Cond.selects RX1 yX1_lowestHook yX1_lowestHook, Cond.initialized RX1, Cond.code yX1_lowestHook cX1_lowestHook 2 (some .int), Cond.fieldLink RX1 38 "TreadCranes$Crane" "load" "LTreadCranes$Barrel;", Cond.methodLink RX2 137 yX1_canLift, Cond.instanceMethod yX1_canLift, Cond.selects RX1 yX1_canLift yX1_canLift, Cond.code yX1_canLift cX1_canLift 2 (some .boolean), Cond.methodLink RX1 30 yX1_strength, Cond.instanceMethod yX1_strength, Cond.selects RX1 yX1_strength yX1_strength, Cond.code yX1_strength cX1_strength 1 (some .int), Cond.fieldLink RX1 21 "TreadCranes$Crane" "drum" "I", Cond.fieldLink RX1 24 "TreadCranes$Crane" "walkers" "I"]
def wsX2_hoist_r4 : List Cond := [Cond.methodLink RX2 142 yX2_lowerHook, Cond.instanceMethod yX2_lowerHook, Cond.selects RX2 yX2_lowerHook yX2_lowerHook, Cond.code yX2_lowerHook cX2_lowerHook 6 (some .int), Cond.fieldLink RX2 96 "TreadCranes$Crane" "worn" "I", Cond.fieldLink RX2 123 "TreadCranes" "ticks" "I", Cond.methodLink RX2 234 yX1_ticksToWind, Cond.instanceMethod yX1_ticksToWind, Cond.selects RX1 yX1_ticksToWind yX1_ticksToWind, Cond.code yX1_ticksToWind cX1_ticksToWind 2 (some .int), Cond.methodLink RX2 237 yX1_wornAfterLowering, Cond.instanceMethod yX1_wornAfterLowering, Cond.selects RX1 yX1_wornAfterLowering yX1_wornAfterLowering, Cond.code yX1_wornAfterLowering cX1_wornAfterLowering 3 (some .int), Cond.fieldLink RX1 42 "TreadCranes$Crane" "worn" "I", Cond.static yX2_wearInATick, Cond.code yX2_wearInATick cX2_wearInATick 1 (some .int), Cond.methodLink RX2 240 yX2_dropLoad, Cond.static yX2_dropLoad, Cond.code yX2_dropLoad cX2_dropLoad 2 none, Cond.fieldLink RX2 158 "TreadCranes$Barrel" "crane" "I", Cond.fieldLink RX2 196 "TreadCranes$Barrel" "broken" "Z", Cond.methodLink RX2 146 yX2_raiseHook, Cond.instanceMethod yX2_raiseHook]
def wsX2_hoist_r5 : List Cond := [Cond.selects RX2 yX2_raiseHook yX2_raiseHook, Cond.code yX2_raiseHook cX2_raiseHook 4 (some .int)]
def wsX2_hoist : List Cond := .code yX2_hoist cX2_hoist 5 (some .int) :: ((wsX2_hoist_r1 ++ (wsX2_hoist_r2 ++ (wsX2_hoist_r3 ++ (wsX2_hoist_r4 ++ wsX2_hoist_r5)))) ++ wsX20 ++ wsX10 ++ wsX00 ++ wsJx4a65c0 ++ (vx_atS RX2 75 "java/lang/IllegalArgumentException" ["java/lang/RuntimeException", "java/lang/Exception"]).filter goodWord ++ (vx_atS RX2 44 "java/lang/IllegalStateException" ["java/lang/RuntimeException", "java/lang/Exception"]).filter goodWord ++ (vx_atS RX2 175 "java/lang/IndexOutOfBoundsException" ["java/lang/RuntimeException", "java/lang/Exception"]).filter goodWord)
def wsX2_removeUppermost : List Cond := .code yX2_removeUppermost cX2_removeUppermost 3 none :: ([.fieldLink RX2 11 "TreadCranes" "uppermost" "[LTreadCranes$Barrel;", .fieldLink RX2 231 "TreadCranes$Barrel" "below" "LTreadCranes$Barrel;", .fieldLink RX2 193 "TreadCranes$Barrel" "place" "I", .methodLink RX2 149 yX2_uppermostAt, .instanceMethod yX2_uppermostAt, .selects RX2 yX2_uppermostAt yX2_uppermostAt, .initialized RX2, .code yX2_uppermostAt cX2_uppermostAt 2 (some (.object "TreadCranes$Barrel")), .methodLink RX2 204 yX2_isPlace, .static yX2_isPlace, .code yX2_isPlace cX2_isPlace 1 (some .boolean), .methodLink RX2 68 yX2_isBetween, .static yX2_isBetween, .code yX2_isBetween cX2_isBetween 3 (some .boolean)] ++ wsX20 ++ wsX00)
def wsX2_take_r1 : List Cond := [Cond.classLink RX2 40 "java/lang/IllegalStateException", Cond.initialized "java/lang/IllegalStateException", Cond.fieldLink RX2 22 "TreadCranes" "cranes" "Ljava/util/ArrayList;", Cond.classLink RX2 81 "TreadCranes$Crane", Cond.fieldLink RX2 108 "TreadCranes$Crane" "hookPlace" "I", Cond.fieldLink RX2 130 "TreadCranes$Crane" "load" "LTreadCranes$Barrel;", Cond.fieldLink RX2 105 "TreadCranes$Crane" "hookHeight" "I", Cond.fieldLink RX2 158 "TreadCranes$Barrel" "crane" "I", Cond.fieldLink RX2 64 "TreadCranes$Barrel" "number" "I", Cond.methodLink RX2 86 yX2_requireCrane, Cond.instanceMethod yX2_requireCrane, Cond.selects RX2 yX2_requireCrane yX2_requireCrane, Cond.initialized RX2, Cond.code yX2_requireCrane cX2_requireCrane 2 none, Cond.classLink RX2 171 "java/lang/IndexOutOfBoundsException", Cond.initialized "java/lang/IndexOutOfBoundsException", Cond.methodLink RX2 32 yJx4a65c_size_8abf5, Cond.instanceMethod yJx4a65c_size_8abf5, Cond.selects RJx4a65c yJx4a65c_size_8abf5 yJx4a65c_size_8abf5, Cond.initialized RJx4a65c, Cond.code yJx4a65c_size_8abf5 cJx4a65c_size_8abf5 1 (some .int), Cond.fieldLink RJx4a65c 48 "java/util/ArrayList" "size" "I", Cond.methodLink RX2 68 yX2_isBetween, Cond.static yX2_isBetween]
def wsX2_take_r2 : List Cond := [Cond.code yX2_isBetween cX2_isBetween 3 (some .boolean), Cond.methodLink RX2 89 yJx4a65c_get_915e3, Cond.instanceMethod yJx4a65c_get_915e3, Cond.selects RJx4a65c yJx4a65c_get_915e3 yJx4a65c_get_915e3, Cond.code yJx4a65c_get_915e3 cJx4a65c_get_915e3 2 (some (.object "java/lang/Object")), Cond.methodLink RJx4a65c 118 yJ15_checkIndex_7cf53, Cond.static yJ15_checkIndex_7cf53, Cond.initialized RJ15, Cond.code yJ15_checkIndex_7cf53 cJ15_checkIndex_7cf53 2 (some .int), Cond.methodLink RJ15 105 yJ3_checkIndex_8e157, Cond.static yJ3_checkIndex_8e157, Cond.initialized RJ3, Cond.code yJ3_checkIndex_8e157 cJ3_checkIndex_8e157 3 (some .int), Cond.methodLink RJx4a65c 123 yJx4a65c_elementData_915e3, Cond.instanceMethod yJx4a65c_elementData_915e3, Cond.selects RJx4a65c yJx4a65c_elementData_915e3 yJx4a65c_elementData_915e3, Cond.code yJx4a65c_elementData_915e3 cJx4a65c_elementData_915e3 2 (some (.object "java/lang/Object")), Cond.fieldLink RJx4a65c 9 "java/util/ArrayList" "elementData" "[Ljava/lang/Object;", Cond.methodLink RX2 149 yX2_uppermostAt, Cond.instanceMethod yX2_uppermostAt, Cond.selects RX2 yX2_uppermostAt yX2_uppermostAt, Cond.code yX2_uppermostAt cX2_uppermostAt 2 (some (.object "TreadCranes$Barrel")), Cond.fieldLink RX2 11 "TreadCranes" "uppermost" "[LTreadCranes$Barrel;", Cond.methodLink RX2 204 yX2_isPlace]
def wsX2_take_r3 : List Cond := [Cond.static yX2_isPlace, Cond.code yX2_isPlace cX2_isPlace 1 (some .boolean), Cond.methodLink RX2 36 yX2_heightOf, Cond.instanceMethod yX2_heightOf, Cond.selects RX2 yX2_heightOf yX2_heightOf, Cond.code yX2_heightOf cX2_heightOf 3 (some .int), Cond.fieldLink RX2 222 "TreadCranes$Barrel" "level" "I", Cond.methodLink RX2 155 yX2_removeUppermost, Cond.instanceMethod yX2_removeUppermost, Cond.selects RX2 yX2_removeUppermost yX2_removeUppermost, Cond.code yX2_removeUppermost cX2_removeUppermost 3 none, Cond.fieldLink RX2 231 "TreadCranes$Barrel" "below" "LTreadCranes$Barrel;", Cond.fieldLink RX2 193 "TreadCranes$Barrel" "place" "I"]
def wsX2_take : List Cond := .code yX2_take cX2_take 4 (some .int) :: ((wsX2_take_r1 ++ (wsX2_take_r2 ++ wsX2_take_r3)) ++ wsX20 ++ wsX10 ++ wsX00 ++ wsJx4a65c0 ++ (vx_atS RX2 44 "java/lang/IllegalStateException" ["java/lang/RuntimeException", "java/lang/Exception"]).filter goodWord ++ (vx_atS RX2 175 "java/lang/IndexOutOfBoundsException" ["java/lang/RuntimeException", "java/lang/Exception"]).filter goodWord)
def wsX2_lay_r1 : List Cond := [Cond.classLink RX2 40 "java/lang/IllegalStateException", Cond.initialized "java/lang/IllegalStateException", Cond.fieldLink RX2 22 "TreadCranes" "cranes" "Ljava/util/ArrayList;", Cond.classLink RX2 81 "TreadCranes$Crane", Cond.fieldLink RX2 130 "TreadCranes$Crane" "load" "LTreadCranes$Barrel;", Cond.fieldLink RX2 108 "TreadCranes$Crane" "hookPlace" "I", Cond.fieldLink RX2 105 "TreadCranes$Crane" "hookHeight" "I", Cond.fieldLink RX2 158 "TreadCranes$Barrel" "crane" "I", Cond.methodLink RX2 86 yX2_requireCrane, Cond.instanceMethod yX2_requireCrane, Cond.selects RX2 yX2_requireCrane yX2_requireCrane, Cond.initialized RX2, Cond.code yX2_requireCrane cX2_requireCrane 2 none, Cond.classLink RX2 171 "java/lang/IndexOutOfBoundsException", Cond.initialized "java/lang/IndexOutOfBoundsException", Cond.methodLink RX2 32 yJx4a65c_size_8abf5, Cond.instanceMethod yJx4a65c_size_8abf5, Cond.selects RJx4a65c yJx4a65c_size_8abf5 yJx4a65c_size_8abf5, Cond.initialized RJx4a65c, Cond.code yJx4a65c_size_8abf5 cJx4a65c_size_8abf5 1 (some .int), Cond.fieldLink RJx4a65c 48 "java/util/ArrayList" "size" "I", Cond.methodLink RX2 68 yX2_isBetween, Cond.static yX2_isBetween, Cond.code yX2_isBetween cX2_isBetween 3 (some .boolean)]
def wsX2_lay_r2 : List Cond := [Cond.methodLink RX2 89 yJx4a65c_get_915e3, Cond.instanceMethod yJx4a65c_get_915e3, Cond.selects RJx4a65c yJx4a65c_get_915e3 yJx4a65c_get_915e3, Cond.code yJx4a65c_get_915e3 cJx4a65c_get_915e3 2 (some (.object "java/lang/Object")), Cond.methodLink RJx4a65c 118 yJ15_checkIndex_7cf53, Cond.static yJ15_checkIndex_7cf53, Cond.initialized RJ15, Cond.code yJ15_checkIndex_7cf53 cJ15_checkIndex_7cf53 2 (some .int), Cond.methodLink RJ15 105 yJ3_checkIndex_8e157, Cond.static yJ3_checkIndex_8e157, Cond.initialized RJ3, Cond.code yJ3_checkIndex_8e157 cJ3_checkIndex_8e157 3 (some .int), Cond.methodLink RJx4a65c 123 yJx4a65c_elementData_915e3, Cond.instanceMethod yJx4a65c_elementData_915e3, Cond.selects RJx4a65c yJx4a65c_elementData_915e3 yJx4a65c_elementData_915e3, Cond.code yJx4a65c_elementData_915e3 cJx4a65c_elementData_915e3 2 (some (.object "java/lang/Object")), Cond.fieldLink RJx4a65c 9 "java/util/ArrayList" "elementData" "[Ljava/lang/Object;", Cond.methodLink RX2 36 yX2_heightOf, Cond.instanceMethod yX2_heightOf, Cond.selects RX2 yX2_heightOf yX2_heightOf, Cond.code yX2_heightOf cX2_heightOf 3 (some .int), Cond.fieldLink RX2 222 "TreadCranes$Barrel" "level" "I", Cond.methodLink RX2 149 yX2_uppermostAt, Cond.instanceMethod yX2_uppermostAt]
def wsX2_lay_r3 : List Cond := [Cond.selects RX2 yX2_uppermostAt yX2_uppermostAt, Cond.code yX2_uppermostAt cX2_uppermostAt 2 (some (.object "TreadCranes$Barrel")), Cond.fieldLink RX2 11 "TreadCranes" "uppermost" "[LTreadCranes$Barrel;", Cond.methodLink RX2 204 yX2_isPlace, Cond.static yX2_isPlace, Cond.code yX2_isPlace cX2_isPlace 1 (some .boolean), Cond.methodLink RX2 47 yX2_hooksAllow, Cond.instanceMethod yX2_hooksAllow, Cond.selects RX2 yX2_hooksAllow yX2_hooksAllow, Cond.code yX2_hooksAllow cX2_hooksAllow 6 (some .boolean), Cond.methodLink RX2 115 yX1_lowestHook, Cond.instanceMethod yX1_lowestHook, Cond.selects RX1 yX1_lowestHook yX1_lowestHook, Cond.initialized RX1, Cond.code yX1_lowestHook cX1_lowestHook 2 (some .int), Cond.fieldLink RX1 38 "TreadCranes$Crane" "load" "LTreadCranes$Barrel;", Cond.methodLink RX2 60 yX2_putUpon, Cond.instanceMethod yX2_putUpon, Cond.selects RX2 yX2_putUpon yX2_putUpon, Cond.code yX2_putUpon cX2_putUpon 3 none, Cond.fieldLink RX2 193 "TreadCranes$Barrel" "place" "I", Cond.fieldLink RX2 231 "TreadCranes$Barrel" "below" "LTreadCranes$Barrel;"]
def wsX2_lay : List Cond := .code yX2_lay cX2_lay 5 (some .int) :: ((wsX2_lay_r1 ++ (wsX2_lay_r2 ++ wsX2_lay_r3)) ++ wsX20 ++ wsX10 ++ wsX00 ++ wsJx4a65c0 ++ (vx_atS RX2 44 "java/lang/IllegalStateException" ["java/lang/RuntimeException", "java/lang/Exception"]).filter goodWord ++ (vx_atS RX2 175 "java/lang/IndexOutOfBoundsException" ["java/lang/RuntimeException", "java/lang/Exception"]).filter goodWord)
def wsX2_requireAnswer : List Cond := .code yX2_requireAnswer cX2_requireAnswer 2 none :: ([.classLink RX2 171 "java/lang/IndexOutOfBoundsException", .initialized "java/lang/IndexOutOfBoundsException", .methodLink RX2 68 yX2_isBetween, .static yX2_isBetween, .initialized RX2, .code yX2_isBetween cX2_isBetween 3 (some .boolean)] ++ (vx_atS RX2 175 "java/lang/IndexOutOfBoundsException" ["java/lang/RuntimeException", "java/lang/Exception"]).filter goodWord)
def wsX2_numberOf : List Cond := .code yX2_numberOf cX2_numberOf 1 (some .int) :: ([.fieldLink RX2 64 "TreadCranes$Barrel" "number" "I"] ++ wsX00)
def wsX2_weightsAt : List Cond := .code yX2_weightsAt cX2_weightsAt 4 (some .int) :: ([.fieldLink RX2 134 "TreadCranes$Barrel" "weight" "I", .fieldLink RX2 231 "TreadCranes$Barrel" "below" "LTreadCranes$Barrel;", .methodLink RX2 149 yX2_uppermostAt, .instanceMethod yX2_uppermostAt, .selects RX2 yX2_uppermostAt yX2_uppermostAt, .initialized RX2, .code yX2_uppermostAt cX2_uppermostAt 2 (some (.object "TreadCranes$Barrel")), .fieldLink RX2 11 "TreadCranes" "uppermost" "[LTreadCranes$Barrel;", .methodLink RX2 204 yX2_isPlace, .static yX2_isPlace, .code yX2_isPlace cX2_isPlace 1 (some .boolean), .methodLink RX2 68 yX2_isBetween, .static yX2_isBetween, .code yX2_isBetween cX2_isBetween 3 (some .boolean)] ++ wsX00 ++ wsX20)
def wsX2_hooksOver_r1 : List Cond := [Cond.fieldLink RX2 22 "TreadCranes" "cranes" "Ljava/util/ArrayList;", Cond.classLink RX2 81 "TreadCranes$Crane", Cond.fieldLink RX2 108 "TreadCranes$Crane" "hookPlace" "I", Cond.methodLink RX2 32 yJx4a65c_size_8abf5, Cond.instanceMethod yJx4a65c_size_8abf5, Cond.selects RJx4a65c yJx4a65c_size_8abf5 yJx4a65c_size_8abf5, Cond.initialized RJx4a65c, Cond.code yJx4a65c_size_8abf5 cJx4a65c_size_8abf5 1 (some .int), Cond.fieldLink RJx4a65c 48 "java/util/ArrayList" "size" "I", Cond.methodLink RX2 89 yJx4a65c_get_915e3, Cond.instanceMethod yJx4a65c_get_915e3, Cond.selects RJx4a65c yJx4a65c_get_915e3 yJx4a65c_get_915e3, Cond.code yJx4a65c_get_915e3 cJx4a65c_get_915e3 2 (some (.object "java/lang/Object")), Cond.methodLink RJx4a65c 118 yJ15_checkIndex_7cf53, Cond.static yJ15_checkIndex_7cf53, Cond.initialized RJ15, Cond.code yJ15_checkIndex_7cf53 cJ15_checkIndex_7cf53 2 (some .int), Cond.methodLink RJ15 105 yJ3_checkIndex_8e157, Cond.static yJ3_checkIndex_8e157, Cond.initialized RJ3, Cond.code yJ3_checkIndex_8e157 cJ3_checkIndex_8e157 3 (some .int), Cond.methodLink RJx4a65c 123 yJx4a65c_elementData_915e3, Cond.instanceMethod yJx4a65c_elementData_915e3, Cond.selects RJx4a65c yJx4a65c_elementData_915e3 yJx4a65c_elementData_915e3]
def wsX2_hooksOver_r2 : List Cond := [Cond.code yJx4a65c_elementData_915e3 cJx4a65c_elementData_915e3 2 (some (.object "java/lang/Object")), Cond.fieldLink RJx4a65c 9 "java/util/ArrayList" "elementData" "[Ljava/lang/Object;"]
def wsX2_hooksOver : List Cond := .code yX2_hooksOver cX2_hooksOver 4 (some .int) :: ((wsX2_hooksOver_r1 ++ wsX2_hooksOver_r2) ++ wsX20 ++ wsX10 ++ wsJx4a65c0)
def wsX2_placeAnswer_r1 : List Cond := [Cond.methodLink RX2 36 yX2_heightOf, Cond.instanceMethod yX2_heightOf, Cond.selects RX2 yX2_heightOf yX2_heightOf, Cond.initialized RX2, Cond.code yX2_heightOf cX2_heightOf 3 (some .int), Cond.fieldLink RX2 222 "TreadCranes$Barrel" "level" "I", Cond.methodLink RX2 149 yX2_uppermostAt, Cond.instanceMethod yX2_uppermostAt, Cond.selects RX2 yX2_uppermostAt yX2_uppermostAt, Cond.code yX2_uppermostAt cX2_uppermostAt 2 (some (.object "TreadCranes$Barrel")), Cond.fieldLink RX2 11 "TreadCranes" "uppermost" "[LTreadCranes$Barrel;", Cond.methodLink RX2 204 yX2_isPlace, Cond.static yX2_isPlace, Cond.code yX2_isPlace cX2_isPlace 1 (some .boolean), Cond.methodLink RX2 68 yX2_isBetween, Cond.static yX2_isBetween, Cond.code yX2_isBetween cX2_isBetween 3 (some .boolean), Cond.methodLink RX2 248 yX2_numberOf, Cond.static yX2_numberOf, Cond.code yX2_numberOf cX2_numberOf 1 (some .int), Cond.fieldLink RX2 64 "TreadCranes$Barrel" "number" "I", Cond.methodLink RX2 252 yX2_weightsAt, Cond.instanceMethod yX2_weightsAt, Cond.selects RX2 yX2_weightsAt yX2_weightsAt]
def wsX2_placeAnswer_r2 : List Cond := [Cond.code yX2_weightsAt cX2_weightsAt 4 (some .int), Cond.fieldLink RX2 134 "TreadCranes$Barrel" "weight" "I", Cond.fieldLink RX2 231 "TreadCranes$Barrel" "below" "LTreadCranes$Barrel;", Cond.methodLink RX2 255 yX2_hooksOver, Cond.instanceMethod yX2_hooksOver, Cond.selects RX2 yX2_hooksOver yX2_hooksOver, Cond.code yX2_hooksOver cX2_hooksOver 4 (some .int), Cond.fieldLink RX2 22 "TreadCranes" "cranes" "Ljava/util/ArrayList;", Cond.classLink RX2 81 "TreadCranes$Crane", Cond.fieldLink RX2 108 "TreadCranes$Crane" "hookPlace" "I", Cond.methodLink RX2 32 yJx4a65c_size_8abf5, Cond.instanceMethod yJx4a65c_size_8abf5, Cond.selects RJx4a65c yJx4a65c_size_8abf5 yJx4a65c_size_8abf5, Cond.initialized RJx4a65c, Cond.code yJx4a65c_size_8abf5 cJx4a65c_size_8abf5 1 (some .int), Cond.fieldLink RJx4a65c 48 "java/util/ArrayList" "size" "I", Cond.methodLink RX2 89 yJx4a65c_get_915e3, Cond.instanceMethod yJx4a65c_get_915e3, Cond.selects RJx4a65c yJx4a65c_get_915e3 yJx4a65c_get_915e3, Cond.code yJx4a65c_get_915e3 cJx4a65c_get_915e3 2 (some (.object "java/lang/Object")), Cond.methodLink RJx4a65c 118 yJ15_checkIndex_7cf53, Cond.static yJ15_checkIndex_7cf53, Cond.initialized RJ15, Cond.code yJ15_checkIndex_7cf53 cJ15_checkIndex_7cf53 2 (some .int)]
def wsX2_placeAnswer_r3 : List Cond := [Cond.methodLink RJ15 105 yJ3_checkIndex_8e157, Cond.static yJ3_checkIndex_8e157, Cond.initialized RJ3, Cond.code yJ3_checkIndex_8e157 cJ3_checkIndex_8e157 3 (some .int), Cond.methodLink RJx4a65c 123 yJx4a65c_elementData_915e3, Cond.instanceMethod yJx4a65c_elementData_915e3, Cond.selects RJx4a65c yJx4a65c_elementData_915e3 yJx4a65c_elementData_915e3, Cond.code yJx4a65c_elementData_915e3 cJx4a65c_elementData_915e3 2 (some (.object "java/lang/Object")), Cond.fieldLink RJx4a65c 9 "java/util/ArrayList" "elementData" "[Ljava/lang/Object;"]
def wsX2_placeAnswer : List Cond := .code yX2_placeAnswer cX2_placeAnswer 3 (some .int) :: ((wsX2_placeAnswer_r1 ++ (wsX2_placeAnswer_r2 ++ wsX2_placeAnswer_r3)) ++ wsX00 ++ wsX20 ++ wsX10 ++ wsJx4a65c0)
def wsX2_place_r1 : List Cond := [Cond.methodLink RX2 25 yX2_requirePlace, Cond.static yX2_requirePlace, Cond.initialized RX2, Cond.code yX2_requirePlace cX2_requirePlace 1 none, Cond.classLink RX2 171 "java/lang/IndexOutOfBoundsException", Cond.initialized "java/lang/IndexOutOfBoundsException", Cond.methodLink RX2 204 yX2_isPlace, Cond.static yX2_isPlace, Cond.code yX2_isPlace cX2_isPlace 1 (some .boolean), Cond.methodLink RX2 68 yX2_isBetween, Cond.static yX2_isBetween, Cond.code yX2_isBetween cX2_isBetween 3 (some .boolean), Cond.methodLink RX2 165 yX2_requireAnswer, Cond.static yX2_requireAnswer, Cond.code yX2_requireAnswer cX2_requireAnswer 2 none, Cond.methodLink RX2 168 yX2_placeAnswer, Cond.instanceMethod yX2_placeAnswer, Cond.selects RX2 yX2_placeAnswer yX2_placeAnswer, Cond.code yX2_placeAnswer cX2_placeAnswer 3 (some .int), Cond.methodLink RX2 36 yX2_heightOf, Cond.instanceMethod yX2_heightOf, Cond.selects RX2 yX2_heightOf yX2_heightOf, Cond.code yX2_heightOf cX2_heightOf 3 (some .int), Cond.fieldLink RX2 222 "TreadCranes$Barrel" "level" "I"]
def wsX2_place_r2 : List Cond := [Cond.methodLink RX2 149 yX2_uppermostAt, Cond.instanceMethod yX2_uppermostAt, Cond.selects RX2 yX2_uppermostAt yX2_uppermostAt, Cond.code yX2_uppermostAt cX2_uppermostAt 2 (some (.object "TreadCranes$Barrel")), Cond.fieldLink RX2 11 "TreadCranes" "uppermost" "[LTreadCranes$Barrel;", Cond.methodLink RX2 248 yX2_numberOf, Cond.static yX2_numberOf, Cond.code yX2_numberOf cX2_numberOf 1 (some .int), Cond.fieldLink RX2 64 "TreadCranes$Barrel" "number" "I", Cond.methodLink RX2 252 yX2_weightsAt, Cond.instanceMethod yX2_weightsAt, Cond.selects RX2 yX2_weightsAt yX2_weightsAt, Cond.code yX2_weightsAt cX2_weightsAt 4 (some .int), Cond.fieldLink RX2 134 "TreadCranes$Barrel" "weight" "I", Cond.fieldLink RX2 231 "TreadCranes$Barrel" "below" "LTreadCranes$Barrel;", Cond.methodLink RX2 255 yX2_hooksOver, Cond.instanceMethod yX2_hooksOver, Cond.selects RX2 yX2_hooksOver yX2_hooksOver, Cond.code yX2_hooksOver cX2_hooksOver 4 (some .int), Cond.fieldLink RX2 22 "TreadCranes" "cranes" "Ljava/util/ArrayList;", Cond.classLink RX2 81 "TreadCranes$Crane", Cond.fieldLink RX2 108 "TreadCranes$Crane" "hookPlace" "I", Cond.methodLink RX2 32 yJx4a65c_size_8abf5, Cond.instanceMethod yJx4a65c_size_8abf5]
def wsX2_place_r3 : List Cond := [Cond.selects RJx4a65c yJx4a65c_size_8abf5 yJx4a65c_size_8abf5, Cond.initialized RJx4a65c, Cond.code yJx4a65c_size_8abf5 cJx4a65c_size_8abf5 1 (some .int), Cond.fieldLink RJx4a65c 48 "java/util/ArrayList" "size" "I", Cond.methodLink RX2 89 yJx4a65c_get_915e3, Cond.instanceMethod yJx4a65c_get_915e3, Cond.selects RJx4a65c yJx4a65c_get_915e3 yJx4a65c_get_915e3, Cond.code yJx4a65c_get_915e3 cJx4a65c_get_915e3 2 (some (.object "java/lang/Object")), Cond.methodLink RJx4a65c 118 yJ15_checkIndex_7cf53, Cond.static yJ15_checkIndex_7cf53, Cond.initialized RJ15, Cond.code yJ15_checkIndex_7cf53 cJ15_checkIndex_7cf53 2 (some .int), Cond.methodLink RJ15 105 yJ3_checkIndex_8e157, Cond.static yJ3_checkIndex_8e157, Cond.initialized RJ3, Cond.code yJ3_checkIndex_8e157 cJ3_checkIndex_8e157 3 (some .int), Cond.methodLink RJx4a65c 123 yJx4a65c_elementData_915e3, Cond.instanceMethod yJx4a65c_elementData_915e3, Cond.selects RJx4a65c yJx4a65c_elementData_915e3 yJx4a65c_elementData_915e3, Cond.code yJx4a65c_elementData_915e3 cJx4a65c_elementData_915e3 2 (some (.object "java/lang/Object")), Cond.fieldLink RJx4a65c 9 "java/util/ArrayList" "elementData" "[Ljava/lang/Object;"]
def wsX2_place : List Cond := .code yX2_place cX2_place 3 (some .int) :: ((wsX2_place_r1 ++ (wsX2_place_r2 ++ wsX2_place_r3)) ++ wsX00 ++ wsX20 ++ wsX10 ++ wsJx4a65c0 ++ (vx_atS RX2 175 "java/lang/IndexOutOfBoundsException" ["java/lang/RuntimeException", "java/lang/Exception"]).filter goodWord)
def wsX2_barrelAnswer : List Cond := .code yX2_barrelAnswer cX2_barrelAnswer 3 (some .int) :: ([.fieldLink RX2 134 "TreadCranes$Barrel" "weight" "I", .fieldLink RX2 193 "TreadCranes$Barrel" "place" "I", .fieldLink RX2 222 "TreadCranes$Barrel" "level" "I", .fieldLink RX2 158 "TreadCranes$Barrel" "crane" "I", .fieldLink RX2 196 "TreadCranes$Barrel" "broken" "Z", .methodLink RX2 36 yX2_heightOf, .instanceMethod yX2_heightOf, .selects RX2 yX2_heightOf yX2_heightOf, .initialized RX2, .code yX2_heightOf cX2_heightOf 3 (some .int), .methodLink RX2 149 yX2_uppermostAt, .instanceMethod yX2_uppermostAt, .selects RX2 yX2_uppermostAt yX2_uppermostAt, .code yX2_uppermostAt cX2_uppermostAt 2 (some (.object "TreadCranes$Barrel")), .fieldLink RX2 11 "TreadCranes" "uppermost" "[LTreadCranes$Barrel;", .methodLink RX2 204 yX2_isPlace, .static yX2_isPlace, .code yX2_isPlace cX2_isPlace 1 (some .boolean), .methodLink RX2 68 yX2_isBetween, .static yX2_isBetween, .code yX2_isBetween cX2_isBetween 3 (some .boolean)] ++ wsX00 ++ wsX20)
def wsX2_barrel_r1 : List Cond := [Cond.classLink RX2 171 "java/lang/IndexOutOfBoundsException", Cond.initialized "java/lang/IndexOutOfBoundsException", Cond.fieldLink RX2 18 "TreadCranes" "barrels" "Ljava/util/ArrayList;", Cond.classLink RX2 9 "TreadCranes$Barrel", Cond.methodLink RX2 32 yJx4a65c_size_8abf5, Cond.instanceMethod yJx4a65c_size_8abf5, Cond.selects RJx4a65c yJx4a65c_size_8abf5 yJx4a65c_size_8abf5, Cond.initialized RJx4a65c, Cond.code yJx4a65c_size_8abf5 cJx4a65c_size_8abf5 1 (some .int), Cond.fieldLink RJx4a65c 48 "java/util/ArrayList" "size" "I", Cond.methodLink RX2 68 yX2_isBetween, Cond.static yX2_isBetween, Cond.initialized RX2, Cond.code yX2_isBetween cX2_isBetween 3 (some .boolean), Cond.methodLink RX2 165 yX2_requireAnswer, Cond.static yX2_requireAnswer, Cond.code yX2_requireAnswer cX2_requireAnswer 2 none, Cond.methodLink RX2 89 yJx4a65c_get_915e3, Cond.instanceMethod yJx4a65c_get_915e3, Cond.selects RJx4a65c yJx4a65c_get_915e3 yJx4a65c_get_915e3, Cond.code yJx4a65c_get_915e3 cJx4a65c_get_915e3 2 (some (.object "java/lang/Object")), Cond.methodLink RJx4a65c 118 yJ15_checkIndex_7cf53, Cond.static yJ15_checkIndex_7cf53, Cond.initialized RJ15]
def wsX2_barrel_r2 : List Cond := [Cond.code yJ15_checkIndex_7cf53 cJ15_checkIndex_7cf53 2 (some .int), Cond.methodLink RJ15 105 yJ3_checkIndex_8e157, Cond.static yJ3_checkIndex_8e157, Cond.initialized RJ3, Cond.code yJ3_checkIndex_8e157 cJ3_checkIndex_8e157 3 (some .int), Cond.methodLink RJx4a65c 123 yJx4a65c_elementData_915e3, Cond.instanceMethod yJx4a65c_elementData_915e3, Cond.selects RJx4a65c yJx4a65c_elementData_915e3 yJx4a65c_elementData_915e3, Cond.code yJx4a65c_elementData_915e3 cJx4a65c_elementData_915e3 2 (some (.object "java/lang/Object")), Cond.fieldLink RJx4a65c 9 "java/util/ArrayList" "elementData" "[Ljava/lang/Object;", Cond.methodLink RX2 176 yX2_barrelAnswer, Cond.instanceMethod yX2_barrelAnswer, Cond.selects RX2 yX2_barrelAnswer yX2_barrelAnswer, Cond.code yX2_barrelAnswer cX2_barrelAnswer 3 (some .int), Cond.fieldLink RX2 134 "TreadCranes$Barrel" "weight" "I", Cond.fieldLink RX2 193 "TreadCranes$Barrel" "place" "I", Cond.fieldLink RX2 222 "TreadCranes$Barrel" "level" "I", Cond.fieldLink RX2 158 "TreadCranes$Barrel" "crane" "I", Cond.fieldLink RX2 196 "TreadCranes$Barrel" "broken" "Z", Cond.methodLink RX2 36 yX2_heightOf, Cond.instanceMethod yX2_heightOf, Cond.selects RX2 yX2_heightOf yX2_heightOf, Cond.code yX2_heightOf cX2_heightOf 3 (some .int), Cond.methodLink RX2 149 yX2_uppermostAt]
def wsX2_barrel_r3 : List Cond := [Cond.instanceMethod yX2_uppermostAt, Cond.selects RX2 yX2_uppermostAt yX2_uppermostAt, Cond.code yX2_uppermostAt cX2_uppermostAt 2 (some (.object "TreadCranes$Barrel")), Cond.fieldLink RX2 11 "TreadCranes" "uppermost" "[LTreadCranes$Barrel;", Cond.methodLink RX2 204 yX2_isPlace, Cond.static yX2_isPlace, Cond.code yX2_isPlace cX2_isPlace 1 (some .boolean)]
def wsX2_barrel : List Cond := .code yX2_barrel cX2_barrel 3 (some .int) :: ((wsX2_barrel_r1 ++ (wsX2_barrel_r2 ++ wsX2_barrel_r3)) ++ wsX20 ++ wsJx4a65c0 ++ wsX00 ++ (vx_atS RX2 175 "java/lang/IndexOutOfBoundsException" ["java/lang/RuntimeException", "java/lang/Exception"]).filter goodWord)
def wsX2_craneAnswer : List Cond := .code yX2_craneAnswer cX2_craneAnswer 2 (some .int) :: ([.fieldLink RX2 258 "TreadCranes$Crane" "place" "I", .fieldLink RX2 259 "TreadCranes$Crane" "reach" "I", .fieldLink RX2 262 "TreadCranes$Crane" "drum" "I", .fieldLink RX2 93 "TreadCranes$Crane" "walkers" "I", .fieldLink RX2 96 "TreadCranes$Crane" "worn" "I", .fieldLink RX2 108 "TreadCranes$Crane" "hookPlace" "I", .fieldLink RX2 105 "TreadCranes$Crane" "hookHeight" "I", .fieldLink RX2 130 "TreadCranes$Crane" "load" "LTreadCranes$Barrel;", .methodLink RX2 248 yX2_numberOf, .static yX2_numberOf, .initialized RX2, .code yX2_numberOf cX2_numberOf 1 (some .int), .fieldLink RX2 64 "TreadCranes$Barrel" "number" "I", .methodLink RX2 265 yX1_strength, .instanceMethod yX1_strength, .selects RX1 yX1_strength yX1_strength, .initialized RX1, .code yX1_strength cX1_strength 1 (some .int), .fieldLink RX1 21 "TreadCranes$Crane" "drum" "I", .fieldLink RX1 24 "TreadCranes$Crane" "walkers" "I"] ++ wsX10 ++ wsX00)
def wsX2_crane_r1 : List Cond := [Cond.fieldLink RX2 22 "TreadCranes" "cranes" "Ljava/util/ArrayList;", Cond.classLink RX2 81 "TreadCranes$Crane", Cond.methodLink RX2 86 yX2_requireCrane, Cond.instanceMethod yX2_requireCrane, Cond.selects RX2 yX2_requireCrane yX2_requireCrane, Cond.initialized RX2, Cond.code yX2_requireCrane cX2_requireCrane 2 none, Cond.classLink RX2 171 "java/lang/IndexOutOfBoundsException", Cond.initialized "java/lang/IndexOutOfBoundsException", Cond.methodLink RX2 32 yJx4a65c_size_8abf5, Cond.instanceMethod yJx4a65c_size_8abf5, Cond.selects RJx4a65c yJx4a65c_size_8abf5 yJx4a65c_size_8abf5, Cond.initialized RJx4a65c, Cond.code yJx4a65c_size_8abf5 cJx4a65c_size_8abf5 1 (some .int), Cond.fieldLink RJx4a65c 48 "java/util/ArrayList" "size" "I", Cond.methodLink RX2 68 yX2_isBetween, Cond.static yX2_isBetween, Cond.code yX2_isBetween cX2_isBetween 3 (some .boolean), Cond.methodLink RX2 165 yX2_requireAnswer, Cond.static yX2_requireAnswer, Cond.code yX2_requireAnswer cX2_requireAnswer 2 none, Cond.methodLink RX2 89 yJx4a65c_get_915e3, Cond.instanceMethod yJx4a65c_get_915e3, Cond.selects RJx4a65c yJx4a65c_get_915e3 yJx4a65c_get_915e3]
def wsX2_crane_r2 : List Cond := [Cond.code yJx4a65c_get_915e3 cJx4a65c_get_915e3 2 (some (.object "java/lang/Object")), Cond.methodLink RJx4a65c 118 yJ15_checkIndex_7cf53, Cond.static yJ15_checkIndex_7cf53, Cond.initialized RJ15, Cond.code yJ15_checkIndex_7cf53 cJ15_checkIndex_7cf53 2 (some .int), Cond.methodLink RJ15 105 yJ3_checkIndex_8e157, Cond.static yJ3_checkIndex_8e157, Cond.initialized RJ3, Cond.code yJ3_checkIndex_8e157 cJ3_checkIndex_8e157 3 (some .int), Cond.methodLink RJx4a65c 123 yJx4a65c_elementData_915e3, Cond.instanceMethod yJx4a65c_elementData_915e3, Cond.selects RJx4a65c yJx4a65c_elementData_915e3 yJx4a65c_elementData_915e3, Cond.code yJx4a65c_elementData_915e3 cJx4a65c_elementData_915e3 2 (some (.object "java/lang/Object")), Cond.fieldLink RJx4a65c 9 "java/util/ArrayList" "elementData" "[Ljava/lang/Object;", Cond.methodLink RX2 180 yX2_craneAnswer, Cond.static yX2_craneAnswer, Cond.code yX2_craneAnswer cX2_craneAnswer 2 (some .int), Cond.fieldLink RX2 258 "TreadCranes$Crane" "place" "I", Cond.fieldLink RX2 259 "TreadCranes$Crane" "reach" "I", Cond.fieldLink RX2 262 "TreadCranes$Crane" "drum" "I", Cond.fieldLink RX2 93 "TreadCranes$Crane" "walkers" "I", Cond.fieldLink RX2 96 "TreadCranes$Crane" "worn" "I", Cond.fieldLink RX2 108 "TreadCranes$Crane" "hookPlace" "I", Cond.fieldLink RX2 105 "TreadCranes$Crane" "hookHeight" "I"]
def wsX2_crane_r3 : List Cond := [Cond.fieldLink RX2 130 "TreadCranes$Crane" "load" "LTreadCranes$Barrel;", Cond.methodLink RX2 248 yX2_numberOf, Cond.static yX2_numberOf, Cond.code yX2_numberOf cX2_numberOf 1 (some .int), Cond.fieldLink RX2 64 "TreadCranes$Barrel" "number" "I", Cond.methodLink RX2 265 yX1_strength, Cond.instanceMethod yX1_strength, Cond.selects RX1 yX1_strength yX1_strength, Cond.initialized RX1, Cond.code yX1_strength cX1_strength 1 (some .int), Cond.fieldLink RX1 21 "TreadCranes$Crane" "drum" "I", Cond.fieldLink RX1 24 "TreadCranes$Crane" "walkers" "I"]
def wsX2_crane : List Cond := .code yX2_crane cX2_crane 3 (some .int) :: ((wsX2_crane_r1 ++ (wsX2_crane_r2 ++ wsX2_crane_r3)) ++ wsX20 ++ wsJx4a65c0 ++ wsX10 ++ wsX00 ++ (vx_atS RX2 175 "java/lang/IndexOutOfBoundsException" ["java/lang/RuntimeException", "java/lang/Exception"]).filter goodWord)
def wsX2_standing : List Cond := .code yX2_standing cX2_standing 3 (some .int) :: ([.methodLink RX2 36 yX2_heightOf, .instanceMethod yX2_heightOf, .selects RX2 yX2_heightOf yX2_heightOf, .initialized RX2, .code yX2_heightOf cX2_heightOf 3 (some .int), .fieldLink RX2 222 "TreadCranes$Barrel" "level" "I", .methodLink RX2 149 yX2_uppermostAt, .instanceMethod yX2_uppermostAt, .selects RX2 yX2_uppermostAt yX2_uppermostAt, .code yX2_uppermostAt cX2_uppermostAt 2 (some (.object "TreadCranes$Barrel")), .fieldLink RX2 11 "TreadCranes" "uppermost" "[LTreadCranes$Barrel;", .methodLink RX2 204 yX2_isPlace, .static yX2_isPlace, .code yX2_isPlace cX2_isPlace 1 (some .boolean), .methodLink RX2 68 yX2_isBetween, .static yX2_isBetween, .code yX2_isBetween cX2_isBetween 3 (some .boolean)] ++ wsX00 ++ wsX20)
def wsX2_hanging_r1 : List Cond := [Cond.fieldLink RX2 22 "TreadCranes" "cranes" "Ljava/util/ArrayList;", Cond.classLink RX2 81 "TreadCranes$Crane", Cond.fieldLink RX2 130 "TreadCranes$Crane" "load" "LTreadCranes$Barrel;", Cond.methodLink RX2 32 yJx4a65c_size_8abf5, Cond.instanceMethod yJx4a65c_size_8abf5, Cond.selects RJx4a65c yJx4a65c_size_8abf5 yJx4a65c_size_8abf5, Cond.initialized RJx4a65c, Cond.code yJx4a65c_size_8abf5 cJx4a65c_size_8abf5 1 (some .int), Cond.fieldLink RJx4a65c 48 "java/util/ArrayList" "size" "I", Cond.methodLink RX2 89 yJx4a65c_get_915e3, Cond.instanceMethod yJx4a65c_get_915e3, Cond.selects RJx4a65c yJx4a65c_get_915e3 yJx4a65c_get_915e3, Cond.code yJx4a65c_get_915e3 cJx4a65c_get_915e3 2 (some (.object "java/lang/Object")), Cond.methodLink RJx4a65c 118 yJ15_checkIndex_7cf53, Cond.static yJ15_checkIndex_7cf53, Cond.initialized RJ15, Cond.code yJ15_checkIndex_7cf53 cJ15_checkIndex_7cf53 2 (some .int), Cond.methodLink RJ15 105 yJ3_checkIndex_8e157, Cond.static yJ3_checkIndex_8e157, Cond.initialized RJ3, Cond.code yJ3_checkIndex_8e157 cJ3_checkIndex_8e157 3 (some .int), Cond.methodLink RJx4a65c 123 yJx4a65c_elementData_915e3, Cond.instanceMethod yJx4a65c_elementData_915e3, Cond.selects RJx4a65c yJx4a65c_elementData_915e3 yJx4a65c_elementData_915e3]
def wsX2_hanging_r2 : List Cond := [Cond.code yJx4a65c_elementData_915e3 cJx4a65c_elementData_915e3 2 (some (.object "java/lang/Object")), Cond.fieldLink RJx4a65c 9 "java/util/ArrayList" "elementData" "[Ljava/lang/Object;"]
def wsX2_hanging : List Cond := .code yX2_hanging cX2_hanging 3 (some .int) :: ((wsX2_hanging_r1 ++ wsX2_hanging_r2) ++ wsX20 ++ wsX10 ++ wsJx4a65c0)
def wsX2_countAnswer_r1 : List Cond := [Cond.fieldLink RX2 123 "TreadCranes" "ticks" "I", Cond.fieldLink RX2 18 "TreadCranes" "barrels" "Ljava/util/ArrayList;", Cond.fieldLink RX2 22 "TreadCranes" "cranes" "Ljava/util/ArrayList;", Cond.methodLink RX2 32 yJx4a65c_size_8abf5, Cond.instanceMethod yJx4a65c_size_8abf5, Cond.selects RJx4a65c yJx4a65c_size_8abf5 yJx4a65c_size_8abf5, Cond.initialized RJx4a65c, Cond.code yJx4a65c_size_8abf5 cJx4a65c_size_8abf5 1 (some .int), Cond.fieldLink RJx4a65c 48 "java/util/ArrayList" "size" "I", Cond.methodLink RX2 268 yX2_standing, Cond.instanceMethod yX2_standing, Cond.selects RX2 yX2_standing yX2_standing, Cond.initialized RX2, Cond.code yX2_standing cX2_standing 3 (some .int), Cond.methodLink RX2 36 yX2_heightOf, Cond.instanceMethod yX2_heightOf, Cond.selects RX2 yX2_heightOf yX2_heightOf, Cond.code yX2_heightOf cX2_heightOf 3 (some .int), Cond.fieldLink RX2 222 "TreadCranes$Barrel" "level" "I", Cond.methodLink RX2 149 yX2_uppermostAt, Cond.instanceMethod yX2_uppermostAt, Cond.selects RX2 yX2_uppermostAt yX2_uppermostAt, Cond.code yX2_uppermostAt cX2_uppermostAt 2 (some (.object "TreadCranes$Barrel")), Cond.fieldLink RX2 11 "TreadCranes" "uppermost" "[LTreadCranes$Barrel;"]
def wsX2_countAnswer_r2 : List Cond := [Cond.methodLink RX2 204 yX2_isPlace, Cond.static yX2_isPlace, Cond.code yX2_isPlace cX2_isPlace 1 (some .boolean), Cond.methodLink RX2 68 yX2_isBetween, Cond.static yX2_isBetween, Cond.code yX2_isBetween cX2_isBetween 3 (some .boolean), Cond.methodLink RX2 271 yX2_hanging, Cond.instanceMethod yX2_hanging, Cond.selects RX2 yX2_hanging yX2_hanging, Cond.code yX2_hanging cX2_hanging 3 (some .int), Cond.classLink RX2 81 "TreadCranes$Crane", Cond.fieldLink RX2 130 "TreadCranes$Crane" "load" "LTreadCranes$Barrel;", Cond.methodLink RX2 89 yJx4a65c_get_915e3, Cond.instanceMethod yJx4a65c_get_915e3, Cond.selects RJx4a65c yJx4a65c_get_915e3 yJx4a65c_get_915e3, Cond.code yJx4a65c_get_915e3 cJx4a65c_get_915e3 2 (some (.object "java/lang/Object")), Cond.methodLink RJx4a65c 118 yJ15_checkIndex_7cf53, Cond.static yJ15_checkIndex_7cf53, Cond.initialized RJ15, Cond.code yJ15_checkIndex_7cf53 cJ15_checkIndex_7cf53 2 (some .int), Cond.methodLink RJ15 105 yJ3_checkIndex_8e157, Cond.static yJ3_checkIndex_8e157, Cond.initialized RJ3, Cond.code yJ3_checkIndex_8e157 cJ3_checkIndex_8e157 3 (some .int)]
def wsX2_countAnswer_r3 : List Cond := [Cond.methodLink RJx4a65c 123 yJx4a65c_elementData_915e3, Cond.instanceMethod yJx4a65c_elementData_915e3, Cond.selects RJx4a65c yJx4a65c_elementData_915e3 yJx4a65c_elementData_915e3, Cond.code yJx4a65c_elementData_915e3 cJx4a65c_elementData_915e3 2 (some (.object "java/lang/Object")), Cond.fieldLink RJx4a65c 9 "java/util/ArrayList" "elementData" "[Ljava/lang/Object;", Cond.methodLink RX2 111 yX2_highestBetween, Cond.instanceMethod yX2_highestBetween, Cond.selects RX2 yX2_highestBetween yX2_highestBetween, Cond.code yX2_highestBetween cX2_highestBetween 5 (some .int), Cond.methodLink RX2 225 Lib.Math.min.name, Cond.static Lib.Math.min.name, Cond.initialized "java/lang/Math", Cond.code Lib.Math.min.name Lib.Math.min.code 2 (some .int), Cond.methodLink RX2 228 Lib.Math.max.name, Cond.static Lib.Math.max.name, Cond.code Lib.Math.max.name Lib.Math.max.code 2 (some .int)]
def wsX2_countAnswer : List Cond := .code yX2_countAnswer cX2_countAnswer 2 (some .int) :: ((wsX2_countAnswer_r1 ++ (wsX2_countAnswer_r2 ++ wsX2_countAnswer_r3)) ++ wsX20 ++ wsJx4a65c0 ++ wsX00 ++ wsX10)
def wsX2_count_r1 : List Cond := [Cond.methodLink RX2 165 yX2_requireAnswer, Cond.static yX2_requireAnswer, Cond.initialized RX2, Cond.code yX2_requireAnswer cX2_requireAnswer 2 none, Cond.classLink RX2 171 "java/lang/IndexOutOfBoundsException", Cond.initialized "java/lang/IndexOutOfBoundsException", Cond.methodLink RX2 68 yX2_isBetween, Cond.static yX2_isBetween, Cond.code yX2_isBetween cX2_isBetween 3 (some .boolean), Cond.methodLink RX2 183 yX2_countAnswer, Cond.instanceMethod yX2_countAnswer, Cond.selects RX2 yX2_countAnswer yX2_countAnswer, Cond.code yX2_countAnswer cX2_countAnswer 2 (some .int), Cond.fieldLink RX2 123 "TreadCranes" "ticks" "I", Cond.fieldLink RX2 18 "TreadCranes" "barrels" "Ljava/util/ArrayList;", Cond.fieldLink RX2 22 "TreadCranes" "cranes" "Ljava/util/ArrayList;", Cond.methodLink RX2 32 yJx4a65c_size_8abf5, Cond.instanceMethod yJx4a65c_size_8abf5, Cond.selects RJx4a65c yJx4a65c_size_8abf5 yJx4a65c_size_8abf5, Cond.initialized RJx4a65c, Cond.code yJx4a65c_size_8abf5 cJx4a65c_size_8abf5 1 (some .int), Cond.fieldLink RJx4a65c 48 "java/util/ArrayList" "size" "I", Cond.methodLink RX2 268 yX2_standing, Cond.instanceMethod yX2_standing]
def wsX2_count_r2 : List Cond := [Cond.selects RX2 yX2_standing yX2_standing, Cond.code yX2_standing cX2_standing 3 (some .int), Cond.methodLink RX2 36 yX2_heightOf, Cond.instanceMethod yX2_heightOf, Cond.selects RX2 yX2_heightOf yX2_heightOf, Cond.code yX2_heightOf cX2_heightOf 3 (some .int), Cond.fieldLink RX2 222 "TreadCranes$Barrel" "level" "I", Cond.methodLink RX2 149 yX2_uppermostAt, Cond.instanceMethod yX2_uppermostAt, Cond.selects RX2 yX2_uppermostAt yX2_uppermostAt, Cond.code yX2_uppermostAt cX2_uppermostAt 2 (some (.object "TreadCranes$Barrel")), Cond.fieldLink RX2 11 "TreadCranes" "uppermost" "[LTreadCranes$Barrel;", Cond.methodLink RX2 204 yX2_isPlace, Cond.static yX2_isPlace, Cond.code yX2_isPlace cX2_isPlace 1 (some .boolean), Cond.methodLink RX2 271 yX2_hanging, Cond.instanceMethod yX2_hanging, Cond.selects RX2 yX2_hanging yX2_hanging, Cond.code yX2_hanging cX2_hanging 3 (some .int), Cond.classLink RX2 81 "TreadCranes$Crane", Cond.fieldLink RX2 130 "TreadCranes$Crane" "load" "LTreadCranes$Barrel;", Cond.methodLink RX2 89 yJx4a65c_get_915e3, Cond.instanceMethod yJx4a65c_get_915e3, Cond.selects RJx4a65c yJx4a65c_get_915e3 yJx4a65c_get_915e3]
def wsX2_count_r3 : List Cond := [Cond.code yJx4a65c_get_915e3 cJx4a65c_get_915e3 2 (some (.object "java/lang/Object")), Cond.methodLink RJx4a65c 118 yJ15_checkIndex_7cf53, Cond.static yJ15_checkIndex_7cf53, Cond.initialized RJ15, Cond.code yJ15_checkIndex_7cf53 cJ15_checkIndex_7cf53 2 (some .int), Cond.methodLink RJ15 105 yJ3_checkIndex_8e157, Cond.static yJ3_checkIndex_8e157, Cond.initialized RJ3, Cond.code yJ3_checkIndex_8e157 cJ3_checkIndex_8e157 3 (some .int), Cond.methodLink RJx4a65c 123 yJx4a65c_elementData_915e3, Cond.instanceMethod yJx4a65c_elementData_915e3, Cond.selects RJx4a65c yJx4a65c_elementData_915e3 yJx4a65c_elementData_915e3, Cond.code yJx4a65c_elementData_915e3 cJx4a65c_elementData_915e3 2 (some (.object "java/lang/Object")), Cond.fieldLink RJx4a65c 9 "java/util/ArrayList" "elementData" "[Ljava/lang/Object;", Cond.methodLink RX2 111 yX2_highestBetween, Cond.instanceMethod yX2_highestBetween, Cond.selects RX2 yX2_highestBetween yX2_highestBetween, Cond.code yX2_highestBetween cX2_highestBetween 5 (some .int), Cond.methodLink RX2 225 Lib.Math.min.name, Cond.static Lib.Math.min.name, Cond.initialized "java/lang/Math", Cond.code Lib.Math.min.name Lib.Math.min.code 2 (some .int), Cond.methodLink RX2 228 Lib.Math.max.name, Cond.static Lib.Math.max.name]
def wsX2_count_r4 : List Cond := [Cond.code Lib.Math.max.name Lib.Math.max.code 2 (some .int)]
def wsX2_count : List Cond := .code yX2_count cX2_count 2 (some .int) :: ((wsX2_count_r1 ++ (wsX2_count_r2 ++ (wsX2_count_r3 ++ wsX2_count_r4))) ++ wsX20 ++ wsJx4a65c0 ++ wsX00 ++ wsX10 ++ (vx_atS RX2 175 "java/lang/IndexOutOfBoundsException" ["java/lang/RuntimeException", "java/lang/Exception"]).filter goodWord)
def wsX2_isFreeToMove_r1 : List Cond := [Cond.fieldLink RX2 130 "TreadCranes$Crane" "load" "LTreadCranes$Barrel;", Cond.methodLink RX2 99 yX1_reaches, Cond.instanceMethod yX1_reaches, Cond.selects RX1 yX1_reaches yX1_reaches, Cond.initialized RX1, Cond.code yX1_reaches cX1_reaches 2 (some .boolean), Cond.fieldLink RX1 15 "TreadCranes$Crane" "place" "I", Cond.fieldLink RX1 18 "TreadCranes$Crane" "reach" "I", Cond.static yX2_distance, Cond.initialized RX2, Cond.code yX2_distance cX2_distance 2 (some .int), Cond.methodLink RX2 217 Lib.Math.abs.name, Cond.static Lib.Math.abs.name, Cond.initialized "java/lang/Math", Cond.code Lib.Math.abs.name Lib.Math.abs.code 1 (some .int), Cond.methodLink RX2 36 yX2_heightOf, Cond.instanceMethod yX2_heightOf, Cond.selects RX2 yX2_heightOf yX2_heightOf, Cond.code yX2_heightOf cX2_heightOf 3 (some .int), Cond.fieldLink RX2 222 "TreadCranes$Barrel" "level" "I", Cond.methodLink RX2 149 yX2_uppermostAt, Cond.instanceMethod yX2_uppermostAt, Cond.selects RX2 yX2_uppermostAt yX2_uppermostAt, Cond.code yX2_uppermostAt cX2_uppermostAt 2 (some (.object "TreadCranes$Barrel"))]
def wsX2_isFreeToMove_r2 : List Cond := [Cond.fieldLink RX2 11 "TreadCranes" "uppermost" "[LTreadCranes$Barrel;", Cond.methodLink RX2 204 yX2_isPlace, Cond.static yX2_isPlace, Cond.code yX2_isPlace cX2_isPlace 1 (some .boolean), Cond.methodLink RX2 68 yX2_isBetween, Cond.static yX2_isBetween, Cond.code yX2_isBetween cX2_isBetween 3 (some .boolean)]
def wsX2_isFreeToMove : List Cond := .code yX2_isFreeToMove cX2_isFreeToMove 4 (some .boolean) :: ((wsX2_isFreeToMove_r1 ++ wsX2_isFreeToMove_r2) ++ wsX10 ++ wsX00 ++ wsX20)
def wsX2_ticksToMove_r1 : List Cond := [Cond.fieldLink RX2 134 "TreadCranes$Barrel" "weight" "I", Cond.fieldLink RX2 105 "TreadCranes$Crane" "hookHeight" "I", Cond.fieldLink RX2 108 "TreadCranes$Crane" "hookPlace" "I", Cond.methodLink RX2 228 Lib.Math.max.name, Cond.static Lib.Math.max.name, Cond.initialized "java/lang/Math", Cond.code Lib.Math.max.name Lib.Math.max.code 2 (some .int), Cond.methodLink RX2 149 yX2_uppermostAt, Cond.instanceMethod yX2_uppermostAt, Cond.selects RX2 yX2_uppermostAt yX2_uppermostAt, Cond.initialized RX2, Cond.code yX2_uppermostAt cX2_uppermostAt 2 (some (.object "TreadCranes$Barrel")), Cond.fieldLink RX2 11 "TreadCranes" "uppermost" "[LTreadCranes$Barrel;", Cond.methodLink RX2 204 yX2_isPlace, Cond.static yX2_isPlace, Cond.code yX2_isPlace cX2_isPlace 1 (some .boolean), Cond.methodLink RX2 68 yX2_isBetween, Cond.static yX2_isBetween, Cond.code yX2_isBetween cX2_isBetween 3 (some .boolean), Cond.methodLink RX2 137 yX1_canLift, Cond.instanceMethod yX1_canLift, Cond.selects RX1 yX1_canLift yX1_canLift, Cond.initialized RX1, Cond.code yX1_canLift cX1_canLift 2 (some .boolean)]
def wsX2_ticksToMove_r2 : List Cond := [Cond.methodLink RX1 30 yX1_strength, Cond.instanceMethod yX1_strength, Cond.selects RX1 yX1_strength yX1_strength, Cond.code yX1_strength cX1_strength 1 (some .int), Cond.fieldLink RX1 21 "TreadCranes$Crane" "drum" "I", Cond.fieldLink RX1 24 "TreadCranes$Crane" "walkers" "I", Cond.methodLink RX2 244 yX2_isFreeToMove, Cond.instanceMethod yX2_isFreeToMove, Cond.selects RX2 yX2_isFreeToMove yX2_isFreeToMove, Cond.code yX2_isFreeToMove cX2_isFreeToMove 4 (some .boolean), Cond.fieldLink RX2 130 "TreadCranes$Crane" "load" "LTreadCranes$Barrel;", Cond.methodLink RX2 99 yX1_reaches, Cond.instanceMethod yX1_reaches, Cond.selects RX1 yX1_reaches yX1_reaches, Cond.code yX1_reaches cX1_reaches 2 (some .boolean), Cond.fieldLink RX1 15 "TreadCranes$Crane" "place" "I", Cond.fieldLink RX1 18 "TreadCranes$Crane" "reach" "I", Cond.static yX2_distance, Cond.code yX2_distance cX2_distance 2 (some .int), Cond.methodLink RX2 217 Lib.Math.abs.name, Cond.static Lib.Math.abs.name, Cond.code Lib.Math.abs.name Lib.Math.abs.code 1 (some .int), Cond.methodLink RX2 36 yX2_heightOf, Cond.instanceMethod yX2_heightOf]
def wsX2_ticksToMove_r3 : List Cond := [Cond.selects RX2 yX2_heightOf yX2_heightOf, Cond.code yX2_heightOf cX2_heightOf 3 (some .int), Cond.fieldLink RX2 222 "TreadCranes$Barrel" "level" "I", Cond.methodLink RX2 111 yX2_highestBetween, Cond.instanceMethod yX2_highestBetween, Cond.selects RX2 yX2_highestBetween yX2_highestBetween, Cond.code yX2_highestBetween cX2_highestBetween 5 (some .int), Cond.methodLink RX2 225 Lib.Math.min.name, Cond.static Lib.Math.min.name, Cond.code Lib.Math.min.name Lib.Math.min.code 2 (some .int), Cond.methodLink RX2 234 yX1_ticksToWind, Cond.instanceMethod yX1_ticksToWind, Cond.selects RX1 yX1_ticksToWind yX1_ticksToWind, Cond.code yX1_ticksToWind cX1_ticksToWind 2 (some .int), Cond.methodLink RX2 237 yX1_wornAfterLowering, Cond.instanceMethod yX1_wornAfterLowering, Cond.selects RX1 yX1_wornAfterLowering yX1_wornAfterLowering, Cond.code yX1_wornAfterLowering cX1_wornAfterLowering 3 (some .int), Cond.fieldLink RX1 42 "TreadCranes$Crane" "worn" "I", Cond.static yX2_wearInATick, Cond.code yX2_wearInATick cX2_wearInATick 1 (some .int), Cond.methodLink RX2 120 yX2_distance]
def wsX2_ticksToMove : List Cond := .code yX2_ticksToMove cX2_ticksToMove 11 (some .int) :: ((wsX2_ticksToMove_r1 ++ (wsX2_ticksToMove_r2 ++ wsX2_ticksToMove_r3)) ++ wsX00 ++ wsX10 ++ wsX20)
def wsX2_move_r1 : List Cond := [Cond.fieldLink RX2 22 "TreadCranes" "cranes" "Ljava/util/ArrayList;", Cond.classLink RX2 81 "TreadCranes$Crane", Cond.methodLink RX2 86 yX2_requireCrane, Cond.instanceMethod yX2_requireCrane, Cond.selects RX2 yX2_requireCrane yX2_requireCrane, Cond.initialized RX2, Cond.code yX2_requireCrane cX2_requireCrane 2 none, Cond.classLink RX2 171 "java/lang/IndexOutOfBoundsException", Cond.initialized "java/lang/IndexOutOfBoundsException", Cond.methodLink RX2 32 yJx4a65c_size_8abf5, Cond.instanceMethod yJx4a65c_size_8abf5, Cond.selects RJx4a65c yJx4a65c_size_8abf5 yJx4a65c_size_8abf5, Cond.initialized RJx4a65c, Cond.code yJx4a65c_size_8abf5 cJx4a65c_size_8abf5 1 (some .int), Cond.fieldLink RJx4a65c 48 "java/util/ArrayList" "size" "I", Cond.methodLink RX2 68 yX2_isBetween, Cond.static yX2_isBetween, Cond.code yX2_isBetween cX2_isBetween 3 (some .boolean), Cond.methodLink RX2 25 yX2_requirePlace, Cond.static yX2_requirePlace, Cond.code yX2_requirePlace cX2_requirePlace 1 none, Cond.methodLink RX2 204 yX2_isPlace, Cond.static yX2_isPlace, Cond.code yX2_isPlace cX2_isPlace 1 (some .boolean)]
def wsX2_move_r2 : List Cond := [Cond.methodLink RX2 89 yJx4a65c_get_915e3, Cond.instanceMethod yJx4a65c_get_915e3, Cond.selects RJx4a65c yJx4a65c_get_915e3 yJx4a65c_get_915e3, Cond.code yJx4a65c_get_915e3 cJx4a65c_get_915e3 2 (some (.object "java/lang/Object")), Cond.methodLink RJx4a65c 118 yJ15_checkIndex_7cf53, Cond.static yJ15_checkIndex_7cf53, Cond.initialized RJ15, Cond.code yJ15_checkIndex_7cf53 cJ15_checkIndex_7cf53 2 (some .int), Cond.methodLink RJ15 105 yJ3_checkIndex_8e157, Cond.static yJ3_checkIndex_8e157, Cond.initialized RJ3, Cond.code yJ3_checkIndex_8e157 cJ3_checkIndex_8e157 3 (some .int), Cond.methodLink RJx4a65c 123 yJx4a65c_elementData_915e3, Cond.instanceMethod yJx4a65c_elementData_915e3, Cond.selects RJx4a65c yJx4a65c_elementData_915e3 yJx4a65c_elementData_915e3, Cond.code yJx4a65c_elementData_915e3 cJx4a65c_elementData_915e3 2 (some (.object "java/lang/Object")), Cond.fieldLink RJx4a65c 9 "java/util/ArrayList" "elementData" "[Ljava/lang/Object;", Cond.methodLink RX2 186 yX2_ticksToMove, Cond.instanceMethod yX2_ticksToMove, Cond.selects RX2 yX2_ticksToMove yX2_ticksToMove, Cond.code yX2_ticksToMove cX2_ticksToMove 11 (some .int), Cond.fieldLink RX2 134 "TreadCranes$Barrel" "weight" "I", Cond.fieldLink RX2 105 "TreadCranes$Crane" "hookHeight" "I", Cond.fieldLink RX2 108 "TreadCranes$Crane" "hookPlace" "I"]
def wsX2_move_r3 : List Cond := [Cond.methodLink RX2 228 Lib.Math.max.name, Cond.static Lib.Math.max.name, Cond.initialized "java/lang/Math", Cond.code Lib.Math.max.name Lib.Math.max.code 2 (some .int), Cond.methodLink RX2 149 yX2_uppermostAt, Cond.instanceMethod yX2_uppermostAt, Cond.selects RX2 yX2_uppermostAt yX2_uppermostAt, Cond.code yX2_uppermostAt cX2_uppermostAt 2 (some (.object "TreadCranes$Barrel")), Cond.fieldLink RX2 11 "TreadCranes" "uppermost" "[LTreadCranes$Barrel;", Cond.methodLink RX2 137 yX1_canLift, Cond.instanceMethod yX1_canLift, Cond.selects RX1 yX1_canLift yX1_canLift, Cond.initialized RX1, Cond.code yX1_canLift cX1_canLift 2 (some .boolean), Cond.methodLink RX1 30 yX1_strength, Cond.instanceMethod yX1_strength, Cond.selects RX1 yX1_strength yX1_strength, Cond.code yX1_strength cX1_strength 1 (some .int), Cond.fieldLink RX1 21 "TreadCranes$Crane" "drum" "I", Cond.fieldLink RX1 24 "TreadCranes$Crane" "walkers" "I", Cond.methodLink RX2 244 yX2_isFreeToMove, Cond.instanceMethod yX2_isFreeToMove, Cond.selects RX2 yX2_isFreeToMove yX2_isFreeToMove, Cond.code yX2_isFreeToMove cX2_isFreeToMove 4 (some .boolean)]
def wsX2_move_r4 : List Cond := [Cond.fieldLink RX2 130 "TreadCranes$Crane" "load" "LTreadCranes$Barrel;", Cond.methodLink RX2 99 yX1_reaches, Cond.instanceMethod yX1_reaches, Cond.selects RX1 yX1_reaches yX1_reaches, Cond.code yX1_reaches cX1_reaches 2 (some .boolean), Cond.fieldLink RX1 15 "TreadCranes$Crane" "place" "I", Cond.fieldLink RX1 18 "TreadCranes$Crane" "reach" "I", Cond.static yX2_distance, Cond.code yX2_distance cX2_distance 2 (some .int), Cond.methodLink RX2 217 Lib.Math.abs.name, Cond.static Lib.Math.abs.name, Cond.code Lib.Math.abs.name Lib.Math.abs.code 1 (some .int), Cond.methodLink RX2 36 yX2_heightOf, Cond.instanceMethod yX2_heightOf, Cond.selects RX2 yX2_heightOf yX2_heightOf, Cond.code yX2_heightOf cX2_heightOf 3 (some .int), Cond.fieldLink RX2 222 "TreadCranes$Barrel" "level" "I", Cond.methodLink RX2 111 yX2_highestBetween, Cond.instanceMethod yX2_highestBetween, Cond.selects RX2 yX2_highestBetween yX2_highestBetween, Cond.code yX2_highestBetween cX2_highestBetween 5 (some .int), Cond.methodLink RX2 225 Lib.Math.min.name, Cond.static Lib.Math.min.name, Cond.code Lib.Math.min.name Lib.Math.min.code 2 (some .int)]
def wsX2_move_r5 : List Cond := [Cond.methodLink RX2 234 yX1_ticksToWind, Cond.instanceMethod yX1_ticksToWind, Cond.selects RX1 yX1_ticksToWind yX1_ticksToWind, Cond.code yX1_ticksToWind cX1_ticksToWind 2 (some .int), Cond.methodLink RX2 237 yX1_wornAfterLowering, Cond.instanceMethod yX1_wornAfterLowering, Cond.selects RX1 yX1_wornAfterLowering yX1_wornAfterLowering, Cond.code yX1_wornAfterLowering cX1_wornAfterLowering 3 (some .int), Cond.fieldLink RX1 42 "TreadCranes$Crane" "worn" "I", Cond.static yX2_wearInATick, Cond.code yX2_wearInATick cX2_wearInATick 1 (some .int), Cond.methodLink RX2 120 yX2_distance]
def wsX2_move : List Cond := .code yX2_move cX2_move 4 (some .int) :: ((wsX2_move_r1 ++ (wsX2_move_r2 ++ (wsX2_move_r3 ++ (wsX2_move_r4 ++ wsX2_move_r5)))) ++ wsX20 ++ wsJx4a65c0 ++ wsX00 ++ wsX10 ++ (vx_atS RX2 175 "java/lang/IndexOutOfBoundsException" ["java/lang/RuntimeException", "java/lang/Exception"]).filter goodWord)
def wsX2_best_r1 : List Cond := [Cond.fieldLink RX2 22 "TreadCranes" "cranes" "Ljava/util/ArrayList;", Cond.classLink RX2 81 "TreadCranes$Crane", Cond.methodLink RX2 25 yX2_requirePlace, Cond.static yX2_requirePlace, Cond.initialized RX2, Cond.code yX2_requirePlace cX2_requirePlace 1 none, Cond.classLink RX2 171 "java/lang/IndexOutOfBoundsException", Cond.initialized "java/lang/IndexOutOfBoundsException", Cond.methodLink RX2 204 yX2_isPlace, Cond.static yX2_isPlace, Cond.code yX2_isPlace cX2_isPlace 1 (some .boolean), Cond.methodLink RX2 68 yX2_isBetween, Cond.static yX2_isBetween, Cond.code yX2_isBetween cX2_isBetween 3 (some .boolean), Cond.methodLink RX2 32 yJx4a65c_size_8abf5, Cond.instanceMethod yJx4a65c_size_8abf5, Cond.selects RJx4a65c yJx4a65c_size_8abf5 yJx4a65c_size_8abf5, Cond.initialized RJx4a65c, Cond.code yJx4a65c_size_8abf5 cJx4a65c_size_8abf5 1 (some .int), Cond.fieldLink RJx4a65c 48 "java/util/ArrayList" "size" "I", Cond.methodLink RX2 89 yJx4a65c_get_915e3, Cond.instanceMethod yJx4a65c_get_915e3, Cond.selects RJx4a65c yJx4a65c_get_915e3 yJx4a65c_get_915e3, Cond.code yJx4a65c_get_915e3 cJx4a65c_get_915e3 2 (some (.object "java/lang/Object"))]
def wsX2_best_r2 : List Cond := [Cond.methodLink RJx4a65c 118 yJ15_checkIndex_7cf53, Cond.static yJ15_checkIndex_7cf53, Cond.initialized RJ15, Cond.code yJ15_checkIndex_7cf53 cJ15_checkIndex_7cf53 2 (some .int), Cond.methodLink RJ15 105 yJ3_checkIndex_8e157, Cond.static yJ3_checkIndex_8e157, Cond.initialized RJ3, Cond.code yJ3_checkIndex_8e157 cJ3_checkIndex_8e157 3 (some .int), Cond.methodLink RJx4a65c 123 yJx4a65c_elementData_915e3, Cond.instanceMethod yJx4a65c_elementData_915e3, Cond.selects RJx4a65c yJx4a65c_elementData_915e3 yJx4a65c_elementData_915e3, Cond.code yJx4a65c_elementData_915e3 cJx4a65c_elementData_915e3 2 (some (.object "java/lang/Object")), Cond.fieldLink RJx4a65c 9 "java/util/ArrayList" "elementData" "[Ljava/lang/Object;", Cond.methodLink RX2 186 yX2_ticksToMove, Cond.instanceMethod yX2_ticksToMove, Cond.selects RX2 yX2_ticksToMove yX2_ticksToMove, Cond.code yX2_ticksToMove cX2_ticksToMove 11 (some .int), Cond.fieldLink RX2 134 "TreadCranes$Barrel" "weight" "I", Cond.fieldLink RX2 105 "TreadCranes$Crane" "hookHeight" "I", Cond.fieldLink RX2 108 "TreadCranes$Crane" "hookPlace" "I", Cond.methodLink RX2 228 Lib.Math.max.name, Cond.static Lib.Math.max.name, Cond.initialized "java/lang/Math", Cond.code Lib.Math.max.name Lib.Math.max.code 2 (some .int)]
def wsX2_best_r3 : List Cond := [Cond.methodLink RX2 149 yX2_uppermostAt, Cond.instanceMethod yX2_uppermostAt, Cond.selects RX2 yX2_uppermostAt yX2_uppermostAt, Cond.code yX2_uppermostAt cX2_uppermostAt 2 (some (.object "TreadCranes$Barrel")), Cond.fieldLink RX2 11 "TreadCranes" "uppermost" "[LTreadCranes$Barrel;", Cond.methodLink RX2 137 yX1_canLift, Cond.instanceMethod yX1_canLift, Cond.selects RX1 yX1_canLift yX1_canLift, Cond.initialized RX1, Cond.code yX1_canLift cX1_canLift 2 (some .boolean), Cond.methodLink RX1 30 yX1_strength, Cond.instanceMethod yX1_strength, Cond.selects RX1 yX1_strength yX1_strength, Cond.code yX1_strength cX1_strength 1 (some .int), Cond.fieldLink RX1 21 "TreadCranes$Crane" "drum" "I", Cond.fieldLink RX1 24 "TreadCranes$Crane" "walkers" "I", Cond.methodLink RX2 244 yX2_isFreeToMove, Cond.instanceMethod yX2_isFreeToMove, Cond.selects RX2 yX2_isFreeToMove yX2_isFreeToMove, Cond.code yX2_isFreeToMove cX2_isFreeToMove 4 (some .boolean), Cond.fieldLink RX2 130 "TreadCranes$Crane" "load" "LTreadCranes$Barrel;", Cond.methodLink RX2 99 yX1_reaches, Cond.instanceMethod yX1_reaches, Cond.selects RX1 yX1_reaches yX1_reaches]
def wsX2_best_r4 : List Cond := [Cond.code yX1_reaches cX1_reaches 2 (some .boolean), Cond.fieldLink RX1 15 "TreadCranes$Crane" "place" "I", Cond.fieldLink RX1 18 "TreadCranes$Crane" "reach" "I", Cond.static yX2_distance, Cond.code yX2_distance cX2_distance 2 (some .int), Cond.methodLink RX2 217 Lib.Math.abs.name, Cond.static Lib.Math.abs.name, Cond.code Lib.Math.abs.name Lib.Math.abs.code 1 (some .int), Cond.methodLink RX2 36 yX2_heightOf, Cond.instanceMethod yX2_heightOf, Cond.selects RX2 yX2_heightOf yX2_heightOf, Cond.code yX2_heightOf cX2_heightOf 3 (some .int), Cond.fieldLink RX2 222 "TreadCranes$Barrel" "level" "I", Cond.methodLink RX2 111 yX2_highestBetween, Cond.instanceMethod yX2_highestBetween, Cond.selects RX2 yX2_highestBetween yX2_highestBetween, Cond.code yX2_highestBetween cX2_highestBetween 5 (some .int), Cond.methodLink RX2 225 Lib.Math.min.name, Cond.static Lib.Math.min.name, Cond.code Lib.Math.min.name Lib.Math.min.code 2 (some .int), Cond.methodLink RX2 234 yX1_ticksToWind, Cond.instanceMethod yX1_ticksToWind, Cond.selects RX1 yX1_ticksToWind yX1_ticksToWind, Cond.code yX1_ticksToWind cX1_ticksToWind 2 (some .int)]
def wsX2_best_r5 : List Cond := [Cond.methodLink RX2 237 yX1_wornAfterLowering, Cond.instanceMethod yX1_wornAfterLowering, Cond.selects RX1 yX1_wornAfterLowering yX1_wornAfterLowering, Cond.code yX1_wornAfterLowering cX1_wornAfterLowering 3 (some .int), Cond.fieldLink RX1 42 "TreadCranes$Crane" "worn" "I", Cond.static yX2_wearInATick, Cond.code yX2_wearInATick cX2_wearInATick 1 (some .int), Cond.methodLink RX2 120 yX2_distance]
def wsX2_best : List Cond := .code yX2_best cX2_best 7 (some .int) :: ((wsX2_best_r1 ++ (wsX2_best_r2 ++ (wsX2_best_r3 ++ (wsX2_best_r4 ++ wsX2_best_r5)))) ++ wsX20 ++ wsJx4a65c0 ++ wsX00 ++ wsX10 ++ (vx_atS RX2 175 "java/lang/IndexOutOfBoundsException" ["java/lang/RuntimeException", "java/lang/Exception"]).filter goodWord)
def wsX2_lasts_r1 : List Cond := [Cond.fieldLink RX2 22 "TreadCranes" "cranes" "Ljava/util/ArrayList;", Cond.classLink RX2 81 "TreadCranes$Crane", Cond.fieldLink RX2 96 "TreadCranes$Crane" "worn" "I", Cond.methodLink RX2 86 yX2_requireCrane, Cond.instanceMethod yX2_requireCrane, Cond.selects RX2 yX2_requireCrane yX2_requireCrane, Cond.initialized RX2, Cond.code yX2_requireCrane cX2_requireCrane 2 none, Cond.classLink RX2 171 "java/lang/IndexOutOfBoundsException", Cond.initialized "java/lang/IndexOutOfBoundsException", Cond.methodLink RX2 32 yJx4a65c_size_8abf5, Cond.instanceMethod yJx4a65c_size_8abf5, Cond.selects RJx4a65c yJx4a65c_size_8abf5 yJx4a65c_size_8abf5, Cond.initialized RJx4a65c, Cond.code yJx4a65c_size_8abf5 cJx4a65c_size_8abf5 1 (some .int), Cond.fieldLink RJx4a65c 48 "java/util/ArrayList" "size" "I", Cond.methodLink RX2 68 yX2_isBetween, Cond.static yX2_isBetween, Cond.code yX2_isBetween cX2_isBetween 3 (some .boolean), Cond.methodLink RX2 29 yX2_requireWeight, Cond.static yX2_requireWeight, Cond.code yX2_requireWeight cX2_requireWeight 1 none, Cond.classLink RX2 71 "java/lang/IllegalArgumentException", Cond.initialized "java/lang/IllegalArgumentException"]
def wsX2_lasts_r2 : List Cond := [Cond.methodLink RX2 190 yX2_wearInATick, Cond.static yX2_wearInATick, Cond.code yX2_wearInATick cX2_wearInATick 1 (some .int), Cond.methodLink RX2 89 yJx4a65c_get_915e3, Cond.instanceMethod yJx4a65c_get_915e3, Cond.selects RJx4a65c yJx4a65c_get_915e3 yJx4a65c_get_915e3, Cond.code yJx4a65c_get_915e3 cJx4a65c_get_915e3 2 (some (.object "java/lang/Object")), Cond.methodLink RJx4a65c 118 yJ15_checkIndex_7cf53, Cond.static yJ15_checkIndex_7cf53, Cond.initialized RJ15, Cond.code yJ15_checkIndex_7cf53 cJ15_checkIndex_7cf53 2 (some .int), Cond.methodLink RJ15 105 yJ3_checkIndex_8e157, Cond.static yJ3_checkIndex_8e157, Cond.initialized RJ3, Cond.code yJ3_checkIndex_8e157 cJ3_checkIndex_8e157 3 (some .int), Cond.methodLink RJx4a65c 123 yJx4a65c_elementData_915e3, Cond.instanceMethod yJx4a65c_elementData_915e3, Cond.selects RJx4a65c yJx4a65c_elementData_915e3 yJx4a65c_elementData_915e3, Cond.code yJx4a65c_elementData_915e3 cJx4a65c_elementData_915e3 2 (some (.object "java/lang/Object")), Cond.fieldLink RJx4a65c 9 "java/util/ArrayList" "elementData" "[Ljava/lang/Object;"]
def wsX2_lasts : List Cond := .code yX2_lasts cX2_lasts 4 (some .int) :: ((wsX2_lasts_r1 ++ wsX2_lasts_r2) ++ wsX20 ++ wsX10 ++ wsJx4a65c0 ++ (vx_atS RX2 175 "java/lang/IndexOutOfBoundsException" ["java/lang/RuntimeException", "java/lang/Exception"]).filter goodWord ++ (vx_atS RX2 75 "java/lang/IllegalArgumentException" ["java/lang/RuntimeException", "java/lang/Exception"]).filter goodWord)
def wsX2_within_r1 : List Cond := [Cond.fieldLink RX2 22 "TreadCranes" "cranes" "Ljava/util/ArrayList;", Cond.classLink RX2 81 "TreadCranes$Crane", Cond.fieldLink RX2 18 "TreadCranes" "barrels" "Ljava/util/ArrayList;", Cond.classLink RX2 9 "TreadCranes$Barrel", Cond.fieldLink RX2 193 "TreadCranes$Barrel" "place" "I", Cond.fieldLink RX2 134 "TreadCranes$Barrel" "weight" "I", Cond.methodLink RX2 86 yX2_requireCrane, Cond.instanceMethod yX2_requireCrane, Cond.selects RX2 yX2_requireCrane yX2_requireCrane, Cond.initialized RX2, Cond.code yX2_requireCrane cX2_requireCrane 2 none, Cond.classLink RX2 171 "java/lang/IndexOutOfBoundsException", Cond.initialized "java/lang/IndexOutOfBoundsException", Cond.methodLink RX2 32 yJx4a65c_size_8abf5, Cond.instanceMethod yJx4a65c_size_8abf5, Cond.selects RJx4a65c yJx4a65c_size_8abf5 yJx4a65c_size_8abf5, Cond.initialized RJx4a65c, Cond.code yJx4a65c_size_8abf5 cJx4a65c_size_8abf5 1 (some .int), Cond.fieldLink RJx4a65c 48 "java/util/ArrayList" "size" "I", Cond.methodLink RX2 68 yX2_isBetween, Cond.static yX2_isBetween, Cond.code yX2_isBetween cX2_isBetween 3 (some .boolean), Cond.methodLink RX2 89 yJx4a65c_get_915e3, Cond.instanceMethod yJx4a65c_get_915e3]
def wsX2_within_r2 : List Cond := [Cond.selects RJx4a65c yJx4a65c_get_915e3 yJx4a65c_get_915e3, Cond.code yJx4a65c_get_915e3 cJx4a65c_get_915e3 2 (some (.object "java/lang/Object")), Cond.methodLink RJx4a65c 118 yJ15_checkIndex_7cf53, Cond.static yJ15_checkIndex_7cf53, Cond.initialized RJ15, Cond.code yJ15_checkIndex_7cf53 cJ15_checkIndex_7cf53 2 (some .int), Cond.methodLink RJ15 105 yJ3_checkIndex_8e157, Cond.static yJ3_checkIndex_8e157, Cond.initialized RJ3, Cond.code yJ3_checkIndex_8e157 cJ3_checkIndex_8e157 3 (some .int), Cond.methodLink RJx4a65c 123 yJx4a65c_elementData_915e3, Cond.instanceMethod yJx4a65c_elementData_915e3, Cond.selects RJx4a65c yJx4a65c_elementData_915e3 yJx4a65c_elementData_915e3, Cond.code yJx4a65c_elementData_915e3 cJx4a65c_elementData_915e3 2 (some (.object "java/lang/Object")), Cond.fieldLink RJx4a65c 9 "java/util/ArrayList" "elementData" "[Ljava/lang/Object;", Cond.methodLink RX2 99 yX1_reaches, Cond.instanceMethod yX1_reaches, Cond.selects RX1 yX1_reaches yX1_reaches, Cond.initialized RX1, Cond.code yX1_reaches cX1_reaches 2 (some .boolean), Cond.fieldLink RX1 15 "TreadCranes$Crane" "place" "I", Cond.fieldLink RX1 18 "TreadCranes$Crane" "reach" "I", Cond.static yX2_distance, Cond.code yX2_distance cX2_distance 2 (some .int)]
def wsX2_within_r3 : List Cond := [Cond.methodLink RX2 217 Lib.Math.abs.name, Cond.static Lib.Math.abs.name, Cond.initialized "java/lang/Math", Cond.code Lib.Math.abs.name Lib.Math.abs.code 1 (some .int), Cond.methodLink RX2 137 yX1_canLift, Cond.instanceMethod yX1_canLift, Cond.selects RX1 yX1_canLift yX1_canLift, Cond.code yX1_canLift cX1_canLift 2 (some .boolean), Cond.methodLink RX1 30 yX1_strength, Cond.instanceMethod yX1_strength, Cond.selects RX1 yX1_strength yX1_strength, Cond.code yX1_strength cX1_strength 1 (some .int), Cond.fieldLink RX1 21 "TreadCranes$Crane" "drum" "I", Cond.fieldLink RX1 24 "TreadCranes$Crane" "walkers" "I"]
def wsX2_within : List Cond := .code yX2_within cX2_within 6 (some .int) :: ((wsX2_within_r1 ++ (wsX2_within_r2 ++ wsX2_within_r3)) ++ wsX20 ++ wsX00 ++ wsJx4a65c0 ++ wsX10 ++ (vx_atS RX2 175 "java/lang/IndexOutOfBoundsException" ["java/lang/RuntimeException", "java/lang/Exception"]).filter goodWord)
def wsX2_mean_r1 : List Cond := [Cond.fieldLink RX2 18 "TreadCranes" "barrels" "Ljava/util/ArrayList;", Cond.classLink RX2 9 "TreadCranes$Barrel", Cond.fieldLink RX2 196 "TreadCranes$Barrel" "broken" "Z", Cond.fieldLink RX2 134 "TreadCranes$Barrel" "weight" "I", Cond.methodLink RX2 32 yJx4a65c_size_8abf5, Cond.instanceMethod yJx4a65c_size_8abf5, Cond.selects RJx4a65c yJx4a65c_size_8abf5 yJx4a65c_size_8abf5, Cond.initialized RJx4a65c, Cond.code yJx4a65c_size_8abf5 cJx4a65c_size_8abf5 1 (some .int), Cond.fieldLink RJx4a65c 48 "java/util/ArrayList" "size" "I", Cond.methodLink RX2 89 yJx4a65c_get_915e3, Cond.instanceMethod yJx4a65c_get_915e3, Cond.selects RJx4a65c yJx4a65c_get_915e3 yJx4a65c_get_915e3, Cond.code yJx4a65c_get_915e3 cJx4a65c_get_915e3 2 (some (.object "java/lang/Object")), Cond.methodLink RJx4a65c 118 yJ15_checkIndex_7cf53, Cond.static yJ15_checkIndex_7cf53, Cond.initialized RJ15, Cond.code yJ15_checkIndex_7cf53 cJ15_checkIndex_7cf53 2 (some .int), Cond.methodLink RJ15 105 yJ3_checkIndex_8e157, Cond.static yJ3_checkIndex_8e157, Cond.initialized RJ3, Cond.code yJ3_checkIndex_8e157 cJ3_checkIndex_8e157 3 (some .int), Cond.methodLink RJx4a65c 123 yJx4a65c_elementData_915e3, Cond.instanceMethod yJx4a65c_elementData_915e3]
def wsX2_mean_r2 : List Cond := [Cond.selects RJx4a65c yJx4a65c_elementData_915e3 yJx4a65c_elementData_915e3, Cond.code yJx4a65c_elementData_915e3 cJx4a65c_elementData_915e3 2 (some (.object "java/lang/Object")), Cond.fieldLink RJx4a65c 9 "java/util/ArrayList" "elementData" "[Ljava/lang/Object;"]
def wsX2_mean : List Cond := .code yX2_mean cX2_mean 5 (some .double) :: ((wsX2_mean_r1 ++ wsX2_mean_r2) ++ wsX20 ++ wsX00 ++ wsJx4a65c0)
def wsX2_digest_r1 : List Cond := [Cond.constantLong RX2 200 (1151), Cond.constantLong RX2 202 (31), Cond.fieldLink RX2 18 "TreadCranes" "barrels" "Ljava/util/ArrayList;", Cond.classLink RX2 9 "TreadCranes$Barrel", Cond.fieldLink RX2 22 "TreadCranes" "cranes" "Ljava/util/ArrayList;", Cond.classLink RX2 81 "TreadCranes$Crane", Cond.methodLink RX2 183 yX2_countAnswer, Cond.instanceMethod yX2_countAnswer, Cond.selects RX2 yX2_countAnswer yX2_countAnswer, Cond.initialized RX2, Cond.code yX2_countAnswer cX2_countAnswer 2 (some .int), Cond.fieldLink RX2 123 "TreadCranes" "ticks" "I", Cond.methodLink RX2 32 yJx4a65c_size_8abf5, Cond.instanceMethod yJx4a65c_size_8abf5, Cond.selects RJx4a65c yJx4a65c_size_8abf5 yJx4a65c_size_8abf5, Cond.initialized RJx4a65c, Cond.code yJx4a65c_size_8abf5 cJx4a65c_size_8abf5 1 (some .int), Cond.fieldLink RJx4a65c 48 "java/util/ArrayList" "size" "I", Cond.methodLink RX2 268 yX2_standing, Cond.instanceMethod yX2_standing, Cond.selects RX2 yX2_standing yX2_standing, Cond.code yX2_standing cX2_standing 3 (some .int), Cond.methodLink RX2 36 yX2_heightOf, Cond.instanceMethod yX2_heightOf]
def wsX2_digest_r2 : List Cond := [Cond.selects RX2 yX2_heightOf yX2_heightOf, Cond.code yX2_heightOf cX2_heightOf 3 (some .int), Cond.fieldLink RX2 222 "TreadCranes$Barrel" "level" "I", Cond.methodLink RX2 149 yX2_uppermostAt, Cond.instanceMethod yX2_uppermostAt, Cond.selects RX2 yX2_uppermostAt yX2_uppermostAt, Cond.code yX2_uppermostAt cX2_uppermostAt 2 (some (.object "TreadCranes$Barrel")), Cond.fieldLink RX2 11 "TreadCranes" "uppermost" "[LTreadCranes$Barrel;", Cond.methodLink RX2 204 yX2_isPlace, Cond.static yX2_isPlace, Cond.code yX2_isPlace cX2_isPlace 1 (some .boolean), Cond.methodLink RX2 68 yX2_isBetween, Cond.static yX2_isBetween, Cond.code yX2_isBetween cX2_isBetween 3 (some .boolean), Cond.methodLink RX2 271 yX2_hanging, Cond.instanceMethod yX2_hanging, Cond.selects RX2 yX2_hanging yX2_hanging, Cond.code yX2_hanging cX2_hanging 3 (some .int), Cond.fieldLink RX2 130 "TreadCranes$Crane" "load" "LTreadCranes$Barrel;", Cond.methodLink RX2 89 yJx4a65c_get_915e3, Cond.instanceMethod yJx4a65c_get_915e3, Cond.selects RJx4a65c yJx4a65c_get_915e3 yJx4a65c_get_915e3, Cond.code yJx4a65c_get_915e3 cJx4a65c_get_915e3 2 (some (.object "java/lang/Object")), Cond.methodLink RJx4a65c 118 yJ15_checkIndex_7cf53]
def wsX2_digest_r3 : List Cond := [Cond.static yJ15_checkIndex_7cf53, Cond.initialized RJ15, Cond.code yJ15_checkIndex_7cf53 cJ15_checkIndex_7cf53 2 (some .int), Cond.methodLink RJ15 105 yJ3_checkIndex_8e157, Cond.static yJ3_checkIndex_8e157, Cond.initialized RJ3, Cond.code yJ3_checkIndex_8e157 cJ3_checkIndex_8e157 3 (some .int), Cond.methodLink RJx4a65c 123 yJx4a65c_elementData_915e3, Cond.instanceMethod yJx4a65c_elementData_915e3, Cond.selects RJx4a65c yJx4a65c_elementData_915e3 yJx4a65c_elementData_915e3, Cond.code yJx4a65c_elementData_915e3 cJx4a65c_elementData_915e3 2 (some (.object "java/lang/Object")), Cond.fieldLink RJx4a65c 9 "java/util/ArrayList" "elementData" "[Ljava/lang/Object;", Cond.methodLink RX2 111 yX2_highestBetween, Cond.instanceMethod yX2_highestBetween, Cond.selects RX2 yX2_highestBetween yX2_highestBetween, Cond.code yX2_highestBetween cX2_highestBetween 5 (some .int), Cond.methodLink RX2 225 Lib.Math.min.name, Cond.static Lib.Math.min.name, Cond.initialized "java/lang/Math", Cond.code Lib.Math.min.name Lib.Math.min.code 2 (some .int), Cond.methodLink RX2 228 Lib.Math.max.name, Cond.static Lib.Math.max.name, Cond.code Lib.Math.max.name Lib.Math.max.code 2 (some .int), Cond.methodLink RX2 168 yX2_placeAnswer]
def wsX2_digest_r4 : List Cond := [Cond.instanceMethod yX2_placeAnswer, Cond.selects RX2 yX2_placeAnswer yX2_placeAnswer, Cond.code yX2_placeAnswer cX2_placeAnswer 3 (some .int), Cond.methodLink RX2 248 yX2_numberOf, Cond.static yX2_numberOf, Cond.code yX2_numberOf cX2_numberOf 1 (some .int), Cond.fieldLink RX2 64 "TreadCranes$Barrel" "number" "I", Cond.methodLink RX2 252 yX2_weightsAt, Cond.instanceMethod yX2_weightsAt, Cond.selects RX2 yX2_weightsAt yX2_weightsAt, Cond.code yX2_weightsAt cX2_weightsAt 4 (some .int), Cond.fieldLink RX2 134 "TreadCranes$Barrel" "weight" "I", Cond.fieldLink RX2 231 "TreadCranes$Barrel" "below" "LTreadCranes$Barrel;", Cond.methodLink RX2 255 yX2_hooksOver, Cond.instanceMethod yX2_hooksOver, Cond.selects RX2 yX2_hooksOver yX2_hooksOver, Cond.code yX2_hooksOver cX2_hooksOver 4 (some .int), Cond.fieldLink RX2 108 "TreadCranes$Crane" "hookPlace" "I", Cond.methodLink RX2 176 yX2_barrelAnswer, Cond.instanceMethod yX2_barrelAnswer, Cond.selects RX2 yX2_barrelAnswer yX2_barrelAnswer, Cond.code yX2_barrelAnswer cX2_barrelAnswer 3 (some .int), Cond.fieldLink RX2 193 "TreadCranes$Barrel" "place" "I", Cond.fieldLink RX2 158 "TreadCranes$Barrel" "crane" "I"]
def wsX2_digest_r5 : List Cond := [Cond.fieldLink RX2 196 "TreadCranes$Barrel" "broken" "Z", Cond.methodLink RX2 180 yX2_craneAnswer, Cond.static yX2_craneAnswer, Cond.code yX2_craneAnswer cX2_craneAnswer 2 (some .int), Cond.fieldLink RX2 258 "TreadCranes$Crane" "place" "I", Cond.fieldLink RX2 259 "TreadCranes$Crane" "reach" "I", Cond.fieldLink RX2 262 "TreadCranes$Crane" "drum" "I", Cond.fieldLink RX2 93 "TreadCranes$Crane" "walkers" "I", Cond.fieldLink RX2 96 "TreadCranes$Crane" "worn" "I", Cond.fieldLink RX2 105 "TreadCranes$Crane" "hookHeight" "I", Cond.methodLink RX2 265 yX1_strength, Cond.instanceMethod yX1_strength, Cond.selects RX1 yX1_strength yX1_strength, Cond.initialized RX1, Cond.code yX1_strength cX1_strength 1 (some .int), Cond.fieldLink RX1 21 "TreadCranes$Crane" "drum" "I", Cond.fieldLink RX1 24 "TreadCranes$Crane" "walkers" "I"]
def wsX2_digest : List Cond := .code yX2_digest cX2_digest 5 (some .long) :: ((wsX2_digest_r1 ++ (wsX2_digest_r2 ++ (wsX2_digest_r3 ++ (wsX2_digest_r4 ++ wsX2_digest_r5)))) ++ wsX20 ++ wsJx4a65c0 ++ wsX00 ++ wsX10)
def wsX3_init : List Cond := .code yX3_init cX3_init 1 none :: ([.methodLink RX3 1 objectInit, .instanceMethod objectInit, .code objectInit ⟨#[0xb1]⟩ 1 none, .arrayClass .int, .fieldLink RX3 9 "TreadCranesModel" "weight" "[I", .fieldLink RX3 13 "TreadCranesModel" "at" "[I", .fieldLink RX3 16 "TreadCranesModel" "below" "[I", .fieldLink RX3 19 "TreadCranesModel" "post" "[I", .fieldLink RX3 22 "TreadCranesModel" "reach" "[I", .fieldLink RX3 25 "TreadCranesModel" "drum" "[I", .fieldLink RX3 28 "TreadCranesModel" "walkers" "[I", .fieldLink RX3 31 "TreadCranesModel" "worn" "[I", .fieldLink RX3 34 "TreadCranesModel" "hook" "[I", .fieldLink RX3 37 "TreadCranesModel" "height" "[I", .fieldLink RX3 40 "TreadCranesModel" "load" "[I"] ++ wsX30)
def wsX3_thrown : List Cond := .code yX3_thrown cX3_thrown 1 (some .int) :: ([.fieldLink RX3 43 "TreadCranesModel" "thrown" "I"] ++ wsX30)
def wsX3_no : List Cond := .code yX3_no cX3_no 2 (some .int) :: ([.fieldLink RX3 43 "TreadCranesModel" "thrown" "I"] ++ wsX30)
def wsX3_isIn : List Cond := .code yX3_isIn cX3_isIn 3 (some .boolean) :: ([])
def wsX3_isPlace : List Cond := .code yX3_isPlace cX3_isPlace 1 (some .boolean) :: ([.methodLink RX3 47 yX3_isIn, .static yX3_isIn, .initialized RX3, .code yX3_isIn cX3_isIn 3 (some .boolean)])
def wsX3_isCrane : List Cond := .code yX3_isCrane cX3_isCrane 2 (some .boolean) :: ([.fieldLink RX3 51 "TreadCranesModel" "cranes" "I", .methodLink RX3 47 yX3_isIn, .static yX3_isIn, .initialized RX3, .code yX3_isIn cX3_isIn 3 (some .boolean)] ++ wsX30)
def wsX3_high : List Cond := .code yX3_high cX3_high 4 (some .int) :: ([.fieldLink RX3 54 "TreadCranesModel" "barrels" "I", .fieldLink RX3 13 "TreadCranesModel" "at" "[I"] ++ wsX30)
def wsX3_top : List Cond := .code yX3_top cX3_top 3 (some .int) :: ([.fieldLink RX3 54 "TreadCranesModel" "barrels" "I", .fieldLink RX3 13 "TreadCranesModel" "at" "[I", .fieldLink RX3 16 "TreadCranesModel" "below" "[I", .methodLink RX3 57 yX3_high, .instanceMethod yX3_high, .selects RX3 yX3_high yX3_high, .initialized RX3, .code yX3_high cX3_high 4 (some .int)] ++ wsX30)
def wsX3_loaded : List Cond := .code yX3_loaded cX3_loaded 2 (some .int) :: ([.fieldLink RX3 40 "TreadCranesModel" "load" "[I"] ++ wsX30)
def wsX3_strength : List Cond := .code yX3_strength cX3_strength 2 (some .int) :: ([.fieldLink RX3 28 "TreadCranesModel" "walkers" "[I", .fieldLink RX3 25 "TreadCranesModel" "drum" "[I"] ++ wsX30)
def wsX3_wound : List Cond := .code yX3_wound cX3_wound 3 (some .int) :: ([.fieldLink RX3 25 "TreadCranesModel" "drum" "[I"] ++ wsX30)
def wsX3_isInReach : List Cond := .code yX3_isInReach cX3_isInReach 3 (some .boolean) :: ([.fieldLink RX3 19 "TreadCranesModel" "post" "[I", .methodLink RX3 61 Lib.Math.abs.name, .static Lib.Math.abs.name, .initialized "java/lang/Math", .code Lib.Math.abs.name Lib.Math.abs.code 1 (some .int), .fieldLink RX3 22 "TreadCranesModel" "reach" "[I"] ++ wsX30)
def wsX3_isTooLow : List Cond := .code yX3_isTooLow cX3_isTooLow 5 (some .boolean) :: ([.fieldLink RX3 51 "TreadCranesModel" "cranes" "I", .fieldLink RX3 34 "TreadCranesModel" "hook" "[I", .fieldLink RX3 37 "TreadCranesModel" "height" "[I", .methodLink RX3 66 yX3_loaded, .instanceMethod yX3_loaded, .selects RX3 yX3_loaded yX3_loaded, .initialized RX3, .code yX3_loaded cX3_loaded 2 (some .int), .fieldLink RX3 40 "TreadCranesModel" "load" "[I"] ++ wsX30)
def wsX3_highest : List Cond := .code yX3_highest cX3_highest 6 (some .int) :: ([.methodLink RX3 69 Lib.Math.min.name, .static Lib.Math.min.name, .initialized "java/lang/Math", .code Lib.Math.min.name Lib.Math.min.code 2 (some .int), .methodLink RX3 73 Lib.Math.max.name, .static Lib.Math.max.name, .code Lib.Math.max.name Lib.Math.max.code 2 (some .int), .methodLink RX3 57 yX3_high, .instanceMethod yX3_high, .selects RX3 yX3_high yX3_high, .initialized RX3, .code yX3_high cX3_high 4 (some .int), .fieldLink RX3 54 "TreadCranesModel" "barrels" "I", .fieldLink RX3 13 "TreadCranesModel" "at" "[I"] ++ wsX30)
def wsX3_land_r1 : List Cond := [Cond.fieldLink RX3 43 "TreadCranesModel" "thrown" "I", Cond.fieldLink RX3 54 "TreadCranesModel" "barrels" "I", Cond.fieldLink RX3 9 "TreadCranesModel" "weight" "[I", Cond.fieldLink RX3 13 "TreadCranesModel" "at" "[I", Cond.fieldLink RX3 16 "TreadCranesModel" "below" "[I", Cond.methodLink RX3 76 yX3_isPlace, Cond.static yX3_isPlace, Cond.initialized RX3, Cond.code yX3_isPlace cX3_isPlace 1 (some .boolean), Cond.methodLink RX3 47 yX3_isIn, Cond.static yX3_isIn, Cond.code yX3_isIn cX3_isIn 3 (some .boolean), Cond.methodLink RX3 80 yX3_no, Cond.instanceMethod yX3_no, Cond.selects RX3 yX3_no yX3_no, Cond.code yX3_no cX3_no 2 (some .int), Cond.methodLink RX3 57 yX3_high, Cond.instanceMethod yX3_high, Cond.selects RX3 yX3_high yX3_high, Cond.code yX3_high cX3_high 4 (some .int), Cond.methodLink RX3 83 yX3_isTooLow, Cond.instanceMethod yX3_isTooLow, Cond.selects RX3 yX3_isTooLow yX3_isTooLow, Cond.code yX3_isTooLow cX3_isTooLow 5 (some .boolean)]
def wsX3_land_r2 : List Cond := [Cond.fieldLink RX3 51 "TreadCranesModel" "cranes" "I", Cond.fieldLink RX3 34 "TreadCranesModel" "hook" "[I", Cond.fieldLink RX3 37 "TreadCranesModel" "height" "[I", Cond.methodLink RX3 66 yX3_loaded, Cond.instanceMethod yX3_loaded, Cond.selects RX3 yX3_loaded yX3_loaded, Cond.code yX3_loaded cX3_loaded 2 (some .int), Cond.fieldLink RX3 40 "TreadCranesModel" "load" "[I"]
def wsX3_land : List Cond := .code yX3_land cX3_land 4 (some .int) :: ((wsX3_land_r1 ++ wsX3_land_r2) ++ wsX30)
def wsX3_build : List Cond := .code yX3_build cX3_build 5 (some .int) :: ([.fieldLink RX3 43 "TreadCranesModel" "thrown" "I", .fieldLink RX3 51 "TreadCranesModel" "cranes" "I", .fieldLink RX3 19 "TreadCranesModel" "post" "[I", .fieldLink RX3 22 "TreadCranesModel" "reach" "[I", .fieldLink RX3 25 "TreadCranesModel" "drum" "[I", .fieldLink RX3 28 "TreadCranesModel" "walkers" "[I", .fieldLink RX3 34 "TreadCranesModel" "hook" "[I", .fieldLink RX3 37 "TreadCranesModel" "height" "[I", .fieldLink RX3 40 "TreadCranesModel" "load" "[I", .methodLink RX3 76 yX3_isPlace, .static yX3_isPlace, .initialized RX3, .code yX3_isPlace cX3_isPlace 1 (some .boolean), .methodLink RX3 47 yX3_isIn, .static yX3_isIn, .code yX3_isIn cX3_isIn 3 (some .boolean), .methodLink RX3 80 yX3_no, .instanceMethod yX3_no, .selects RX3 yX3_no yX3_no, .code yX3_no cX3_no 2 (some .int)] ++ wsX30)
def wsX3_man : List Cond := .code yX3_man cX3_man 4 (some .int) :: ([.fieldLink RX3 43 "TreadCranesModel" "thrown" "I", .fieldLink RX3 28 "TreadCranesModel" "walkers" "[I", .methodLink RX3 86 yX3_isCrane, .instanceMethod yX3_isCrane, .selects RX3 yX3_isCrane yX3_isCrane, .initialized RX3, .code yX3_isCrane cX3_isCrane 2 (some .boolean), .fieldLink RX3 51 "TreadCranesModel" "cranes" "I", .methodLink RX3 47 yX3_isIn, .static yX3_isIn, .code yX3_isIn cX3_isIn 3 (some .boolean), .methodLink RX3 80 yX3_no, .instanceMethod yX3_no, .selects RX3 yX3_no yX3_no, .code yX3_no cX3_no 2 (some .int)] ++ wsX30)
def wsX3_mend : List Cond := .code yX3_mend cX3_mend 3 (some .int) :: ([.fieldLink RX3 43 "TreadCranesModel" "thrown" "I", .fieldLink RX3 31 "TreadCranesModel" "worn" "[I", .methodLink RX3 86 yX3_isCrane, .instanceMethod yX3_isCrane, .selects RX3 yX3_isCrane yX3_isCrane, .initialized RX3, .code yX3_isCrane cX3_isCrane 2 (some .boolean), .fieldLink RX3 51 "TreadCranesModel" "cranes" "I", .methodLink RX3 47 yX3_isIn, .static yX3_isIn, .code yX3_isIn cX3_isIn 3 (some .boolean), .methodLink RX3 80 yX3_no, .instanceMethod yX3_no, .selects RX3 yX3_no yX3_no, .code yX3_no cX3_no 2 (some .int)] ++ wsX30)
def wsX3_turn_r1 : List Cond := [Cond.fieldLink RX3 43 "TreadCranesModel" "thrown" "I", Cond.fieldLink RX3 37 "TreadCranesModel" "height" "[I", Cond.fieldLink RX3 34 "TreadCranesModel" "hook" "[I", Cond.methodLink RX3 61 Lib.Math.abs.name, Cond.static Lib.Math.abs.name, Cond.initialized "java/lang/Math", Cond.code Lib.Math.abs.name Lib.Math.abs.code 1 (some .int), Cond.fieldLink RX3 97 "TreadCranesModel" "ticks" "I", Cond.methodLink RX3 86 yX3_isCrane, Cond.instanceMethod yX3_isCrane, Cond.selects RX3 yX3_isCrane yX3_isCrane, Cond.initialized RX3, Cond.code yX3_isCrane cX3_isCrane 2 (some .boolean), Cond.fieldLink RX3 51 "TreadCranesModel" "cranes" "I", Cond.methodLink RX3 47 yX3_isIn, Cond.static yX3_isIn, Cond.code yX3_isIn cX3_isIn 3 (some .boolean), Cond.methodLink RX3 76 yX3_isPlace, Cond.static yX3_isPlace, Cond.code yX3_isPlace cX3_isPlace 1 (some .boolean), Cond.methodLink RX3 80 yX3_no, Cond.instanceMethod yX3_no, Cond.selects RX3 yX3_no yX3_no, Cond.code yX3_no cX3_no 2 (some .int)]
def wsX3_turn_r2 : List Cond := [Cond.methodLink RX3 89 yX3_isInReach, Cond.instanceMethod yX3_isInReach, Cond.selects RX3 yX3_isInReach yX3_isInReach, Cond.code yX3_isInReach cX3_isInReach 3 (some .boolean), Cond.fieldLink RX3 19 "TreadCranesModel" "post" "[I", Cond.fieldLink RX3 22 "TreadCranesModel" "reach" "[I", Cond.methodLink RX3 93 yX3_highest, Cond.instanceMethod yX3_highest, Cond.selects RX3 yX3_highest yX3_highest, Cond.code yX3_highest cX3_highest 6 (some .int), Cond.methodLink RX3 69 Lib.Math.min.name, Cond.static Lib.Math.min.name, Cond.code Lib.Math.min.name Lib.Math.min.code 2 (some .int), Cond.methodLink RX3 73 Lib.Math.max.name, Cond.static Lib.Math.max.name, Cond.code Lib.Math.max.name Lib.Math.max.code 2 (some .int), Cond.methodLink RX3 57 yX3_high, Cond.instanceMethod yX3_high, Cond.selects RX3 yX3_high yX3_high, Cond.code yX3_high cX3_high 4 (some .int), Cond.fieldLink RX3 54 "TreadCranesModel" "barrels" "I", Cond.fieldLink RX3 13 "TreadCranesModel" "at" "[I", Cond.methodLink RX3 66 yX3_loaded, Cond.instanceMethod yX3_loaded]
def wsX3_turn_r3 : List Cond := [Cond.selects RX3 yX3_loaded yX3_loaded, Cond.code yX3_loaded cX3_loaded 2 (some .int), Cond.fieldLink RX3 40 "TreadCranesModel" "load" "[I"]
def wsX3_turn : List Cond := .code yX3_turn cX3_turn 4 (some .int) :: ((wsX3_turn_r1 ++ (wsX3_turn_r2 ++ wsX3_turn_r3)) ++ wsX30)
def wsX3_canLift : List Cond := .code yX3_canLift cX3_canLift 2 (some .boolean) :: ([.fieldLink RX3 40 "TreadCranesModel" "load" "[I", .fieldLink RX3 9 "TreadCranesModel" "weight" "[I", .methodLink RX3 100 yX3_strength, .instanceMethod yX3_strength, .selects RX3 yX3_strength yX3_strength, .initialized RX3, .code yX3_strength cX3_strength 2 (some .int), .fieldLink RX3 28 "TreadCranesModel" "walkers" "[I", .fieldLink RX3 25 "TreadCranesModel" "drum" "[I"] ++ wsX30)
def wsX3_fall : List Cond := .code yX3_fall cX3_fall 2 (some .int) :: ([.fieldLink RX3 13 "TreadCranesModel" "at" "[I", .fieldLink RX3 40 "TreadCranesModel" "load" "[I", .fieldLink RX3 31 "TreadCranesModel" "worn" "[I"] ++ wsX30)
def wsX3_hoist_r1 : List Cond := [Cond.fieldLink RX3 43 "TreadCranesModel" "thrown" "I", Cond.fieldLink RX3 37 "TreadCranesModel" "height" "[I", Cond.fieldLink RX3 34 "TreadCranesModel" "hook" "[I", Cond.methodLink RX3 61 Lib.Math.abs.name, Cond.static Lib.Math.abs.name, Cond.initialized "java/lang/Math", Cond.code Lib.Math.abs.name Lib.Math.abs.code 1 (some .int), Cond.fieldLink RX3 40 "TreadCranesModel" "load" "[I", Cond.fieldLink RX3 9 "TreadCranesModel" "weight" "[I", Cond.fieldLink RX3 31 "TreadCranesModel" "worn" "[I", Cond.fieldLink RX3 97 "TreadCranesModel" "ticks" "I", Cond.methodLink RX3 86 yX3_isCrane, Cond.instanceMethod yX3_isCrane, Cond.selects RX3 yX3_isCrane yX3_isCrane, Cond.initialized RX3, Cond.code yX3_isCrane cX3_isCrane 2 (some .boolean), Cond.fieldLink RX3 51 "TreadCranesModel" "cranes" "I", Cond.methodLink RX3 47 yX3_isIn, Cond.static yX3_isIn, Cond.code yX3_isIn cX3_isIn 3 (some .boolean), Cond.methodLink RX3 80 yX3_no, Cond.instanceMethod yX3_no, Cond.selects RX3 yX3_no yX3_no, Cond.code yX3_no cX3_no 2 (some .int)]
def wsX3_hoist_r2 : List Cond := [Cond.methodLink RX3 57 yX3_high, Cond.instanceMethod yX3_high, Cond.selects RX3 yX3_high yX3_high, Cond.code yX3_high cX3_high 4 (some .int), Cond.fieldLink RX3 54 "TreadCranesModel" "barrels" "I", Cond.fieldLink RX3 13 "TreadCranesModel" "at" "[I", Cond.methodLink RX3 66 yX3_loaded, Cond.instanceMethod yX3_loaded, Cond.selects RX3 yX3_loaded yX3_loaded, Cond.code yX3_loaded cX3_loaded 2 (some .int), Cond.methodLink RX3 103 yX3_canLift, Cond.instanceMethod yX3_canLift, Cond.selects RX3 yX3_canLift yX3_canLift, Cond.code yX3_canLift cX3_canLift 2 (some .boolean), Cond.methodLink RX3 100 yX3_strength, Cond.instanceMethod yX3_strength, Cond.selects RX3 yX3_strength yX3_strength, Cond.code yX3_strength cX3_strength 2 (some .int), Cond.fieldLink RX3 28 "TreadCranesModel" "walkers" "[I", Cond.fieldLink RX3 25 "TreadCranesModel" "drum" "[I", Cond.methodLink RX3 106 yX3_wound, Cond.instanceMethod yX3_wound, Cond.selects RX3 yX3_wound yX3_wound, Cond.code yX3_wound cX3_wound 3 (some .int)]
def wsX3_hoist_r3 : List Cond := [Cond.methodLink RX3 109 yX3_fall, Cond.instanceMethod yX3_fall, Cond.selects RX3 yX3_fall yX3_fall, Cond.code yX3_fall cX3_fall 2 (some .int)]
def wsX3_hoist : List Cond := .code yX3_hoist cX3_hoist 6 (some .int) :: ((wsX3_hoist_r1 ++ (wsX3_hoist_r2 ++ wsX3_hoist_r3)) ++ wsX30)
def wsX3_take_r1 : List Cond := [Cond.fieldLink RX3 43 "TreadCranesModel" "thrown" "I", Cond.fieldLink RX3 34 "TreadCranesModel" "hook" "[I", Cond.fieldLink RX3 40 "TreadCranesModel" "load" "[I", Cond.fieldLink RX3 37 "TreadCranesModel" "height" "[I", Cond.fieldLink RX3 13 "TreadCranesModel" "at" "[I", Cond.methodLink RX3 86 yX3_isCrane, Cond.instanceMethod yX3_isCrane, Cond.selects RX3 yX3_isCrane yX3_isCrane, Cond.initialized RX3, Cond.code yX3_isCrane cX3_isCrane 2 (some .boolean), Cond.fieldLink RX3 51 "TreadCranesModel" "cranes" "I", Cond.methodLink RX3 47 yX3_isIn, Cond.static yX3_isIn, Cond.code yX3_isIn cX3_isIn 3 (some .boolean), Cond.methodLink RX3 80 yX3_no, Cond.instanceMethod yX3_no, Cond.selects RX3 yX3_no yX3_no, Cond.code yX3_no cX3_no 2 (some .int), Cond.methodLink RX3 57 yX3_high, Cond.instanceMethod yX3_high, Cond.selects RX3 yX3_high yX3_high, Cond.code yX3_high cX3_high 4 (some .int), Cond.fieldLink RX3 54 "TreadCranesModel" "barrels" "I", Cond.methodLink RX3 112 yX3_top]
def wsX3_take_r2 : List Cond := [Cond.instanceMethod yX3_top, Cond.selects RX3 yX3_top yX3_top, Cond.code yX3_top cX3_top 3 (some .int), Cond.fieldLink RX3 16 "TreadCranesModel" "below" "[I"]
def wsX3_take : List Cond := .code yX3_take cX3_take 3 (some .int) :: ((wsX3_take_r1 ++ wsX3_take_r2) ++ wsX30)
def wsX3_lay_r1 : List Cond := [Cond.fieldLink RX3 43 "TreadCranesModel" "thrown" "I", Cond.fieldLink RX3 34 "TreadCranesModel" "hook" "[I", Cond.fieldLink RX3 40 "TreadCranesModel" "load" "[I", Cond.fieldLink RX3 37 "TreadCranesModel" "height" "[I", Cond.fieldLink RX3 13 "TreadCranesModel" "at" "[I", Cond.fieldLink RX3 16 "TreadCranesModel" "below" "[I", Cond.methodLink RX3 86 yX3_isCrane, Cond.instanceMethod yX3_isCrane, Cond.selects RX3 yX3_isCrane yX3_isCrane, Cond.initialized RX3, Cond.code yX3_isCrane cX3_isCrane 2 (some .boolean), Cond.fieldLink RX3 51 "TreadCranesModel" "cranes" "I", Cond.methodLink RX3 47 yX3_isIn, Cond.static yX3_isIn, Cond.code yX3_isIn cX3_isIn 3 (some .boolean), Cond.methodLink RX3 80 yX3_no, Cond.instanceMethod yX3_no, Cond.selects RX3 yX3_no yX3_no, Cond.code yX3_no cX3_no 2 (some .int), Cond.methodLink RX3 57 yX3_high, Cond.instanceMethod yX3_high, Cond.selects RX3 yX3_high yX3_high, Cond.code yX3_high cX3_high 4 (some .int), Cond.fieldLink RX3 54 "TreadCranesModel" "barrels" "I"]
def wsX3_lay_r2 : List Cond := [Cond.methodLink RX3 83 yX3_isTooLow, Cond.instanceMethod yX3_isTooLow, Cond.selects RX3 yX3_isTooLow yX3_isTooLow, Cond.code yX3_isTooLow cX3_isTooLow 5 (some .boolean), Cond.methodLink RX3 66 yX3_loaded, Cond.instanceMethod yX3_loaded, Cond.selects RX3 yX3_loaded yX3_loaded, Cond.code yX3_loaded cX3_loaded 2 (some .int)]
def wsX3_lay : List Cond := .code yX3_lay cX3_lay 3 (some .int) :: ((wsX3_lay_r1 ++ wsX3_lay_r2) ++ wsX30)
def wsX3_placeTold : List Cond := .code yX3_placeTold cX3_placeTold 6 (some .int) :: ([.fieldLink RX3 54 "TreadCranesModel" "barrels" "I", .fieldLink RX3 13 "TreadCranesModel" "at" "[I", .fieldLink RX3 9 "TreadCranesModel" "weight" "[I", .fieldLink RX3 51 "TreadCranesModel" "cranes" "I", .fieldLink RX3 34 "TreadCranesModel" "hook" "[I", .arrayClass .int, .methodLink RX3 57 yX3_high, .instanceMethod yX3_high, .selects RX3 yX3_high yX3_high, .initialized RX3, .code yX3_high cX3_high 4 (some .int), .methodLink RX3 112 yX3_top, .instanceMethod yX3_top, .selects RX3 yX3_top yX3_top, .code yX3_top cX3_top 3 (some .int), .fieldLink RX3 16 "TreadCranesModel" "below" "[I"] ++ wsX30)
def wsX3_place_r1 : List Cond := [Cond.fieldLink RX3 43 "TreadCranesModel" "thrown" "I", Cond.methodLink RX3 76 yX3_isPlace, Cond.static yX3_isPlace, Cond.initialized RX3, Cond.code yX3_isPlace cX3_isPlace 1 (some .boolean), Cond.methodLink RX3 47 yX3_isIn, Cond.static yX3_isIn, Cond.code yX3_isIn cX3_isIn 3 (some .boolean), Cond.methodLink RX3 115 yX3_placeTold, Cond.instanceMethod yX3_placeTold, Cond.selects RX3 yX3_placeTold yX3_placeTold, Cond.code yX3_placeTold cX3_placeTold 6 (some .int), Cond.fieldLink RX3 54 "TreadCranesModel" "barrels" "I", Cond.fieldLink RX3 13 "TreadCranesModel" "at" "[I", Cond.fieldLink RX3 9 "TreadCranesModel" "weight" "[I", Cond.fieldLink RX3 51 "TreadCranesModel" "cranes" "I", Cond.fieldLink RX3 34 "TreadCranesModel" "hook" "[I", Cond.arrayClass .int, Cond.methodLink RX3 57 yX3_high, Cond.instanceMethod yX3_high, Cond.selects RX3 yX3_high yX3_high, Cond.code yX3_high cX3_high 4 (some .int), Cond.methodLink RX3 112 yX3_top, Cond.instanceMethod yX3_top]
def wsX3_place_r2 : List Cond := [Cond.selects RX3 yX3_top yX3_top, Cond.code yX3_top cX3_top 3 (some .int), Cond.fieldLink RX3 16 "TreadCranesModel" "below" "[I", Cond.methodLink RX3 80 yX3_no, Cond.instanceMethod yX3_no, Cond.selects RX3 yX3_no yX3_no, Cond.code yX3_no cX3_no 2 (some .int)]
def wsX3_place : List Cond := .code yX3_place cX3_place 3 (some .int) :: ((wsX3_place_r1 ++ wsX3_place_r2) ++ wsX30)
def wsX3_craneOf : List Cond := .code yX3_craneOf cX3_craneOf 3 (some .int) :: ([.fieldLink RX3 51 "TreadCranesModel" "cranes" "I", .fieldLink RX3 40 "TreadCranesModel" "load" "[I"] ++ wsX30)
def wsX3_barrelTold : List Cond := .code yX3_barrelTold cX3_barrelTold 5 (some .int) :: ([.fieldLink RX3 13 "TreadCranesModel" "at" "[I", .arrayClass .int, .fieldLink RX3 9 "TreadCranesModel" "weight" "[I", .fieldLink RX3 16 "TreadCranesModel" "below" "[I", .methodLink RX3 57 yX3_high, .instanceMethod yX3_high, .selects RX3 yX3_high yX3_high, .initialized RX3, .code yX3_high cX3_high 4 (some .int), .fieldLink RX3 54 "TreadCranesModel" "barrels" "I", .methodLink RX3 118 yX3_craneOf, .instanceMethod yX3_craneOf, .selects RX3 yX3_craneOf yX3_craneOf, .code yX3_craneOf cX3_craneOf 3 (some .int), .fieldLink RX3 51 "TreadCranesModel" "cranes" "I", .fieldLink RX3 40 "TreadCranesModel" "load" "[I"] ++ wsX30)
def wsX3_barrel_r1 : List Cond := [Cond.fieldLink RX3 43 "TreadCranesModel" "thrown" "I", Cond.fieldLink RX3 54 "TreadCranesModel" "barrels" "I", Cond.methodLink RX3 47 yX3_isIn, Cond.static yX3_isIn, Cond.initialized RX3, Cond.code yX3_isIn cX3_isIn 3 (some .boolean), Cond.methodLink RX3 121 yX3_barrelTold, Cond.instanceMethod yX3_barrelTold, Cond.selects RX3 yX3_barrelTold yX3_barrelTold, Cond.code yX3_barrelTold cX3_barrelTold 5 (some .int), Cond.fieldLink RX3 13 "TreadCranesModel" "at" "[I", Cond.arrayClass .int, Cond.fieldLink RX3 9 "TreadCranesModel" "weight" "[I", Cond.fieldLink RX3 16 "TreadCranesModel" "below" "[I", Cond.methodLink RX3 57 yX3_high, Cond.instanceMethod yX3_high, Cond.selects RX3 yX3_high yX3_high, Cond.code yX3_high cX3_high 4 (some .int), Cond.methodLink RX3 118 yX3_craneOf, Cond.instanceMethod yX3_craneOf, Cond.selects RX3 yX3_craneOf yX3_craneOf, Cond.code yX3_craneOf cX3_craneOf 3 (some .int), Cond.fieldLink RX3 51 "TreadCranesModel" "cranes" "I", Cond.fieldLink RX3 40 "TreadCranesModel" "load" "[I"]
def wsX3_barrel_r2 : List Cond := [Cond.methodLink RX3 80 yX3_no, Cond.instanceMethod yX3_no, Cond.selects RX3 yX3_no yX3_no, Cond.code yX3_no cX3_no 2 (some .int)]
def wsX3_barrel : List Cond := .code yX3_barrel cX3_barrel 3 (some .int) :: ((wsX3_barrel_r1 ++ wsX3_barrel_r2) ++ wsX30)
def wsX3_craneTold : List Cond := .code yX3_craneTold cX3_craneTold 4 (some .int) :: ([.arrayClass .int, .fieldLink RX3 19 "TreadCranesModel" "post" "[I", .fieldLink RX3 22 "TreadCranesModel" "reach" "[I", .fieldLink RX3 25 "TreadCranesModel" "drum" "[I", .fieldLink RX3 28 "TreadCranesModel" "walkers" "[I", .fieldLink RX3 31 "TreadCranesModel" "worn" "[I", .fieldLink RX3 34 "TreadCranesModel" "hook" "[I", .fieldLink RX3 37 "TreadCranesModel" "height" "[I", .fieldLink RX3 40 "TreadCranesModel" "load" "[I", .methodLink RX3 100 yX3_strength, .instanceMethod yX3_strength, .selects RX3 yX3_strength yX3_strength, .initialized RX3, .code yX3_strength cX3_strength 2 (some .int)] ++ wsX30)
def wsX3_crane_r1 : List Cond := [Cond.fieldLink RX3 43 "TreadCranesModel" "thrown" "I", Cond.methodLink RX3 86 yX3_isCrane, Cond.instanceMethod yX3_isCrane, Cond.selects RX3 yX3_isCrane yX3_isCrane, Cond.initialized RX3, Cond.code yX3_isCrane cX3_isCrane 2 (some .boolean), Cond.fieldLink RX3 51 "TreadCranesModel" "cranes" "I", Cond.methodLink RX3 47 yX3_isIn, Cond.static yX3_isIn, Cond.code yX3_isIn cX3_isIn 3 (some .boolean), Cond.methodLink RX3 124 yX3_craneTold, Cond.instanceMethod yX3_craneTold, Cond.selects RX3 yX3_craneTold yX3_craneTold, Cond.code yX3_craneTold cX3_craneTold 4 (some .int), Cond.arrayClass .int, Cond.fieldLink RX3 19 "TreadCranesModel" "post" "[I", Cond.fieldLink RX3 22 "TreadCranesModel" "reach" "[I", Cond.fieldLink RX3 25 "TreadCranesModel" "drum" "[I", Cond.fieldLink RX3 28 "TreadCranesModel" "walkers" "[I", Cond.fieldLink RX3 31 "TreadCranesModel" "worn" "[I", Cond.fieldLink RX3 34 "TreadCranesModel" "hook" "[I", Cond.fieldLink RX3 37 "TreadCranesModel" "height" "[I", Cond.fieldLink RX3 40 "TreadCranesModel" "load" "[I", Cond.methodLink RX3 100 yX3_strength]
def wsX3_crane_r2 : List Cond := [Cond.instanceMethod yX3_strength, Cond.selects RX3 yX3_strength yX3_strength, Cond.code yX3_strength cX3_strength 2 (some .int), Cond.methodLink RX3 80 yX3_no, Cond.instanceMethod yX3_no, Cond.selects RX3 yX3_no yX3_no, Cond.code yX3_no cX3_no 2 (some .int)]
def wsX3_crane : List Cond := .code yX3_crane cX3_crane 3 (some .int) :: ((wsX3_crane_r1 ++ wsX3_crane_r2) ++ wsX30)
def wsX3_counted : List Cond := .code yX3_counted cX3_counted 5 (some .int) :: ([.fieldLink RX3 54 "TreadCranesModel" "barrels" "I", .fieldLink RX3 13 "TreadCranesModel" "at" "[I", .arrayClass .int, .fieldLink RX3 97 "TreadCranesModel" "ticks" "I", .fieldLink RX3 51 "TreadCranesModel" "cranes" "I", .methodLink RX3 93 yX3_highest, .instanceMethod yX3_highest, .selects RX3 yX3_highest yX3_highest, .initialized RX3, .code yX3_highest cX3_highest 6 (some .int), .methodLink RX3 69 Lib.Math.min.name, .static Lib.Math.min.name, .initialized "java/lang/Math", .code Lib.Math.min.name Lib.Math.min.code 2 (some .int), .methodLink RX3 73 Lib.Math.max.name, .static Lib.Math.max.name, .code Lib.Math.max.name Lib.Math.max.code 2 (some .int), .methodLink RX3 57 yX3_high, .instanceMethod yX3_high, .selects RX3 yX3_high yX3_high, .code yX3_high cX3_high 4 (some .int)] ++ wsX30)
def wsX3_count_r1 : List Cond := [Cond.fieldLink RX3 43 "TreadCranesModel" "thrown" "I", Cond.methodLink RX3 47 yX3_isIn, Cond.static yX3_isIn, Cond.initialized RX3, Cond.code yX3_isIn cX3_isIn 3 (some .boolean), Cond.methodLink RX3 127 yX3_counted, Cond.instanceMethod yX3_counted, Cond.selects RX3 yX3_counted yX3_counted, Cond.code yX3_counted cX3_counted 5 (some .int), Cond.fieldLink RX3 54 "TreadCranesModel" "barrels" "I", Cond.fieldLink RX3 13 "TreadCranesModel" "at" "[I", Cond.arrayClass .int, Cond.fieldLink RX3 97 "TreadCranesModel" "ticks" "I", Cond.fieldLink RX3 51 "TreadCranesModel" "cranes" "I", Cond.methodLink RX3 93 yX3_highest, Cond.instanceMethod yX3_highest, Cond.selects RX3 yX3_highest yX3_highest, Cond.code yX3_highest cX3_highest 6 (some .int), Cond.methodLink RX3 69 Lib.Math.min.name, Cond.static Lib.Math.min.name, Cond.initialized "java/lang/Math", Cond.code Lib.Math.min.name Lib.Math.min.code 2 (some .int), Cond.methodLink RX3 73 Lib.Math.max.name, Cond.static Lib.Math.max.name]
def wsX3_count_r2 : List Cond := [Cond.code Lib.Math.max.name Lib.Math.max.code 2 (some .int), Cond.methodLink RX3 57 yX3_high, Cond.instanceMethod yX3_high, Cond.selects RX3 yX3_high yX3_high, Cond.code yX3_high cX3_high 4 (some .int), Cond.methodLink RX3 80 yX3_no, Cond.instanceMethod yX3_no, Cond.selects RX3 yX3_no yX3_no, Cond.code yX3_no cX3_no 2 (some .int)]
def wsX3_count : List Cond := .code yX3_count cX3_count 2 (some .int) :: ((wsX3_count_r1 ++ wsX3_count_r2) ++ wsX30)
def wsX3_ticksOf_r1 : List Cond := [Cond.fieldLink RX3 40 "TreadCranesModel" "load" "[I", Cond.fieldLink RX3 9 "TreadCranesModel" "weight" "[I", Cond.fieldLink RX3 37 "TreadCranesModel" "height" "[I", Cond.fieldLink RX3 34 "TreadCranesModel" "hook" "[I", Cond.methodLink RX3 73 Lib.Math.max.name, Cond.static Lib.Math.max.name, Cond.initialized "java/lang/Math", Cond.code Lib.Math.max.name Lib.Math.max.code 2 (some .int), Cond.fieldLink RX3 31 "TreadCranesModel" "worn" "[I", Cond.methodLink RX3 61 Lib.Math.abs.name, Cond.static Lib.Math.abs.name, Cond.code Lib.Math.abs.name Lib.Math.abs.code 1 (some .int), Cond.methodLink RX3 57 yX3_high, Cond.instanceMethod yX3_high, Cond.selects RX3 yX3_high yX3_high, Cond.initialized RX3, Cond.code yX3_high cX3_high 4 (some .int), Cond.fieldLink RX3 54 "TreadCranesModel" "barrels" "I", Cond.fieldLink RX3 13 "TreadCranesModel" "at" "[I", Cond.methodLink RX3 89 yX3_isInReach, Cond.instanceMethod yX3_isInReach, Cond.selects RX3 yX3_isInReach yX3_isInReach, Cond.code yX3_isInReach cX3_isInReach 3 (some .boolean), Cond.fieldLink RX3 19 "TreadCranesModel" "post" "[I"]
def wsX3_ticksOf_r2 : List Cond := [Cond.fieldLink RX3 22 "TreadCranesModel" "reach" "[I", Cond.methodLink RX3 112 yX3_top, Cond.instanceMethod yX3_top, Cond.selects RX3 yX3_top yX3_top, Cond.code yX3_top cX3_top 3 (some .int), Cond.fieldLink RX3 16 "TreadCranesModel" "below" "[I", Cond.methodLink RX3 100 yX3_strength, Cond.instanceMethod yX3_strength, Cond.selects RX3 yX3_strength yX3_strength, Cond.code yX3_strength cX3_strength 2 (some .int), Cond.fieldLink RX3 28 "TreadCranesModel" "walkers" "[I", Cond.fieldLink RX3 25 "TreadCranesModel" "drum" "[I", Cond.methodLink RX3 93 yX3_highest, Cond.instanceMethod yX3_highest, Cond.selects RX3 yX3_highest yX3_highest, Cond.code yX3_highest cX3_highest 6 (some .int), Cond.methodLink RX3 69 Lib.Math.min.name, Cond.static Lib.Math.min.name, Cond.code Lib.Math.min.name Lib.Math.min.code 2 (some .int), Cond.methodLink RX3 106 yX3_wound, Cond.instanceMethod yX3_wound, Cond.selects RX3 yX3_wound yX3_wound, Cond.code yX3_wound cX3_wound 3 (some .int)]
def wsX3_ticksOf : List Cond := .code yX3_ticksOf cX3_ticksOf 10 (some .int) :: ((wsX3_ticksOf_r1 ++ wsX3_ticksOf_r2) ++ wsX30)
def wsX3_move_r1 : List Cond := [Cond.fieldLink RX3 43 "TreadCranesModel" "thrown" "I", Cond.methodLink RX3 86 yX3_isCrane, Cond.instanceMethod yX3_isCrane, Cond.selects RX3 yX3_isCrane yX3_isCrane, Cond.initialized RX3, Cond.code yX3_isCrane cX3_isCrane 2 (some .boolean), Cond.fieldLink RX3 51 "TreadCranesModel" "cranes" "I", Cond.methodLink RX3 47 yX3_isIn, Cond.static yX3_isIn, Cond.code yX3_isIn cX3_isIn 3 (some .boolean), Cond.methodLink RX3 76 yX3_isPlace, Cond.static yX3_isPlace, Cond.code yX3_isPlace cX3_isPlace 1 (some .boolean), Cond.methodLink RX3 130 yX3_ticksOf, Cond.instanceMethod yX3_ticksOf, Cond.selects RX3 yX3_ticksOf yX3_ticksOf, Cond.code yX3_ticksOf cX3_ticksOf 10 (some .int), Cond.fieldLink RX3 40 "TreadCranesModel" "load" "[I", Cond.fieldLink RX3 9 "TreadCranesModel" "weight" "[I", Cond.fieldLink RX3 37 "TreadCranesModel" "height" "[I", Cond.fieldLink RX3 34 "TreadCranesModel" "hook" "[I", Cond.methodLink RX3 73 Lib.Math.max.name, Cond.static Lib.Math.max.name, Cond.initialized "java/lang/Math"]
def wsX3_move_r2 : List Cond := [Cond.code Lib.Math.max.name Lib.Math.max.code 2 (some .int), Cond.fieldLink RX3 31 "TreadCranesModel" "worn" "[I", Cond.methodLink RX3 61 Lib.Math.abs.name, Cond.static Lib.Math.abs.name, Cond.code Lib.Math.abs.name Lib.Math.abs.code 1 (some .int), Cond.methodLink RX3 57 yX3_high, Cond.instanceMethod yX3_high, Cond.selects RX3 yX3_high yX3_high, Cond.code yX3_high cX3_high 4 (some .int), Cond.fieldLink RX3 54 "TreadCranesModel" "barrels" "I", Cond.fieldLink RX3 13 "TreadCranesModel" "at" "[I", Cond.methodLink RX3 89 yX3_isInReach, Cond.instanceMethod yX3_isInReach, Cond.selects RX3 yX3_isInReach yX3_isInReach, Cond.code yX3_isInReach cX3_isInReach 3 (some .boolean), Cond.fieldLink RX3 19 "TreadCranesModel" "post" "[I", Cond.fieldLink RX3 22 "TreadCranesModel" "reach" "[I", Cond.methodLink RX3 112 yX3_top, Cond.instanceMethod yX3_top, Cond.selects RX3 yX3_top yX3_top, Cond.code yX3_top cX3_top 3 (some .int), Cond.fieldLink RX3 16 "TreadCranesModel" "below" "[I", Cond.methodLink RX3 100 yX3_strength, Cond.instanceMethod yX3_strength]
def wsX3_move_r3 : List Cond := [Cond.selects RX3 yX3_strength yX3_strength, Cond.code yX3_strength cX3_strength 2 (some .int), Cond.fieldLink RX3 28 "TreadCranesModel" "walkers" "[I", Cond.fieldLink RX3 25 "TreadCranesModel" "drum" "[I", Cond.methodLink RX3 93 yX3_highest, Cond.instanceMethod yX3_highest, Cond.selects RX3 yX3_highest yX3_highest, Cond.code yX3_highest cX3_highest 6 (some .int), Cond.methodLink RX3 69 Lib.Math.min.name, Cond.static Lib.Math.min.name, Cond.code Lib.Math.min.name Lib.Math.min.code 2 (some .int), Cond.methodLink RX3 106 yX3_wound, Cond.instanceMethod yX3_wound, Cond.selects RX3 yX3_wound yX3_wound, Cond.code yX3_wound cX3_wound 3 (some .int), Cond.methodLink RX3 80 yX3_no, Cond.instanceMethod yX3_no, Cond.selects RX3 yX3_no yX3_no, Cond.code yX3_no cX3_no 2 (some .int)]
def wsX3_move : List Cond := .code yX3_move cX3_move 4 (some .int) :: ((wsX3_move_r1 ++ (wsX3_move_r2 ++ wsX3_move_r3)) ++ wsX30)
def wsX3_best_r1 : List Cond := [Cond.fieldLink RX3 43 "TreadCranesModel" "thrown" "I", Cond.fieldLink RX3 51 "TreadCranesModel" "cranes" "I", Cond.methodLink RX3 76 yX3_isPlace, Cond.static yX3_isPlace, Cond.initialized RX3, Cond.code yX3_isPlace cX3_isPlace 1 (some .boolean), Cond.methodLink RX3 47 yX3_isIn, Cond.static yX3_isIn, Cond.code yX3_isIn cX3_isIn 3 (some .boolean), Cond.methodLink RX3 80 yX3_no, Cond.instanceMethod yX3_no, Cond.selects RX3 yX3_no yX3_no, Cond.code yX3_no cX3_no 2 (some .int), Cond.methodLink RX3 130 yX3_ticksOf, Cond.instanceMethod yX3_ticksOf, Cond.selects RX3 yX3_ticksOf yX3_ticksOf, Cond.code yX3_ticksOf cX3_ticksOf 10 (some .int), Cond.fieldLink RX3 40 "TreadCranesModel" "load" "[I", Cond.fieldLink RX3 9 "TreadCranesModel" "weight" "[I", Cond.fieldLink RX3 37 "TreadCranesModel" "height" "[I", Cond.fieldLink RX3 34 "TreadCranesModel" "hook" "[I", Cond.methodLink RX3 73 Lib.Math.max.name, Cond.static Lib.Math.max.name, Cond.initialized "java/lang/Math"]
def wsX3_best_r2 : List Cond := [Cond.code Lib.Math.max.name Lib.Math.max.code 2 (some .int), Cond.fieldLink RX3 31 "TreadCranesModel" "worn" "[I", Cond.methodLink RX3 61 Lib.Math.abs.name, Cond.static Lib.Math.abs.name, Cond.code Lib.Math.abs.name Lib.Math.abs.code 1 (some .int), Cond.methodLink RX3 57 yX3_high, Cond.instanceMethod yX3_high, Cond.selects RX3 yX3_high yX3_high, Cond.code yX3_high cX3_high 4 (some .int), Cond.fieldLink RX3 54 "TreadCranesModel" "barrels" "I", Cond.fieldLink RX3 13 "TreadCranesModel" "at" "[I", Cond.methodLink RX3 89 yX3_isInReach, Cond.instanceMethod yX3_isInReach, Cond.selects RX3 yX3_isInReach yX3_isInReach, Cond.code yX3_isInReach cX3_isInReach 3 (some .boolean), Cond.fieldLink RX3 19 "TreadCranesModel" "post" "[I", Cond.fieldLink RX3 22 "TreadCranesModel" "reach" "[I", Cond.methodLink RX3 112 yX3_top, Cond.instanceMethod yX3_top, Cond.selects RX3 yX3_top yX3_top, Cond.code yX3_top cX3_top 3 (some .int), Cond.fieldLink RX3 16 "TreadCranesModel" "below" "[I", Cond.methodLink RX3 100 yX3_strength, Cond.instanceMethod yX3_strength]
def wsX3_best_r3 : List Cond := [Cond.selects RX3 yX3_strength yX3_strength, Cond.code yX3_strength cX3_strength 2 (some .int), Cond.fieldLink RX3 28 "TreadCranesModel" "walkers" "[I", Cond.fieldLink RX3 25 "TreadCranesModel" "drum" "[I", Cond.methodLink RX3 93 yX3_highest, Cond.instanceMethod yX3_highest, Cond.selects RX3 yX3_highest yX3_highest, Cond.code yX3_highest cX3_highest 6 (some .int), Cond.methodLink RX3 69 Lib.Math.min.name, Cond.static Lib.Math.min.name, Cond.code Lib.Math.min.name Lib.Math.min.code 2 (some .int), Cond.methodLink RX3 106 yX3_wound, Cond.instanceMethod yX3_wound, Cond.selects RX3 yX3_wound yX3_wound, Cond.code yX3_wound cX3_wound 3 (some .int)]
def wsX3_best : List Cond := .code yX3_best cX3_best 7 (some .int) :: ((wsX3_best_r1 ++ (wsX3_best_r2 ++ wsX3_best_r3)) ++ wsX30)
def wsX3_lasts : List Cond := .code yX3_lasts cX3_lasts 3 (some .int) :: ([.fieldLink RX3 43 "TreadCranesModel" "thrown" "I", .fieldLink RX3 31 "TreadCranesModel" "worn" "[I", .methodLink RX3 86 yX3_isCrane, .instanceMethod yX3_isCrane, .selects RX3 yX3_isCrane yX3_isCrane, .initialized RX3, .code yX3_isCrane cX3_isCrane 2 (some .boolean), .fieldLink RX3 51 "TreadCranesModel" "cranes" "I", .methodLink RX3 47 yX3_isIn, .static yX3_isIn, .code yX3_isIn cX3_isIn 3 (some .boolean), .methodLink RX3 80 yX3_no, .instanceMethod yX3_no, .selects RX3 yX3_no yX3_no, .code yX3_no cX3_no 2 (some .int)] ++ wsX30)
def wsX3_within_r1 : List Cond := [Cond.fieldLink RX3 43 "TreadCranesModel" "thrown" "I", Cond.fieldLink RX3 54 "TreadCranesModel" "barrels" "I", Cond.fieldLink RX3 13 "TreadCranesModel" "at" "[I", Cond.fieldLink RX3 9 "TreadCranesModel" "weight" "[I", Cond.methodLink RX3 86 yX3_isCrane, Cond.instanceMethod yX3_isCrane, Cond.selects RX3 yX3_isCrane yX3_isCrane, Cond.initialized RX3, Cond.code yX3_isCrane cX3_isCrane 2 (some .boolean), Cond.fieldLink RX3 51 "TreadCranesModel" "cranes" "I", Cond.methodLink RX3 47 yX3_isIn, Cond.static yX3_isIn, Cond.code yX3_isIn cX3_isIn 3 (some .boolean), Cond.methodLink RX3 80 yX3_no, Cond.instanceMethod yX3_no, Cond.selects RX3 yX3_no yX3_no, Cond.code yX3_no cX3_no 2 (some .int), Cond.methodLink RX3 89 yX3_isInReach, Cond.instanceMethod yX3_isInReach, Cond.selects RX3 yX3_isInReach yX3_isInReach, Cond.code yX3_isInReach cX3_isInReach 3 (some .boolean), Cond.fieldLink RX3 19 "TreadCranesModel" "post" "[I", Cond.methodLink RX3 61 Lib.Math.abs.name, Cond.static Lib.Math.abs.name]
def wsX3_within_r2 : List Cond := [Cond.initialized "java/lang/Math", Cond.code Lib.Math.abs.name Lib.Math.abs.code 1 (some .int), Cond.fieldLink RX3 22 "TreadCranesModel" "reach" "[I", Cond.methodLink RX3 100 yX3_strength, Cond.instanceMethod yX3_strength, Cond.selects RX3 yX3_strength yX3_strength, Cond.code yX3_strength cX3_strength 2 (some .int), Cond.fieldLink RX3 28 "TreadCranesModel" "walkers" "[I", Cond.fieldLink RX3 25 "TreadCranesModel" "drum" "[I"]
def wsX3_within : List Cond := .code yX3_within cX3_within 4 (some .int) :: ((wsX3_within_r1 ++ wsX3_within_r2) ++ wsX30)
def wsX3_mean : List Cond := .code yX3_mean cX3_mean 4 (some .double) :: ([.fieldLink RX3 43 "TreadCranesModel" "thrown" "I", .fieldLink RX3 54 "TreadCranesModel" "barrels" "I", .fieldLink RX3 13 "TreadCranesModel" "at" "[I", .fieldLink RX3 9 "TreadCranesModel" "weight" "[I"] ++ wsX30)
def wsX3_digest_r1 : List Cond := [Cond.fieldLink RX3 43 "TreadCranesModel" "thrown" "I", Cond.constantLong RX3 133 (1151), Cond.constantLong RX3 135 (31), Cond.fieldLink RX3 54 "TreadCranesModel" "barrels" "I", Cond.fieldLink RX3 51 "TreadCranesModel" "cranes" "I", Cond.methodLink RX3 127 yX3_counted, Cond.instanceMethod yX3_counted, Cond.selects RX3 yX3_counted yX3_counted, Cond.initialized RX3, Cond.code yX3_counted cX3_counted 5 (some .int), Cond.fieldLink RX3 13 "TreadCranesModel" "at" "[I", Cond.arrayClass .int, Cond.fieldLink RX3 97 "TreadCranesModel" "ticks" "I", Cond.methodLink RX3 93 yX3_highest, Cond.instanceMethod yX3_highest, Cond.selects RX3 yX3_highest yX3_highest, Cond.code yX3_highest cX3_highest 6 (some .int), Cond.methodLink RX3 69 Lib.Math.min.name, Cond.static Lib.Math.min.name, Cond.initialized "java/lang/Math", Cond.code Lib.Math.min.name Lib.Math.min.code 2 (some .int), Cond.methodLink RX3 73 Lib.Math.max.name, Cond.static Lib.Math.max.name, Cond.code Lib.Math.max.name Lib.Math.max.code 2 (some .int)]
def wsX3_digest_r2 : List Cond := [Cond.methodLink RX3 57 yX3_high, Cond.instanceMethod yX3_high, Cond.selects RX3 yX3_high yX3_high, Cond.code yX3_high cX3_high 4 (some .int), Cond.methodLink RX3 115 yX3_placeTold, Cond.instanceMethod yX3_placeTold, Cond.selects RX3 yX3_placeTold yX3_placeTold, Cond.code yX3_placeTold cX3_placeTold 6 (some .int), Cond.fieldLink RX3 9 "TreadCranesModel" "weight" "[I", Cond.fieldLink RX3 34 "TreadCranesModel" "hook" "[I", Cond.methodLink RX3 112 yX3_top, Cond.instanceMethod yX3_top, Cond.selects RX3 yX3_top yX3_top, Cond.code yX3_top cX3_top 3 (some .int), Cond.fieldLink RX3 16 "TreadCranesModel" "below" "[I", Cond.methodLink RX3 121 yX3_barrelTold, Cond.instanceMethod yX3_barrelTold, Cond.selects RX3 yX3_barrelTold yX3_barrelTold, Cond.code yX3_barrelTold cX3_barrelTold 5 (some .int), Cond.methodLink RX3 118 yX3_craneOf, Cond.instanceMethod yX3_craneOf, Cond.selects RX3 yX3_craneOf yX3_craneOf, Cond.code yX3_craneOf cX3_craneOf 3 (some .int), Cond.fieldLink RX3 40 "TreadCranesModel" "load" "[I"]
def wsX3_digest_r3 : List Cond := [Cond.methodLink RX3 124 yX3_craneTold, Cond.instanceMethod yX3_craneTold, Cond.selects RX3 yX3_craneTold yX3_craneTold, Cond.code yX3_craneTold cX3_craneTold 4 (some .int), Cond.fieldLink RX3 19 "TreadCranesModel" "post" "[I", Cond.fieldLink RX3 22 "TreadCranesModel" "reach" "[I", Cond.fieldLink RX3 25 "TreadCranesModel" "drum" "[I", Cond.fieldLink RX3 28 "TreadCranesModel" "walkers" "[I", Cond.fieldLink RX3 31 "TreadCranesModel" "worn" "[I", Cond.fieldLink RX3 37 "TreadCranesModel" "height" "[I", Cond.methodLink RX3 100 yX3_strength, Cond.instanceMethod yX3_strength, Cond.selects RX3 yX3_strength yX3_strength, Cond.code yX3_strength cX3_strength 2 (some .int)]
def wsX3_digest : List Cond := .code yX3_digest cX3_digest 5 (some .long) :: ((wsX3_digest_r1 ++ (wsX3_digest_r2 ++ wsX3_digest_r3)) ++ wsX30)
def wsJ9_abs_0f7a4 : List Cond := .code yJ9_abs_0f7a4 cJ9_abs_0f7a4 1 (some .int) :: ([])
def wsJ9_max_7cf53 : List Cond := .code yJ9_max_7cf53 cJ9_max_7cf53 2 (some .int) :: ([])
def wsJ9_min_7cf53 : List Cond := .code yJ9_min_7cf53 cJ9_min_7cf53 2 (some .int) :: ([])
def wsL_land_r1 : List Cond := [Cond.classLink RL 13 "java/lang/IndexOutOfBoundsException", Cond.classLink RL 15 "java/lang/IllegalArgumentException", Cond.classLink RL 17 "java/lang/IllegalStateException", Cond.methodLink RL 7 yX2_land, Cond.instanceMethod yX2_land, Cond.selects RX2 yX2_land yX2_land, Cond.initialized RX2, Cond.code yX2_land cX2_land 4 (some .int), Cond.classLink RX2 40 "java/lang/IllegalStateException", Cond.initialized "java/lang/IllegalStateException", Cond.fieldLink RX2 18 "TreadCranes" "barrels" "Ljava/util/ArrayList;", Cond.classLink RX2 9 RX0, Cond.instantiable RX0 7, Cond.initialized RX0, Cond.fieldLink RX2 64 "TreadCranes$Barrel" "number" "I", Cond.methodLink RX2 25 yX2_requirePlace, Cond.static yX2_requirePlace, Cond.code yX2_requirePlace cX2_requirePlace 1 none, Cond.classLink RX2 171 "java/lang/IndexOutOfBoundsException", Cond.initialized "java/lang/IndexOutOfBoundsException", Cond.methodLink RX2 204 yX2_isPlace, Cond.static yX2_isPlace, Cond.code yX2_isPlace cX2_isPlace 1 (some .boolean), Cond.methodLink RX2 68 yX2_isBetween]
def wsL_land_r2 : List Cond := [Cond.static yX2_isBetween, Cond.code yX2_isBetween cX2_isBetween 3 (some .boolean), Cond.methodLink RX2 29 yX2_requireWeight, Cond.static yX2_requireWeight, Cond.code yX2_requireWeight cX2_requireWeight 1 none, Cond.classLink RX2 71 "java/lang/IllegalArgumentException", Cond.initialized "java/lang/IllegalArgumentException", Cond.methodLink RX2 32 yJx4a65c_size_8abf5, Cond.instanceMethod yJx4a65c_size_8abf5, Cond.selects RJx4a65c yJx4a65c_size_8abf5 yJx4a65c_size_8abf5, Cond.initialized RJx4a65c, Cond.code yJx4a65c_size_8abf5 cJx4a65c_size_8abf5 1 (some .int), Cond.fieldLink RJx4a65c 48 "java/util/ArrayList" "size" "I", Cond.methodLink RX2 36 yX2_heightOf, Cond.instanceMethod yX2_heightOf, Cond.selects RX2 yX2_heightOf yX2_heightOf, Cond.code yX2_heightOf cX2_heightOf 3 (some .int), Cond.fieldLink RX2 222 "TreadCranes$Barrel" "level" "I", Cond.methodLink RX2 149 yX2_uppermostAt, Cond.instanceMethod yX2_uppermostAt, Cond.selects RX2 yX2_uppermostAt yX2_uppermostAt, Cond.code yX2_uppermostAt cX2_uppermostAt 2 (some (.object "TreadCranes$Barrel")), Cond.fieldLink RX2 11 "TreadCranes" "uppermost" "[LTreadCranes$Barrel;", Cond.methodLink RX2 47 yX2_hooksAllow]
def wsL_land_r3 : List Cond := [Cond.instanceMethod yX2_hooksAllow, Cond.selects RX2 yX2_hooksAllow yX2_hooksAllow, Cond.code yX2_hooksAllow cX2_hooksAllow 6 (some .boolean), Cond.fieldLink RX2 22 "TreadCranes" "cranes" "Ljava/util/ArrayList;", Cond.classLink RX2 81 "TreadCranes$Crane", Cond.fieldLink RX2 108 "TreadCranes$Crane" "hookPlace" "I", Cond.fieldLink RX2 105 "TreadCranes$Crane" "hookHeight" "I", Cond.methodLink RX2 89 yJx4a65c_get_915e3, Cond.instanceMethod yJx4a65c_get_915e3, Cond.selects RJx4a65c yJx4a65c_get_915e3 yJx4a65c_get_915e3, Cond.code yJx4a65c_get_915e3 cJx4a65c_get_915e3 2 (some (.object "java/lang/Object")), Cond.methodLink RJx4a65c 118 yJ15_checkIndex_7cf53, Cond.static yJ15_checkIndex_7cf53, Cond.initialized RJ15, Cond.code yJ15_checkIndex_7cf53 cJ15_checkIndex_7cf53 2 (some .int), Cond.methodLink RJ15 105 yJ3_checkIndex_8e157, Cond.static yJ3_checkIndex_8e157, Cond.initialized RJ3, Cond.code yJ3_checkIndex_8e157 cJ3_checkIndex_8e157 3 (some .int), Cond.methodLink RJx4a65c 123 yJx4a65c_elementData_915e3, Cond.instanceMethod yJx4a65c_elementData_915e3, Cond.selects RJx4a65c yJx4a65c_elementData_915e3 yJx4a65c_elementData_915e3, Cond.code yJx4a65c_elementData_915e3 cJx4a65c_elementData_915e3 2 (some (.object "java/lang/Object")), Cond.fieldLink RJx4a65c 9 "java/util/ArrayList" "elementData" "[Ljava/lang/Object;"]
def wsL_land_r4 : List Cond := [Cond.methodLink RX2 115 yX1_lowestHook, Cond.instanceMethod yX1_lowestHook, Cond.selects RX1 yX1_lowestHook yX1_lowestHook, Cond.initialized RX1, Cond.code yX1_lowestHook cX1_lowestHook 2 (some .int), Cond.fieldLink RX1 38 "TreadCranes$Crane" "load" "LTreadCranes$Barrel;", Cond.methodLink RX2 53 yX0_init, Cond.instanceMethod yX0_init, Cond.code yX0_init cX0_init 3 none, Cond.methodLink RX0 3 objectInit, Cond.instanceMethod objectInit, Cond.code objectInit ⟨#[0xb1]⟩ 1 none, Cond.fieldLink RX0 9 "TreadCranes$Barrel" "place" "I", Cond.fieldLink RX0 15 "TreadCranes$Barrel" "crane" "I", Cond.fieldLink RX0 18 "TreadCranes$Barrel" "number" "I", Cond.fieldLink RX0 21 "TreadCranes$Barrel" "weight" "I", Cond.methodLink RX2 56 yJx4a65c_add_9ea2d, Cond.instanceMethod yJx4a65c_add_9ea2d, Cond.selects RJx4a65c yJx4a65c_add_9ea2d yJx4a65c_add_9ea2d, Cond.code yJx4a65c_add_9ea2d cJx4a65c_add_9ea2d 2 (some .boolean), Cond.fieldLink RJx4a65c 63 "java/util/ArrayList" "modCount" "I", Cond.sameField "java/util/ArrayList" "java/util/AbstractList" "modCount" "I", Cond.methodLink RJx4a65c 131 yJx4a65c_add_72be8, Cond.instanceMethod yJx4a65c_add_72be8]
def wsL_land_r5 : List Cond := [Cond.selects RJx4a65c yJx4a65c_add_72be8 yJx4a65c_add_72be8, Cond.code yJx4a65c_add_72be8 cJx4a65c_add_72be8 4 none, Cond.methodLink RJx4a65c 129 yJx4a65c_grow_d5877, Cond.instanceMethod yJx4a65c_grow_d5877, Cond.selects RJx4a65c yJx4a65c_grow_d5877 yJx4a65c_grow_d5877, Cond.code yJx4a65c_grow_d5877 cJx4a65c_grow_d5877 1 (some (.array (.object "java/lang/Object"))), Cond.methodLink RJx4a65c 69 yJx4a65c_grow_92f84, Cond.instanceMethod yJx4a65c_grow_92f84, Cond.selects RJx4a65c yJx4a65c_grow_92f84 yJx4a65c_grow_92f84, Cond.code yJx4a65c_grow_92f84 cJx4a65c_grow_92f84 4 (some (.array (.object "java/lang/Object"))), Cond.fieldLink RJx4a65c 39 "java/util/ArrayList" "DEFAULTCAPACITY_EMPTY_ELEMENTDATA" "[Ljava/lang/Object;", Cond.methodLink RJx4a65c 79 Lib.Math.max.name, Cond.static Lib.Math.max.name, Cond.initialized "java/lang/Math", Cond.code Lib.Math.max.name Lib.Math.max.code 2 (some .int), Cond.classLink RJx4a65c 7 "java/lang/Object", Cond.methodLink RJx4a65c 73 yJ8_newLength_cabcc, Cond.static yJ8_newLength_cabcc, Cond.initialized RJ8, Cond.code yJ8_newLength_cabcc cJ8_newLength_cabcc 4 (some .int), Cond.methodLink RJ8 194 Lib.Math.max.name, Cond.constant RJ8 200 (2147483639), Cond.methodLink RJ8 201 yJ8_hugeLength_7cf53, Cond.static yJ8_hugeLength_7cf53]
def wsL_land_r6 : List Cond := [Cond.code yJ8_hugeLength_7cf53 cJ8_hugeLength_7cf53 3 (some .int), Cond.methodLink RJx4a65c 66 yJ7_copyOf_1904c, Cond.static yJ7_copyOf_1904c, Cond.initialized RJ7, Cond.code yJ7_copyOf_1904c cJ7_copyOf_1904c 2 (some (.array (.object "java/lang/Object"))), Cond.methodLink RJ7 86 ⟨"java/lang/Object", "getClass", "()Ljava/lang/Class;"⟩, Cond.selects "[Ljava/lang/Object;" ⟨"java/lang/Object", "getClass", "()Ljava/lang/Class;"⟩ ⟨"java/lang/Object", "getClass", "()Ljava/lang/Class;"⟩, Cond.instanceMethod ⟨"java/lang/Object", "getClass", "()Ljava/lang/Class;"⟩, Cond.native ⟨"java/lang/Object", "getClass", "()Ljava/lang/Class;"⟩, Cond.methodLink RJ7 300 yJ7_copyOf_6403c, Cond.static yJ7_copyOf_6403c, Cond.code yJ7_copyOf_6403c cJ7_copyOf_6403c 4 (some (.array (.object "java/lang/Object"))), Cond.classLink RJ7 110 "[Ljava/lang/Object;", Cond.classLink RJ7 2 "java/lang/Object", Cond.methodLink RJ7 304 Lib.Math.min.name, Cond.static Lib.Math.min.name, Cond.code Lib.Math.min.name Lib.Math.min.code 2 (some .int), Cond.methodLink RJ7 150 arraycopyName, Cond.native arraycopyName, Cond.static arraycopyName, Cond.initialized "java/lang/System", Cond.methodLink RX2 60 yX2_putUpon, Cond.instanceMethod yX2_putUpon, Cond.selects RX2 yX2_putUpon yX2_putUpon]
def wsL_land_r7 : List Cond := [Cond.code yX2_putUpon cX2_putUpon 3 none, Cond.fieldLink RX2 193 "TreadCranes$Barrel" "place" "I", Cond.fieldLink RX2 231 "TreadCranes$Barrel" "below" "LTreadCranes$Barrel;"]
def wsL_land : List Cond := .codeWith yL_land cL_land 5 (some .int) [(0, 10, 13, 13), (0, 10, 17, 15), (0, 10, 21, 17)] :: ((wsL_land_r1 ++ (wsL_land_r2 ++ (wsL_land_r3 ++ (wsL_land_r4 ++ (wsL_land_r5 ++ (wsL_land_r6 ++ wsL_land_r7)))))) ++ wsX20 ++ wsX00 ++ wsJx4a65c0 ++ wsX10 ++ (vx_atS RX2 44 "java/lang/IllegalStateException" ["java/lang/RuntimeException", "java/lang/Exception"]).filter goodWord ++ (vx_atS RX2 175 "java/lang/IndexOutOfBoundsException" ["java/lang/RuntimeException", "java/lang/Exception"]).filter goodWord ++ (vx_atS RX2 75 "java/lang/IllegalArgumentException" ["java/lang/RuntimeException", "java/lang/Exception"]).filter goodWord)
def wsL_build_r1 : List Cond := [Cond.classLink RL 13 "java/lang/IndexOutOfBoundsException", Cond.classLink RL 15 "java/lang/IllegalArgumentException", Cond.classLink RL 17 "java/lang/IllegalStateException", Cond.methodLink RL 19 yX2_build, Cond.instanceMethod yX2_build, Cond.selects RX2 yX2_build yX2_build, Cond.initialized RX2, Cond.code yX2_build cX2_build 5 (some .int), Cond.classLink RX2 71 "java/lang/IllegalArgumentException", Cond.initialized "java/lang/IllegalArgumentException", Cond.classLink RX2 40 "java/lang/IllegalStateException", Cond.initialized "java/lang/IllegalStateException", Cond.fieldLink RX2 22 "TreadCranes" "cranes" "Ljava/util/ArrayList;", Cond.classLink RX2 81 RX1, Cond.instantiable RX1 8, Cond.initialized RX1, Cond.methodLink RX2 25 yX2_requirePlace, Cond.static yX2_requirePlace, Cond.code yX2_requirePlace cX2_requirePlace 1 none, Cond.classLink RX2 171 "java/lang/IndexOutOfBoundsException", Cond.initialized "java/lang/IndexOutOfBoundsException", Cond.methodLink RX2 204 yX2_isPlace, Cond.static yX2_isPlace, Cond.code yX2_isPlace cX2_isPlace 1 (some .boolean)]
def wsL_build_r2 : List Cond := [Cond.methodLink RX2 68 yX2_isBetween, Cond.static yX2_isBetween, Cond.code yX2_isBetween cX2_isBetween 3 (some .boolean), Cond.methodLink RX2 76 yX2_requireWalkers, Cond.static yX2_requireWalkers, Cond.code yX2_requireWalkers cX2_requireWalkers 1 none, Cond.methodLink RX2 32 yJx4a65c_size_8abf5, Cond.instanceMethod yJx4a65c_size_8abf5, Cond.selects RJx4a65c yJx4a65c_size_8abf5 yJx4a65c_size_8abf5, Cond.initialized RJx4a65c, Cond.code yJx4a65c_size_8abf5 cJx4a65c_size_8abf5 1 (some .int), Cond.fieldLink RJx4a65c 48 "java/util/ArrayList" "size" "I", Cond.methodLink RX2 83 yX1_init, Cond.instanceMethod yX1_init, Cond.code yX1_init cX1_init 5 none, Cond.methodLink RX1 3 objectInit, Cond.instanceMethod objectInit, Cond.code objectInit ⟨#[0xb1]⟩ 1 none, Cond.fieldLink RX1 9 "TreadCranes$Crane" "hookHeight" "I", Cond.fieldLink RX1 15 "TreadCranes$Crane" "place" "I", Cond.fieldLink RX1 18 "TreadCranes$Crane" "reach" "I", Cond.fieldLink RX1 21 "TreadCranes$Crane" "drum" "I", Cond.fieldLink RX1 24 "TreadCranes$Crane" "walkers" "I", Cond.fieldLink RX1 27 "TreadCranes$Crane" "hookPlace" "I"]
def wsL_build_r3 : List Cond := [Cond.methodLink RX2 56 yJx4a65c_add_9ea2d, Cond.instanceMethod yJx4a65c_add_9ea2d, Cond.selects RJx4a65c yJx4a65c_add_9ea2d yJx4a65c_add_9ea2d, Cond.code yJx4a65c_add_9ea2d cJx4a65c_add_9ea2d 2 (some .boolean), Cond.fieldLink RJx4a65c 63 "java/util/ArrayList" "modCount" "I", Cond.sameField "java/util/ArrayList" "java/util/AbstractList" "modCount" "I", Cond.fieldLink RJx4a65c 9 "java/util/ArrayList" "elementData" "[Ljava/lang/Object;", Cond.methodLink RJx4a65c 131 yJx4a65c_add_72be8, Cond.instanceMethod yJx4a65c_add_72be8, Cond.selects RJx4a65c yJx4a65c_add_72be8 yJx4a65c_add_72be8, Cond.code yJx4a65c_add_72be8 cJx4a65c_add_72be8 4 none, Cond.methodLink RJx4a65c 129 yJx4a65c_grow_d5877, Cond.instanceMethod yJx4a65c_grow_d5877, Cond.selects RJx4a65c yJx4a65c_grow_d5877 yJx4a65c_grow_d5877, Cond.code yJx4a65c_grow_d5877 cJx4a65c_grow_d5877 1 (some (.array (.object "java/lang/Object"))), Cond.methodLink RJx4a65c 69 yJx4a65c_grow_92f84, Cond.instanceMethod yJx4a65c_grow_92f84, Cond.selects RJx4a65c yJx4a65c_grow_92f84 yJx4a65c_grow_92f84, Cond.code yJx4a65c_grow_92f84 cJx4a65c_grow_92f84 4 (some (.array (.object "java/lang/Object"))), Cond.fieldLink RJx4a65c 39 "java/util/ArrayList" "DEFAULTCAPACITY_EMPTY_ELEMENTDATA" "[Ljava/lang/Object;", Cond.methodLink RJx4a65c 79 Lib.Math.max.name, Cond.static Lib.Math.max.name, Cond.initialized "java/lang/Math", Cond.code Lib.Math.max.name Lib.Math.max.code 2 (some .int)]
def wsL_build_r4 : List Cond := [Cond.classLink RJx4a65c 7 "java/lang/Object", Cond.methodLink RJx4a65c 73 yJ8_newLength_cabcc, Cond.static yJ8_newLength_cabcc, Cond.initialized RJ8, Cond.code yJ8_newLength_cabcc cJ8_newLength_cabcc 4 (some .int), Cond.methodLink RJ8 194 Lib.Math.max.name, Cond.constant RJ8 200 (2147483639), Cond.methodLink RJ8 201 yJ8_hugeLength_7cf53, Cond.static yJ8_hugeLength_7cf53, Cond.code yJ8_hugeLength_7cf53 cJ8_hugeLength_7cf53 3 (some .int), Cond.methodLink RJx4a65c 66 yJ7_copyOf_1904c, Cond.static yJ7_copyOf_1904c, Cond.initialized RJ7, Cond.code yJ7_copyOf_1904c cJ7_copyOf_1904c 2 (some (.array (.object "java/lang/Object"))), Cond.methodLink RJ7 86 ⟨"java/lang/Object", "getClass", "()Ljava/lang/Class;"⟩, Cond.selects "[Ljava/lang/Object;" ⟨"java/lang/Object", "getClass", "()Ljava/lang/Class;"⟩ ⟨"java/lang/Object", "getClass", "()Ljava/lang/Class;"⟩, Cond.instanceMethod ⟨"java/lang/Object", "getClass", "()Ljava/lang/Class;"⟩, Cond.native ⟨"java/lang/Object", "getClass", "()Ljava/lang/Class;"⟩, Cond.methodLink RJ7 300 yJ7_copyOf_6403c, Cond.static yJ7_copyOf_6403c, Cond.code yJ7_copyOf_6403c cJ7_copyOf_6403c 4 (some (.array (.object "java/lang/Object"))), Cond.classLink RJ7 110 "[Ljava/lang/Object;", Cond.classLink RJ7 2 "java/lang/Object", Cond.methodLink RJ7 304 Lib.Math.min.name]
def wsL_build_r5 : List Cond := [Cond.static Lib.Math.min.name, Cond.code Lib.Math.min.name Lib.Math.min.code 2 (some .int), Cond.methodLink RJ7 150 arraycopyName, Cond.native arraycopyName, Cond.static arraycopyName, Cond.initialized "java/lang/System"]
def wsL_build : List Cond := .codeWith yL_build cL_build 7 (some .int) [(0, 14, 17, 13), (0, 14, 21, 15), (0, 14, 25, 17)] :: ((wsL_build_r1 ++ (wsL_build_r2 ++ (wsL_build_r3 ++ (wsL_build_r4 ++ wsL_build_r5)))) ++ wsX20 ++ wsX10 ++ wsJx4a65c0 ++ (vx_atS RX2 75 "java/lang/IllegalArgumentException" ["java/lang/RuntimeException", "java/lang/Exception"]).filter goodWord ++ (vx_atS RX2 44 "java/lang/IllegalStateException" ["java/lang/RuntimeException", "java/lang/Exception"]).filter goodWord ++ (vx_atS RX2 175 "java/lang/IndexOutOfBoundsException" ["java/lang/RuntimeException", "java/lang/Exception"]).filter goodWord)
def wsL_man_r1 : List Cond := [Cond.classLink RL 13 "java/lang/IndexOutOfBoundsException", Cond.classLink RL 15 "java/lang/IllegalArgumentException", Cond.methodLink RL 23 yX2_man, Cond.instanceMethod yX2_man, Cond.selects RX2 yX2_man yX2_man, Cond.initialized RX2, Cond.code yX2_man cX2_man 5 (some .int), Cond.fieldLink RX2 22 "TreadCranes" "cranes" "Ljava/util/ArrayList;", Cond.classLink RX2 81 "TreadCranes$Crane", Cond.fieldLink RX2 93 "TreadCranes$Crane" "walkers" "I", Cond.methodLink RX2 86 yX2_requireCrane, Cond.instanceMethod yX2_requireCrane, Cond.selects RX2 yX2_requireCrane yX2_requireCrane, Cond.code yX2_requireCrane cX2_requireCrane 2 none, Cond.classLink RX2 171 "java/lang/IndexOutOfBoundsException", Cond.initialized "java/lang/IndexOutOfBoundsException", Cond.methodLink RX2 32 yJx4a65c_size_8abf5, Cond.instanceMethod yJx4a65c_size_8abf5, Cond.selects RJx4a65c yJx4a65c_size_8abf5 yJx4a65c_size_8abf5, Cond.initialized RJx4a65c, Cond.code yJx4a65c_size_8abf5 cJx4a65c_size_8abf5 1 (some .int), Cond.fieldLink RJx4a65c 48 "java/util/ArrayList" "size" "I", Cond.methodLink RX2 68 yX2_isBetween, Cond.static yX2_isBetween]
def wsL_man_r2 : List Cond := [Cond.code yX2_isBetween cX2_isBetween 3 (some .boolean), Cond.methodLink RX2 76 yX2_requireWalkers, Cond.static yX2_requireWalkers, Cond.code yX2_requireWalkers cX2_requireWalkers 1 none, Cond.classLink RX2 71 "java/lang/IllegalArgumentException", Cond.initialized "java/lang/IllegalArgumentException", Cond.methodLink RX2 89 yJx4a65c_get_915e3, Cond.instanceMethod yJx4a65c_get_915e3, Cond.selects RJx4a65c yJx4a65c_get_915e3 yJx4a65c_get_915e3, Cond.code yJx4a65c_get_915e3 cJx4a65c_get_915e3 2 (some (.object "java/lang/Object")), Cond.methodLink RJx4a65c 118 yJ15_checkIndex_7cf53, Cond.static yJ15_checkIndex_7cf53, Cond.initialized RJ15, Cond.code yJ15_checkIndex_7cf53 cJ15_checkIndex_7cf53 2 (some .int), Cond.methodLink RJ15 105 yJ3_checkIndex_8e157, Cond.static yJ3_checkIndex_8e157, Cond.initialized RJ3, Cond.code yJ3_checkIndex_8e157 cJ3_checkIndex_8e157 3 (some .int), Cond.methodLink RJx4a65c 123 yJx4a65c_elementData_915e3, Cond.instanceMethod yJx4a65c_elementData_915e3, Cond.selects RJx4a65c yJx4a65c_elementData_915e3 yJx4a65c_elementData_915e3, Cond.code yJx4a65c_elementData_915e3 cJx4a65c_elementData_915e3 2 (some (.object "java/lang/Object")), Cond.fieldLink RJx4a65c 9 "java/util/ArrayList" "elementData" "[Ljava/lang/Object;"]
def wsL_man : List Cond := .codeWith yL_man cL_man 5 (some .int) [(0, 10, 13, 13), (0, 10, 17, 15)] :: ((wsL_man_r1 ++ wsL_man_r2) ++ wsX20 ++ wsX10 ++ wsJx4a65c0 ++ (vx_atS RX2 175 "java/lang/IndexOutOfBoundsException" ["java/lang/RuntimeException", "java/lang/Exception"]).filter goodWord ++ (vx_atS RX2 75 "java/lang/IllegalArgumentException" ["java/lang/RuntimeException", "java/lang/Exception"]).filter goodWord)
def wsL_mend_r1 : List Cond := [Cond.classLink RL 13 "java/lang/IndexOutOfBoundsException", Cond.methodLink RL 26 yX2_mend, Cond.instanceMethod yX2_mend, Cond.selects RX2 yX2_mend yX2_mend, Cond.initialized RX2, Cond.code yX2_mend cX2_mend 4 (some .int), Cond.fieldLink RX2 22 "TreadCranes" "cranes" "Ljava/util/ArrayList;", Cond.classLink RX2 81 "TreadCranes$Crane", Cond.fieldLink RX2 96 "TreadCranes$Crane" "worn" "I", Cond.methodLink RX2 86 yX2_requireCrane, Cond.instanceMethod yX2_requireCrane, Cond.selects RX2 yX2_requireCrane yX2_requireCrane, Cond.code yX2_requireCrane cX2_requireCrane 2 none, Cond.classLink RX2 171 "java/lang/IndexOutOfBoundsException", Cond.initialized "java/lang/IndexOutOfBoundsException", Cond.methodLink RX2 32 yJx4a65c_size_8abf5, Cond.instanceMethod yJx4a65c_size_8abf5, Cond.selects RJx4a65c yJx4a65c_size_8abf5 yJx4a65c_size_8abf5, Cond.initialized RJx4a65c, Cond.code yJx4a65c_size_8abf5 cJx4a65c_size_8abf5 1 (some .int), Cond.fieldLink RJx4a65c 48 "java/util/ArrayList" "size" "I", Cond.methodLink RX2 68 yX2_isBetween, Cond.static yX2_isBetween, Cond.code yX2_isBetween cX2_isBetween 3 (some .boolean)]
def wsL_mend_r2 : List Cond := [Cond.methodLink RX2 89 yJx4a65c_get_915e3, Cond.instanceMethod yJx4a65c_get_915e3, Cond.selects RJx4a65c yJx4a65c_get_915e3 yJx4a65c_get_915e3, Cond.code yJx4a65c_get_915e3 cJx4a65c_get_915e3 2 (some (.object "java/lang/Object")), Cond.methodLink RJx4a65c 118 yJ15_checkIndex_7cf53, Cond.static yJ15_checkIndex_7cf53, Cond.initialized RJ15, Cond.code yJ15_checkIndex_7cf53 cJ15_checkIndex_7cf53 2 (some .int), Cond.methodLink RJ15 105 yJ3_checkIndex_8e157, Cond.static yJ3_checkIndex_8e157, Cond.initialized RJ3, Cond.code yJ3_checkIndex_8e157 cJ3_checkIndex_8e157 3 (some .int), Cond.methodLink RJx4a65c 123 yJx4a65c_elementData_915e3, Cond.instanceMethod yJx4a65c_elementData_915e3, Cond.selects RJx4a65c yJx4a65c_elementData_915e3 yJx4a65c_elementData_915e3, Cond.code yJx4a65c_elementData_915e3 cJx4a65c_elementData_915e3 2 (some (.object "java/lang/Object")), Cond.fieldLink RJx4a65c 9 "java/util/ArrayList" "elementData" "[Ljava/lang/Object;"]
def wsL_mend : List Cond := .codeWith yL_mend cL_mend 4 (some .int) [(0, 9, 12, 13)] :: ((wsL_mend_r1 ++ wsL_mend_r2) ++ wsX20 ++ wsX10 ++ wsJx4a65c0 ++ (vx_atS RX2 175 "java/lang/IndexOutOfBoundsException" ["java/lang/RuntimeException", "java/lang/Exception"]).filter goodWord)
def wsL_turn_r1 : List Cond := [Cond.classLink RL 13 "java/lang/IndexOutOfBoundsException", Cond.classLink RL 17 "java/lang/IllegalStateException", Cond.methodLink RL 30 yX2_turn, Cond.instanceMethod yX2_turn, Cond.selects RX2 yX2_turn yX2_turn, Cond.initialized RX2, Cond.code yX2_turn cX2_turn 5 (some .int), Cond.classLink RX2 40 "java/lang/IllegalStateException", Cond.initialized "java/lang/IllegalStateException", Cond.fieldLink RX2 22 "TreadCranes" "cranes" "Ljava/util/ArrayList;", Cond.classLink RX2 81 "TreadCranes$Crane", Cond.fieldLink RX2 105 "TreadCranes$Crane" "hookHeight" "I", Cond.fieldLink RX2 108 "TreadCranes$Crane" "hookPlace" "I", Cond.fieldLink RX2 123 "TreadCranes" "ticks" "I", Cond.methodLink RX2 86 yX2_requireCrane, Cond.instanceMethod yX2_requireCrane, Cond.selects RX2 yX2_requireCrane yX2_requireCrane, Cond.code yX2_requireCrane cX2_requireCrane 2 none, Cond.classLink RX2 171 "java/lang/IndexOutOfBoundsException", Cond.initialized "java/lang/IndexOutOfBoundsException", Cond.methodLink RX2 32 yJx4a65c_size_8abf5, Cond.instanceMethod yJx4a65c_size_8abf5, Cond.selects RJx4a65c yJx4a65c_size_8abf5 yJx4a65c_size_8abf5, Cond.initialized RJx4a65c]
def wsL_turn_r2 : List Cond := [Cond.code yJx4a65c_size_8abf5 cJx4a65c_size_8abf5 1 (some .int), Cond.fieldLink RJx4a65c 48 "java/util/ArrayList" "size" "I", Cond.methodLink RX2 68 yX2_isBetween, Cond.static yX2_isBetween, Cond.code yX2_isBetween cX2_isBetween 3 (some .boolean), Cond.methodLink RX2 25 yX2_requirePlace, Cond.static yX2_requirePlace, Cond.code yX2_requirePlace cX2_requirePlace 1 none, Cond.methodLink RX2 204 yX2_isPlace, Cond.static yX2_isPlace, Cond.code yX2_isPlace cX2_isPlace 1 (some .boolean), Cond.methodLink RX2 89 yJx4a65c_get_915e3, Cond.instanceMethod yJx4a65c_get_915e3, Cond.selects RJx4a65c yJx4a65c_get_915e3 yJx4a65c_get_915e3, Cond.code yJx4a65c_get_915e3 cJx4a65c_get_915e3 2 (some (.object "java/lang/Object")), Cond.methodLink RJx4a65c 118 yJ15_checkIndex_7cf53, Cond.static yJ15_checkIndex_7cf53, Cond.initialized RJ15, Cond.code yJ15_checkIndex_7cf53 cJ15_checkIndex_7cf53 2 (some .int), Cond.methodLink RJ15 105 yJ3_checkIndex_8e157, Cond.static yJ3_checkIndex_8e157, Cond.initialized RJ3, Cond.code yJ3_checkIndex_8e157 cJ3_checkIndex_8e157 3 (some .int), Cond.methodLink RJx4a65c 123 yJx4a65c_elementData_915e3]
def wsL_turn_r3 : List Cond := [Cond.instanceMethod yJx4a65c_elementData_915e3, Cond.selects RJx4a65c yJx4a65c_elementData_915e3 yJx4a65c_elementData_915e3, Cond.code yJx4a65c_elementData_915e3 cJx4a65c_elementData_915e3 2 (some (.object "java/lang/Object")), Cond.fieldLink RJx4a65c 9 "java/util/ArrayList" "elementData" "[Ljava/lang/Object;", Cond.methodLink RX2 99 yX1_reaches, Cond.instanceMethod yX1_reaches, Cond.selects RX1 yX1_reaches yX1_reaches, Cond.initialized RX1, Cond.code yX1_reaches cX1_reaches 2 (some .boolean), Cond.fieldLink RX1 15 "TreadCranes$Crane" "place" "I", Cond.fieldLink RX1 18 "TreadCranes$Crane" "reach" "I", Cond.static yX2_distance, Cond.code yX2_distance cX2_distance 2 (some .int), Cond.methodLink RX2 217 Lib.Math.abs.name, Cond.static Lib.Math.abs.name, Cond.initialized "java/lang/Math", Cond.code Lib.Math.abs.name Lib.Math.abs.code 1 (some .int), Cond.methodLink RX2 111 yX2_highestBetween, Cond.instanceMethod yX2_highestBetween, Cond.selects RX2 yX2_highestBetween yX2_highestBetween, Cond.code yX2_highestBetween cX2_highestBetween 5 (some .int), Cond.methodLink RX2 225 Lib.Math.min.name, Cond.static Lib.Math.min.name, Cond.code Lib.Math.min.name Lib.Math.min.code 2 (some .int)]
def wsL_turn_r4 : List Cond := [Cond.methodLink RX2 228 Lib.Math.max.name, Cond.static Lib.Math.max.name, Cond.code Lib.Math.max.name Lib.Math.max.code 2 (some .int), Cond.methodLink RX2 36 yX2_heightOf, Cond.instanceMethod yX2_heightOf, Cond.selects RX2 yX2_heightOf yX2_heightOf, Cond.code yX2_heightOf cX2_heightOf 3 (some .int), Cond.fieldLink RX2 222 "TreadCranes$Barrel" "level" "I", Cond.methodLink RX2 149 yX2_uppermostAt, Cond.instanceMethod yX2_uppermostAt, Cond.selects RX2 yX2_uppermostAt yX2_uppermostAt, Cond.code yX2_uppermostAt cX2_uppermostAt 2 (some (.object "TreadCranes$Barrel")), Cond.fieldLink RX2 11 "TreadCranes" "uppermost" "[LTreadCranes$Barrel;", Cond.methodLink RX2 115 yX1_lowestHook, Cond.instanceMethod yX1_lowestHook, Cond.selects RX1 yX1_lowestHook yX1_lowestHook, Cond.code yX1_lowestHook cX1_lowestHook 2 (some .int), Cond.fieldLink RX1 38 "TreadCranes$Crane" "load" "LTreadCranes$Barrel;", Cond.methodLink RX2 120 yX2_distance]
def wsL_turn : List Cond := .codeWith yL_turn cL_turn 5 (some .int) [(0, 10, 13, 13), (0, 10, 17, 17)] :: ((wsL_turn_r1 ++ (wsL_turn_r2 ++ (wsL_turn_r3 ++ wsL_turn_r4))) ++ wsX20 ++ wsX10 ++ wsJx4a65c0 ++ wsX00 ++ (vx_atS RX2 44 "java/lang/IllegalStateException" ["java/lang/RuntimeException", "java/lang/Exception"]).filter goodWord ++ (vx_atS RX2 175 "java/lang/IndexOutOfBoundsException" ["java/lang/RuntimeException", "java/lang/Exception"]).filter goodWord)
def wsL_hoist_r1 : List Cond := [Cond.classLink RL 13 "java/lang/IndexOutOfBoundsException", Cond.classLink RL 15 "java/lang/IllegalArgumentException", Cond.classLink RL 17 "java/lang/IllegalStateException", Cond.methodLink RL 33 yX2_hoist, Cond.instanceMethod yX2_hoist, Cond.selects RX2 yX2_hoist yX2_hoist, Cond.initialized RX2, Cond.code yX2_hoist cX2_hoist 5 (some .int), Cond.classLink RX2 71 "java/lang/IllegalArgumentException", Cond.initialized "java/lang/IllegalArgumentException", Cond.classLink RX2 40 "java/lang/IllegalStateException", Cond.initialized "java/lang/IllegalStateException", Cond.fieldLink RX2 22 "TreadCranes" "cranes" "Ljava/util/ArrayList;", Cond.classLink RX2 81 "TreadCranes$Crane", Cond.fieldLink RX2 108 "TreadCranes$Crane" "hookPlace" "I", Cond.fieldLink RX2 130 "TreadCranes$Crane" "load" "LTreadCranes$Barrel;", Cond.fieldLink RX2 105 "TreadCranes$Crane" "hookHeight" "I", Cond.fieldLink RX2 134 "TreadCranes$Barrel" "weight" "I", Cond.methodLink RX2 86 yX2_requireCrane, Cond.instanceMethod yX2_requireCrane, Cond.selects RX2 yX2_requireCrane yX2_requireCrane, Cond.code yX2_requireCrane cX2_requireCrane 2 none, Cond.classLink RX2 171 "java/lang/IndexOutOfBoundsException", Cond.initialized "java/lang/IndexOutOfBoundsException"]
def wsL_hoist_r2 : List Cond := [Cond.methodLink RX2 32 yJx4a65c_size_8abf5, Cond.instanceMethod yJx4a65c_size_8abf5, Cond.selects RJx4a65c yJx4a65c_size_8abf5 yJx4a65c_size_8abf5, Cond.initialized RJx4a65c, Cond.code yJx4a65c_size_8abf5 cJx4a65c_size_8abf5 1 (some .int), Cond.fieldLink RJx4a65c 48 "java/util/ArrayList" "size" "I", Cond.methodLink RX2 68 yX2_isBetween, Cond.static yX2_isBetween, Cond.code yX2_isBetween cX2_isBetween 3 (some .boolean), Cond.methodLink RX2 89 yJx4a65c_get_915e3, Cond.instanceMethod yJx4a65c_get_915e3, Cond.selects RJx4a65c yJx4a65c_get_915e3 yJx4a65c_get_915e3, Cond.code yJx4a65c_get_915e3 cJx4a65c_get_915e3 2 (some (.object "java/lang/Object")), Cond.methodLink RJx4a65c 118 yJ15_checkIndex_7cf53, Cond.static yJ15_checkIndex_7cf53, Cond.initialized RJ15, Cond.code yJ15_checkIndex_7cf53 cJ15_checkIndex_7cf53 2 (some .int), Cond.methodLink RJ15 105 yJ3_checkIndex_8e157, Cond.static yJ3_checkIndex_8e157, Cond.initialized RJ3, Cond.code yJ3_checkIndex_8e157 cJ3_checkIndex_8e157 3 (some .int), Cond.methodLink RJx4a65c 123 yJx4a65c_elementData_915e3, Cond.instanceMethod yJx4a65c_elementData_915e3, Cond.selects RJx4a65c yJx4a65c_elementData_915e3 yJx4a65c_elementData_915e3]
def wsL_hoist_r3 : List Cond := [Cond.code yJx4a65c_elementData_915e3 cJx4a65c_elementData_915e3 2 (some (.object "java/lang/Object")), Cond.fieldLink RJx4a65c 9 "java/util/ArrayList" "elementData" "[Ljava/lang/Object;", Cond.methodLink RX2 36 yX2_heightOf, Cond.instanceMethod yX2_heightOf, Cond.selects RX2 yX2_heightOf yX2_heightOf, Cond.code yX2_heightOf cX2_heightOf 3 (some .int), Cond.fieldLink RX2 222 "TreadCranes$Barrel" "level" "I", Cond.methodLink RX2 149 yX2_uppermostAt, Cond.instanceMethod yX2_uppermostAt, Cond.selects RX2 yX2_uppermostAt yX2_uppermostAt, Cond.code yX2_uppermostAt cX2_uppermostAt 2 (some (.object "TreadCranes$Barrel")), Cond.fieldLink RX2 11 "TreadCranes" "uppermost" "[LTreadCranes$Barrel;", Cond.methodLink RX2 204 yX2_isPlace, Cond.static yX2_isPlace, Cond.code yX2_isPlace cX2_isPlace 1 (some .boolean), Cond.methodLink RX2 115 yX1_lowestHook, Cond.instanceMethod yX1_lowestHook, Cond.selects RX1 yX1_lowestHook yX1_lowestHook, Cond.initialized RX1, Cond.code yX1_lowestHook cX1_lowestHook 2 (some .int), Cond.fieldLink RX1 38 "TreadCranes$Crane" "load" "LTreadCranes$Barrel;", Cond.methodLink RX2 137 yX1_canLift, Cond.instanceMethod yX1_canLift, Cond.selects RX1 yX1_canLift yX1_canLift]
def wsL_hoist_r4 : List Cond := [Cond.code yX1_canLift cX1_canLift 2 (some .boolean), Cond.methodLink RX1 30 yX1_strength, Cond.instanceMethod yX1_strength, Cond.selects RX1 yX1_strength yX1_strength, Cond.code yX1_strength cX1_strength 1 (some .int), Cond.fieldLink RX1 21 "TreadCranes$Crane" "drum" "I", Cond.fieldLink RX1 24 "TreadCranes$Crane" "walkers" "I", Cond.methodLink RX2 142 yX2_lowerHook, Cond.instanceMethod yX2_lowerHook, Cond.selects RX2 yX2_lowerHook yX2_lowerHook, Cond.code yX2_lowerHook cX2_lowerHook 6 (some .int), Cond.fieldLink RX2 96 "TreadCranes$Crane" "worn" "I", Cond.fieldLink RX2 123 "TreadCranes" "ticks" "I", Cond.methodLink RX2 234 yX1_ticksToWind, Cond.instanceMethod yX1_ticksToWind, Cond.selects RX1 yX1_ticksToWind yX1_ticksToWind, Cond.code yX1_ticksToWind cX1_ticksToWind 2 (some .int), Cond.methodLink RX2 237 yX1_wornAfterLowering, Cond.instanceMethod yX1_wornAfterLowering, Cond.selects RX1 yX1_wornAfterLowering yX1_wornAfterLowering, Cond.code yX1_wornAfterLowering cX1_wornAfterLowering 3 (some .int), Cond.fieldLink RX1 42 "TreadCranes$Crane" "worn" "I", Cond.static yX2_wearInATick, Cond.code yX2_wearInATick cX2_wearInATick 1 (some .int)]
def wsL_hoist_r5 : List Cond := [Cond.methodLink RX2 240 yX2_dropLoad, Cond.static yX2_dropLoad, Cond.code yX2_dropLoad cX2_dropLoad 2 none, Cond.fieldLink RX2 158 "TreadCranes$Barrel" "crane" "I", Cond.fieldLink RX2 196 "TreadCranes$Barrel" "broken" "Z", Cond.methodLink RX2 146 yX2_raiseHook, Cond.instanceMethod yX2_raiseHook, Cond.selects RX2 yX2_raiseHook yX2_raiseHook, Cond.code yX2_raiseHook cX2_raiseHook 4 (some .int)]
def wsL_hoist : List Cond := .codeWith yL_hoist cL_hoist 5 (some .int) [(0, 10, 13, 13), (0, 10, 17, 15), (0, 10, 21, 17)] :: ((wsL_hoist_r1 ++ (wsL_hoist_r2 ++ (wsL_hoist_r3 ++ (wsL_hoist_r4 ++ wsL_hoist_r5)))) ++ wsX20 ++ wsX10 ++ wsX00 ++ wsJx4a65c0 ++ (vx_atS RX2 75 "java/lang/IllegalArgumentException" ["java/lang/RuntimeException", "java/lang/Exception"]).filter goodWord ++ (vx_atS RX2 44 "java/lang/IllegalStateException" ["java/lang/RuntimeException", "java/lang/Exception"]).filter goodWord ++ (vx_atS RX2 175 "java/lang/IndexOutOfBoundsException" ["java/lang/RuntimeException", "java/lang/Exception"]).filter goodWord)
def wsL_take_r1 : List Cond := [Cond.classLink RL 13 "java/lang/IndexOutOfBoundsException", Cond.classLink RL 17 "java/lang/IllegalStateException", Cond.methodLink RL 36 yX2_take, Cond.instanceMethod yX2_take, Cond.selects RX2 yX2_take yX2_take, Cond.initialized RX2, Cond.code yX2_take cX2_take 4 (some .int), Cond.classLink RX2 40 "java/lang/IllegalStateException", Cond.initialized "java/lang/IllegalStateException", Cond.fieldLink RX2 22 "TreadCranes" "cranes" "Ljava/util/ArrayList;", Cond.classLink RX2 81 "TreadCranes$Crane", Cond.fieldLink RX2 108 "TreadCranes$Crane" "hookPlace" "I", Cond.fieldLink RX2 130 "TreadCranes$Crane" "load" "LTreadCranes$Barrel;", Cond.fieldLink RX2 105 "TreadCranes$Crane" "hookHeight" "I", Cond.fieldLink RX2 158 "TreadCranes$Barrel" "crane" "I", Cond.fieldLink RX2 64 "TreadCranes$Barrel" "number" "I", Cond.methodLink RX2 86 yX2_requireCrane, Cond.instanceMethod yX2_requireCrane, Cond.selects RX2 yX2_requireCrane yX2_requireCrane, Cond.code yX2_requireCrane cX2_requireCrane 2 none, Cond.classLink RX2 171 "java/lang/IndexOutOfBoundsException", Cond.initialized "java/lang/IndexOutOfBoundsException", Cond.methodLink RX2 32 yJx4a65c_size_8abf5, Cond.instanceMethod yJx4a65c_size_8abf5]
def wsL_take_r2 : List Cond := [Cond.selects RJx4a65c yJx4a65c_size_8abf5 yJx4a65c_size_8abf5, Cond.initialized RJx4a65c, Cond.code yJx4a65c_size_8abf5 cJx4a65c_size_8abf5 1 (some .int), Cond.fieldLink RJx4a65c 48 "java/util/ArrayList" "size" "I", Cond.methodLink RX2 68 yX2_isBetween, Cond.static yX2_isBetween, Cond.code yX2_isBetween cX2_isBetween 3 (some .boolean), Cond.methodLink RX2 89 yJx4a65c_get_915e3, Cond.instanceMethod yJx4a65c_get_915e3, Cond.selects RJx4a65c yJx4a65c_get_915e3 yJx4a65c_get_915e3, Cond.code yJx4a65c_get_915e3 cJx4a65c_get_915e3 2 (some (.object "java/lang/Object")), Cond.methodLink RJx4a65c 118 yJ15_checkIndex_7cf53, Cond.static yJ15_checkIndex_7cf53, Cond.initialized RJ15, Cond.code yJ15_checkIndex_7cf53 cJ15_checkIndex_7cf53 2 (some .int), Cond.methodLink RJ15 105 yJ3_checkIndex_8e157, Cond.static yJ3_checkIndex_8e157, Cond.initialized RJ3, Cond.code yJ3_checkIndex_8e157 cJ3_checkIndex_8e157 3 (some .int), Cond.methodLink RJx4a65c 123 yJx4a65c_elementData_915e3, Cond.instanceMethod yJx4a65c_elementData_915e3, Cond.selects RJx4a65c yJx4a65c_elementData_915e3 yJx4a65c_elementData_915e3, Cond.code yJx4a65c_elementData_915e3 cJx4a65c_elementData_915e3 2 (some (.object "java/lang/Object")), Cond.fieldLink RJx4a65c 9 "java/util/ArrayList" "elementData" "[Ljava/lang/Object;"]
def wsL_take_r3 : List Cond := [Cond.methodLink RX2 149 yX2_uppermostAt, Cond.instanceMethod yX2_uppermostAt, Cond.selects RX2 yX2_uppermostAt yX2_uppermostAt, Cond.code yX2_uppermostAt cX2_uppermostAt 2 (some (.object "TreadCranes$Barrel")), Cond.fieldLink RX2 11 "TreadCranes" "uppermost" "[LTreadCranes$Barrel;", Cond.methodLink RX2 204 yX2_isPlace, Cond.static yX2_isPlace, Cond.code yX2_isPlace cX2_isPlace 1 (some .boolean), Cond.methodLink RX2 36 yX2_heightOf, Cond.instanceMethod yX2_heightOf, Cond.selects RX2 yX2_heightOf yX2_heightOf, Cond.code yX2_heightOf cX2_heightOf 3 (some .int), Cond.fieldLink RX2 222 "TreadCranes$Barrel" "level" "I", Cond.methodLink RX2 155 yX2_removeUppermost, Cond.instanceMethod yX2_removeUppermost, Cond.selects RX2 yX2_removeUppermost yX2_removeUppermost, Cond.code yX2_removeUppermost cX2_removeUppermost 3 none, Cond.fieldLink RX2 231 "TreadCranes$Barrel" "below" "LTreadCranes$Barrel;", Cond.fieldLink RX2 193 "TreadCranes$Barrel" "place" "I"]
def wsL_take : List Cond := .codeWith yL_take cL_take 4 (some .int) [(0, 9, 12, 13), (0, 9, 15, 17)] :: ((wsL_take_r1 ++ (wsL_take_r2 ++ wsL_take_r3)) ++ wsX20 ++ wsX10 ++ wsX00 ++ wsJx4a65c0 ++ (vx_atS RX2 44 "java/lang/IllegalStateException" ["java/lang/RuntimeException", "java/lang/Exception"]).filter goodWord ++ (vx_atS RX2 175 "java/lang/IndexOutOfBoundsException" ["java/lang/RuntimeException", "java/lang/Exception"]).filter goodWord)
def wsL_lay_r1 : List Cond := [Cond.classLink RL 13 "java/lang/IndexOutOfBoundsException", Cond.classLink RL 17 "java/lang/IllegalStateException", Cond.methodLink RL 39 yX2_lay, Cond.instanceMethod yX2_lay, Cond.selects RX2 yX2_lay yX2_lay, Cond.initialized RX2, Cond.code yX2_lay cX2_lay 5 (some .int), Cond.classLink RX2 40 "java/lang/IllegalStateException", Cond.initialized "java/lang/IllegalStateException", Cond.fieldLink RX2 22 "TreadCranes" "cranes" "Ljava/util/ArrayList;", Cond.classLink RX2 81 "TreadCranes$Crane", Cond.fieldLink RX2 130 "TreadCranes$Crane" "load" "LTreadCranes$Barrel;", Cond.fieldLink RX2 108 "TreadCranes$Crane" "hookPlace" "I", Cond.fieldLink RX2 105 "TreadCranes$Crane" "hookHeight" "I", Cond.fieldLink RX2 158 "TreadCranes$Barrel" "crane" "I", Cond.methodLink RX2 86 yX2_requireCrane, Cond.instanceMethod yX2_requireCrane, Cond.selects RX2 yX2_requireCrane yX2_requireCrane, Cond.code yX2_requireCrane cX2_requireCrane 2 none, Cond.classLink RX2 171 "java/lang/IndexOutOfBoundsException", Cond.initialized "java/lang/IndexOutOfBoundsException", Cond.methodLink RX2 32 yJx4a65c_size_8abf5, Cond.instanceMethod yJx4a65c_size_8abf5, Cond.selects RJx4a65c yJx4a65c_size_8abf5 yJx4a65c_size_8abf5]
def wsL_lay_r2 : List Cond := [Cond.initialized RJx4a65c, Cond.code yJx4a65c_size_8abf5 cJx4a65c_size_8abf5 1 (some .int), Cond.fieldLink RJx4a65c 48 "java/util/ArrayList" "size" "I", Cond.methodLink RX2 68 yX2_isBetween, Cond.static yX2_isBetween, Cond.code yX2_isBetween cX2_isBetween 3 (some .boolean), Cond.methodLink RX2 89 yJx4a65c_get_915e3, Cond.instanceMethod yJx4a65c_get_915e3, Cond.selects RJx4a65c yJx4a65c_get_915e3 yJx4a65c_get_915e3, Cond.code yJx4a65c_get_915e3 cJx4a65c_get_915e3 2 (some (.object "java/lang/Object")), Cond.methodLink RJx4a65c 118 yJ15_checkIndex_7cf53, Cond.static yJ15_checkIndex_7cf53, Cond.initialized RJ15, Cond.code yJ15_checkIndex_7cf53 cJ15_checkIndex_7cf53 2 (some .int), Cond.methodLink RJ15 105 yJ3_checkIndex_8e157, Cond.static yJ3_checkIndex_8e157, Cond.initialized RJ3, Cond.code yJ3_checkIndex_8e157 cJ3_checkIndex_8e157 3 (some .int), Cond.methodLink RJx4a65c 123 yJx4a65c_elementData_915e3, Cond.instanceMethod yJx4a65c_elementData_915e3, Cond.selects RJx4a65c yJx4a65c_elementData_915e3 yJx4a65c_elementData_915e3, Cond.code yJx4a65c_elementData_915e3 cJx4a65c_elementData_915e3 2 (some (.object "java/lang/Object")), Cond.fieldLink RJx4a65c 9 "java/util/ArrayList" "elementData" "[Ljava/lang/Object;", Cond.methodLink RX2 36 yX2_heightOf]
def wsL_lay_r3 : List Cond := [Cond.instanceMethod yX2_heightOf, Cond.selects RX2 yX2_heightOf yX2_heightOf, Cond.code yX2_heightOf cX2_heightOf 3 (some .int), Cond.fieldLink RX2 222 "TreadCranes$Barrel" "level" "I", Cond.methodLink RX2 149 yX2_uppermostAt, Cond.instanceMethod yX2_uppermostAt, Cond.selects RX2 yX2_uppermostAt yX2_uppermostAt, Cond.code yX2_uppermostAt cX2_uppermostAt 2 (some (.object "TreadCranes$Barrel")), Cond.fieldLink RX2 11 "TreadCranes" "uppermost" "[LTreadCranes$Barrel;", Cond.methodLink RX2 204 yX2_isPlace, Cond.static yX2_isPlace, Cond.code yX2_isPlace cX2_isPlace 1 (some .boolean), Cond.methodLink RX2 47 yX2_hooksAllow, Cond.instanceMethod yX2_hooksAllow, Cond.selects RX2 yX2_hooksAllow yX2_hooksAllow, Cond.code yX2_hooksAllow cX2_hooksAllow 6 (some .boolean), Cond.methodLink RX2 115 yX1_lowestHook, Cond.instanceMethod yX1_lowestHook, Cond.selects RX1 yX1_lowestHook yX1_lowestHook, Cond.initialized RX1, Cond.code yX1_lowestHook cX1_lowestHook 2 (some .int), Cond.fieldLink RX1 38 "TreadCranes$Crane" "load" "LTreadCranes$Barrel;", Cond.methodLink RX2 60 yX2_putUpon, Cond.instanceMethod yX2_putUpon]
def wsL_lay_r4 : List Cond := [Cond.selects RX2 yX2_putUpon yX2_putUpon, Cond.code yX2_putUpon cX2_putUpon 3 none, Cond.fieldLink RX2 193 "TreadCranes$Barrel" "place" "I", Cond.fieldLink RX2 231 "TreadCranes$Barrel" "below" "LTreadCranes$Barrel;"]
def wsL_lay : List Cond := .codeWith yL_lay cL_lay 4 (some .int) [(0, 9, 12, 13), (0, 9, 15, 17)] :: ((wsL_lay_r1 ++ (wsL_lay_r2 ++ (wsL_lay_r3 ++ wsL_lay_r4))) ++ wsX20 ++ wsX10 ++ wsX00 ++ wsJx4a65c0 ++ (vx_atS RX2 44 "java/lang/IllegalStateException" ["java/lang/RuntimeException", "java/lang/Exception"]).filter goodWord ++ (vx_atS RX2 175 "java/lang/IndexOutOfBoundsException" ["java/lang/RuntimeException", "java/lang/Exception"]).filter goodWord)
def wsL_place_r1 : List Cond := [Cond.classLink RL 13 "java/lang/IndexOutOfBoundsException", Cond.methodLink RL 42 yX2_place, Cond.instanceMethod yX2_place, Cond.selects RX2 yX2_place yX2_place, Cond.initialized RX2, Cond.code yX2_place cX2_place 3 (some .int), Cond.methodLink RX2 25 yX2_requirePlace, Cond.static yX2_requirePlace, Cond.code yX2_requirePlace cX2_requirePlace 1 none, Cond.classLink RX2 171 "java/lang/IndexOutOfBoundsException", Cond.initialized "java/lang/IndexOutOfBoundsException", Cond.methodLink RX2 204 yX2_isPlace, Cond.static yX2_isPlace, Cond.code yX2_isPlace cX2_isPlace 1 (some .boolean), Cond.methodLink RX2 68 yX2_isBetween, Cond.static yX2_isBetween, Cond.code yX2_isBetween cX2_isBetween 3 (some .boolean), Cond.methodLink RX2 165 yX2_requireAnswer, Cond.static yX2_requireAnswer, Cond.code yX2_requireAnswer cX2_requireAnswer 2 none, Cond.methodLink RX2 168 yX2_placeAnswer, Cond.instanceMethod yX2_placeAnswer, Cond.selects RX2 yX2_placeAnswer yX2_placeAnswer, Cond.code yX2_placeAnswer cX2_placeAnswer 3 (some .int)]
def wsL_place_r2 : List Cond := [Cond.methodLink RX2 36 yX2_heightOf, Cond.instanceMethod yX2_heightOf, Cond.selects RX2 yX2_heightOf yX2_heightOf, Cond.code yX2_heightOf cX2_heightOf 3 (some .int), Cond.fieldLink RX2 222 "TreadCranes$Barrel" "level" "I", Cond.methodLink RX2 149 yX2_uppermostAt, Cond.instanceMethod yX2_uppermostAt, Cond.selects RX2 yX2_uppermostAt yX2_uppermostAt, Cond.code yX2_uppermostAt cX2_uppermostAt 2 (some (.object "TreadCranes$Barrel")), Cond.fieldLink RX2 11 "TreadCranes" "uppermost" "[LTreadCranes$Barrel;", Cond.methodLink RX2 248 yX2_numberOf, Cond.static yX2_numberOf, Cond.code yX2_numberOf cX2_numberOf 1 (some .int), Cond.fieldLink RX2 64 "TreadCranes$Barrel" "number" "I", Cond.methodLink RX2 252 yX2_weightsAt, Cond.instanceMethod yX2_weightsAt, Cond.selects RX2 yX2_weightsAt yX2_weightsAt, Cond.code yX2_weightsAt cX2_weightsAt 4 (some .int), Cond.fieldLink RX2 134 "TreadCranes$Barrel" "weight" "I", Cond.fieldLink RX2 231 "TreadCranes$Barrel" "below" "LTreadCranes$Barrel;", Cond.methodLink RX2 255 yX2_hooksOver, Cond.instanceMethod yX2_hooksOver, Cond.selects RX2 yX2_hooksOver yX2_hooksOver, Cond.code yX2_hooksOver cX2_hooksOver 4 (some .int)]
def wsL_place_r3 : List Cond := [Cond.fieldLink RX2 22 "TreadCranes" "cranes" "Ljava/util/ArrayList;", Cond.classLink RX2 81 "TreadCranes$Crane", Cond.fieldLink RX2 108 "TreadCranes$Crane" "hookPlace" "I", Cond.methodLink RX2 32 yJx4a65c_size_8abf5, Cond.instanceMethod yJx4a65c_size_8abf5, Cond.selects RJx4a65c yJx4a65c_size_8abf5 yJx4a65c_size_8abf5, Cond.initialized RJx4a65c, Cond.code yJx4a65c_size_8abf5 cJx4a65c_size_8abf5 1 (some .int), Cond.fieldLink RJx4a65c 48 "java/util/ArrayList" "size" "I", Cond.methodLink RX2 89 yJx4a65c_get_915e3, Cond.instanceMethod yJx4a65c_get_915e3, Cond.selects RJx4a65c yJx4a65c_get_915e3 yJx4a65c_get_915e3, Cond.code yJx4a65c_get_915e3 cJx4a65c_get_915e3 2 (some (.object "java/lang/Object")), Cond.methodLink RJx4a65c 118 yJ15_checkIndex_7cf53, Cond.static yJ15_checkIndex_7cf53, Cond.initialized RJ15, Cond.code yJ15_checkIndex_7cf53 cJ15_checkIndex_7cf53 2 (some .int), Cond.methodLink RJ15 105 yJ3_checkIndex_8e157, Cond.static yJ3_checkIndex_8e157, Cond.initialized RJ3, Cond.code yJ3_checkIndex_8e157 cJ3_checkIndex_8e157 3 (some .int), Cond.methodLink RJx4a65c 123 yJx4a65c_elementData_915e3, Cond.instanceMethod yJx4a65c_elementData_915e3, Cond.selects RJx4a65c yJx4a65c_elementData_915e3 yJx4a65c_elementData_915e3]
def wsL_place_r4 : List Cond := [Cond.code yJx4a65c_elementData_915e3 cJx4a65c_elementData_915e3 2 (some (.object "java/lang/Object")), Cond.fieldLink RJx4a65c 9 "java/util/ArrayList" "elementData" "[Ljava/lang/Object;"]
def wsL_place : List Cond := .codeWith yL_place cL_place 5 (some .int) [(0, 10, 13, 13)] :: ((wsL_place_r1 ++ (wsL_place_r2 ++ (wsL_place_r3 ++ wsL_place_r4))) ++ wsX00 ++ wsX20 ++ wsX10 ++ wsJx4a65c0 ++ (vx_atS RX2 175 "java/lang/IndexOutOfBoundsException" ["java/lang/RuntimeException", "java/lang/Exception"]).filter goodWord)
def wsL_barrel_r1 : List Cond := [Cond.classLink RL 13 "java/lang/IndexOutOfBoundsException", Cond.methodLink RL 45 yX2_barrel, Cond.instanceMethod yX2_barrel, Cond.selects RX2 yX2_barrel yX2_barrel, Cond.initialized RX2, Cond.code yX2_barrel cX2_barrel 3 (some .int), Cond.classLink RX2 171 "java/lang/IndexOutOfBoundsException", Cond.initialized "java/lang/IndexOutOfBoundsException", Cond.fieldLink RX2 18 "TreadCranes" "barrels" "Ljava/util/ArrayList;", Cond.classLink RX2 9 "TreadCranes$Barrel", Cond.methodLink RX2 32 yJx4a65c_size_8abf5, Cond.instanceMethod yJx4a65c_size_8abf5, Cond.selects RJx4a65c yJx4a65c_size_8abf5 yJx4a65c_size_8abf5, Cond.initialized RJx4a65c, Cond.code yJx4a65c_size_8abf5 cJx4a65c_size_8abf5 1 (some .int), Cond.fieldLink RJx4a65c 48 "java/util/ArrayList" "size" "I", Cond.methodLink RX2 68 yX2_isBetween, Cond.static yX2_isBetween, Cond.code yX2_isBetween cX2_isBetween 3 (some .boolean), Cond.methodLink RX2 165 yX2_requireAnswer, Cond.static yX2_requireAnswer, Cond.code yX2_requireAnswer cX2_requireAnswer 2 none, Cond.methodLink RX2 89 yJx4a65c_get_915e3, Cond.instanceMethod yJx4a65c_get_915e3]
def wsL_barrel_r2 : List Cond := [Cond.selects RJx4a65c yJx4a65c_get_915e3 yJx4a65c_get_915e3, Cond.code yJx4a65c_get_915e3 cJx4a65c_get_915e3 2 (some (.object "java/lang/Object")), Cond.methodLink RJx4a65c 118 yJ15_checkIndex_7cf53, Cond.static yJ15_checkIndex_7cf53, Cond.initialized RJ15, Cond.code yJ15_checkIndex_7cf53 cJ15_checkIndex_7cf53 2 (some .int), Cond.methodLink RJ15 105 yJ3_checkIndex_8e157, Cond.static yJ3_checkIndex_8e157, Cond.initialized RJ3, Cond.code yJ3_checkIndex_8e157 cJ3_checkIndex_8e157 3 (some .int), Cond.methodLink RJx4a65c 123 yJx4a65c_elementData_915e3, Cond.instanceMethod yJx4a65c_elementData_915e3, Cond.selects RJx4a65c yJx4a65c_elementData_915e3 yJx4a65c_elementData_915e3, Cond.code yJx4a65c_elementData_915e3 cJx4a65c_elementData_915e3 2 (some (.object "java/lang/Object")), Cond.fieldLink RJx4a65c 9 "java/util/ArrayList" "elementData" "[Ljava/lang/Object;", Cond.methodLink RX2 176 yX2_barrelAnswer, Cond.instanceMethod yX2_barrelAnswer, Cond.selects RX2 yX2_barrelAnswer yX2_barrelAnswer, Cond.code yX2_barrelAnswer cX2_barrelAnswer 3 (some .int), Cond.fieldLink RX2 134 "TreadCranes$Barrel" "weight" "I", Cond.fieldLink RX2 193 "TreadCranes$Barrel" "place" "I", Cond.fieldLink RX2 222 "TreadCranes$Barrel" "level" "I", Cond.fieldLink RX2 158 "TreadCranes$Barrel" "crane" "I", Cond.fieldLink RX2 196 "TreadCranes$Barrel" "broken" "Z"]
def wsL_barrel_r3 : List Cond := [Cond.methodLink RX2 36 yX2_heightOf, Cond.instanceMethod yX2_heightOf, Cond.selects RX2 yX2_heightOf yX2_heightOf, Cond.code yX2_heightOf cX2_heightOf 3 (some .int), Cond.methodLink RX2 149 yX2_uppermostAt, Cond.instanceMethod yX2_uppermostAt, Cond.selects RX2 yX2_uppermostAt yX2_uppermostAt, Cond.code yX2_uppermostAt cX2_uppermostAt 2 (some (.object "TreadCranes$Barrel")), Cond.fieldLink RX2 11 "TreadCranes" "uppermost" "[LTreadCranes$Barrel;", Cond.methodLink RX2 204 yX2_isPlace, Cond.static yX2_isPlace, Cond.code yX2_isPlace cX2_isPlace 1 (some .boolean)]
def wsL_barrel : List Cond := .codeWith yL_barrel cL_barrel 5 (some .int) [(0, 10, 13, 13)] :: ((wsL_barrel_r1 ++ (wsL_barrel_r2 ++ wsL_barrel_r3)) ++ wsX20 ++ wsJx4a65c0 ++ wsX00 ++ (vx_atS RX2 175 "java/lang/IndexOutOfBoundsException" ["java/lang/RuntimeException", "java/lang/Exception"]).filter goodWord)
def wsL_crane_r1 : List Cond := [Cond.classLink RL 13 "java/lang/IndexOutOfBoundsException", Cond.methodLink RL 48 yX2_crane, Cond.instanceMethod yX2_crane, Cond.selects RX2 yX2_crane yX2_crane, Cond.initialized RX2, Cond.code yX2_crane cX2_crane 3 (some .int), Cond.fieldLink RX2 22 "TreadCranes" "cranes" "Ljava/util/ArrayList;", Cond.classLink RX2 81 "TreadCranes$Crane", Cond.methodLink RX2 86 yX2_requireCrane, Cond.instanceMethod yX2_requireCrane, Cond.selects RX2 yX2_requireCrane yX2_requireCrane, Cond.code yX2_requireCrane cX2_requireCrane 2 none, Cond.classLink RX2 171 "java/lang/IndexOutOfBoundsException", Cond.initialized "java/lang/IndexOutOfBoundsException", Cond.methodLink RX2 32 yJx4a65c_size_8abf5, Cond.instanceMethod yJx4a65c_size_8abf5, Cond.selects RJx4a65c yJx4a65c_size_8abf5 yJx4a65c_size_8abf5, Cond.initialized RJx4a65c, Cond.code yJx4a65c_size_8abf5 cJx4a65c_size_8abf5 1 (some .int), Cond.fieldLink RJx4a65c 48 "java/util/ArrayList" "size" "I", Cond.methodLink RX2 68 yX2_isBetween, Cond.static yX2_isBetween, Cond.code yX2_isBetween cX2_isBetween 3 (some .boolean), Cond.methodLink RX2 165 yX2_requireAnswer]
def wsL_crane_r2 : List Cond := [Cond.static yX2_requireAnswer, Cond.code yX2_requireAnswer cX2_requireAnswer 2 none, Cond.methodLink RX2 89 yJx4a65c_get_915e3, Cond.instanceMethod yJx4a65c_get_915e3, Cond.selects RJx4a65c yJx4a65c_get_915e3 yJx4a65c_get_915e3, Cond.code yJx4a65c_get_915e3 cJx4a65c_get_915e3 2 (some (.object "java/lang/Object")), Cond.methodLink RJx4a65c 118 yJ15_checkIndex_7cf53, Cond.static yJ15_checkIndex_7cf53, Cond.initialized RJ15, Cond.code yJ15_checkIndex_7cf53 cJ15_checkIndex_7cf53 2 (some .int), Cond.methodLink RJ15 105 yJ3_checkIndex_8e157, Cond.static yJ3_checkIndex_8e157, Cond.initialized RJ3, Cond.code yJ3_checkIndex_8e157 cJ3_checkIndex_8e157 3 (some .int), Cond.methodLink RJx4a65c 123 yJx4a65c_elementData_915e3, Cond.instanceMethod yJx4a65c_elementData_915e3, Cond.selects RJx4a65c yJx4a65c_elementData_915e3 yJx4a65c_elementData_915e3, Cond.code yJx4a65c_elementData_915e3 cJx4a65c_elementData_915e3 2 (some (.object "java/lang/Object")), Cond.fieldLink RJx4a65c 9 "java/util/ArrayList" "elementData" "[Ljava/lang/Object;", Cond.methodLink RX2 180 yX2_craneAnswer, Cond.static yX2_craneAnswer, Cond.code yX2_craneAnswer cX2_craneAnswer 2 (some .int), Cond.fieldLink RX2 258 "TreadCranes$Crane" "place" "I", Cond.fieldLink RX2 259 "TreadCranes$Crane" "reach" "I"]
def wsL_crane_r3 : List Cond := [Cond.fieldLink RX2 262 "TreadCranes$Crane" "drum" "I", Cond.fieldLink RX2 93 "TreadCranes$Crane" "walkers" "I", Cond.fieldLink RX2 96 "TreadCranes$Crane" "worn" "I", Cond.fieldLink RX2 108 "TreadCranes$Crane" "hookPlace" "I", Cond.fieldLink RX2 105 "TreadCranes$Crane" "hookHeight" "I", Cond.fieldLink RX2 130 "TreadCranes$Crane" "load" "LTreadCranes$Barrel;", Cond.methodLink RX2 248 yX2_numberOf, Cond.static yX2_numberOf, Cond.code yX2_numberOf cX2_numberOf 1 (some .int), Cond.fieldLink RX2 64 "TreadCranes$Barrel" "number" "I", Cond.methodLink RX2 265 yX1_strength, Cond.instanceMethod yX1_strength, Cond.selects RX1 yX1_strength yX1_strength, Cond.initialized RX1, Cond.code yX1_strength cX1_strength 1 (some .int), Cond.fieldLink RX1 21 "TreadCranes$Crane" "drum" "I", Cond.fieldLink RX1 24 "TreadCranes$Crane" "walkers" "I"]
def wsL_crane : List Cond := .codeWith yL_crane cL_crane 5 (some .int) [(0, 10, 13, 13)] :: ((wsL_crane_r1 ++ (wsL_crane_r2 ++ wsL_crane_r3)) ++ wsX20 ++ wsJx4a65c0 ++ wsX10 ++ wsX00 ++ (vx_atS RX2 175 "java/lang/IndexOutOfBoundsException" ["java/lang/RuntimeException", "java/lang/Exception"]).filter goodWord)
def wsL_count_r1 : List Cond := [Cond.classLink RL 13 "java/lang/IndexOutOfBoundsException", Cond.methodLink RL 51 yX2_count, Cond.instanceMethod yX2_count, Cond.selects RX2 yX2_count yX2_count, Cond.initialized RX2, Cond.code yX2_count cX2_count 2 (some .int), Cond.methodLink RX2 165 yX2_requireAnswer, Cond.static yX2_requireAnswer, Cond.code yX2_requireAnswer cX2_requireAnswer 2 none, Cond.classLink RX2 171 "java/lang/IndexOutOfBoundsException", Cond.initialized "java/lang/IndexOutOfBoundsException", Cond.methodLink RX2 68 yX2_isBetween, Cond.static yX2_isBetween, Cond.code yX2_isBetween cX2_isBetween 3 (some .boolean), Cond.methodLink RX2 183 yX2_countAnswer, Cond.instanceMethod yX2_countAnswer, Cond.selects RX2 yX2_countAnswer yX2_countAnswer, Cond.code yX2_countAnswer cX2_countAnswer 2 (some .int), Cond.fieldLink RX2 123 "TreadCranes" "ticks" "I", Cond.fieldLink RX2 18 "TreadCranes" "barrels" "Ljava/util/ArrayList;", Cond.fieldLink RX2 22 "TreadCranes" "cranes" "Ljava/util/ArrayList;", Cond.methodLink RX2 32 yJx4a65c_size_8abf5, Cond.instanceMethod yJx4a65c_size_8abf5, Cond.selects RJx4a65c yJx4a65c_size_8abf5 yJx4a65c_size_8abf5]
def wsL_count_r2 : List Cond := [Cond.initialized RJx4a65c, Cond.code yJx4a65c_size_8abf5 cJx4a65c_size_8abf5 1 (some .int), Cond.fieldLink RJx4a65c 48 "java/util/ArrayList" "size" "I", Cond.methodLink RX2 268 yX2_standing, Cond.instanceMethod yX2_standing, Cond.selects RX2 yX2_standing yX2_standing, Cond.code yX2_standing cX2_standing 3 (some .int), Cond.methodLink RX2 36 yX2_heightOf, Cond.instanceMethod yX2_heightOf, Cond.selects RX2 yX2_heightOf yX2_heightOf, Cond.code yX2_heightOf cX2_heightOf 3 (some .int), Cond.fieldLink RX2 222 "TreadCranes$Barrel" "level" "I", Cond.methodLink RX2 149 yX2_uppermostAt, Cond.instanceMethod yX2_uppermostAt, Cond.selects RX2 yX2_uppermostAt yX2_uppermostAt, Cond.code yX2_uppermostAt cX2_uppermostAt 2 (some (.object "TreadCranes$Barrel")), Cond.fieldLink RX2 11 "TreadCranes" "uppermost" "[LTreadCranes$Barrel;", Cond.methodLink RX2 204 yX2_isPlace, Cond.static yX2_isPlace, Cond.code yX2_isPlace cX2_isPlace 1 (some .boolean), Cond.methodLink RX2 271 yX2_hanging, Cond.instanceMethod yX2_hanging, Cond.selects RX2 yX2_hanging yX2_hanging, Cond.code yX2_hanging cX2_hanging 3 (some .int)]
def wsL_count_r3 : List Cond := [Cond.classLink RX2 81 "TreadCranes$Crane", Cond.fieldLink RX2 130 "TreadCranes$Crane" "load" "LTreadCranes$Barrel;", Cond.methodLink RX2 89 yJx4a65c_get_915e3, Cond.instanceMethod yJx4a65c_get_915e3, Cond.selects RJx4a65c yJx4a65c_get_915e3 yJx4a65c_get_915e3, Cond.code yJx4a65c_get_915e3 cJx4a65c_get_915e3 2 (some (.object "java/lang/Object")), Cond.methodLink RJx4a65c 118 yJ15_checkIndex_7cf53, Cond.static yJ15_checkIndex_7cf53, Cond.initialized RJ15, Cond.code yJ15_checkIndex_7cf53 cJ15_checkIndex_7cf53 2 (some .int), Cond.methodLink RJ15 105 yJ3_checkIndex_8e157, Cond.static yJ3_checkIndex_8e157, Cond.initialized RJ3, Cond.code yJ3_checkIndex_8e157 cJ3_checkIndex_8e157 3 (some .int), Cond.methodLink RJx4a65c 123 yJx4a65c_elementData_915e3, Cond.instanceMethod yJx4a65c_elementData_915e3, Cond.selects RJx4a65c yJx4a65c_elementData_915e3 yJx4a65c_elementData_915e3, Cond.code yJx4a65c_elementData_915e3 cJx4a65c_elementData_915e3 2 (some (.object "java/lang/Object")), Cond.fieldLink RJx4a65c 9 "java/util/ArrayList" "elementData" "[Ljava/lang/Object;", Cond.methodLink RX2 111 yX2_highestBetween, Cond.instanceMethod yX2_highestBetween, Cond.selects RX2 yX2_highestBetween yX2_highestBetween, Cond.code yX2_highestBetween cX2_highestBetween 5 (some .int), Cond.methodLink RX2 225 Lib.Math.min.name]
def wsL_count_r4 : List Cond := [Cond.static Lib.Math.min.name, Cond.initialized "java/lang/Math", Cond.code Lib.Math.min.name Lib.Math.min.code 2 (some .int), Cond.methodLink RX2 228 Lib.Math.max.name, Cond.static Lib.Math.max.name, Cond.code Lib.Math.max.name Lib.Math.max.code 2 (some .int)]
def wsL_count : List Cond := .codeWith yL_count cL_count 4 (some .int) [(0, 9, 12, 13)] :: ((wsL_count_r1 ++ (wsL_count_r2 ++ (wsL_count_r3 ++ wsL_count_r4))) ++ wsX20 ++ wsJx4a65c0 ++ wsX00 ++ wsX10 ++ (vx_atS RX2 175 "java/lang/IndexOutOfBoundsException" ["java/lang/RuntimeException", "java/lang/Exception"]).filter goodWord)
def wsL_move_r1 : List Cond := [Cond.classLink RL 13 "java/lang/IndexOutOfBoundsException", Cond.methodLink RL 54 yX2_move, Cond.instanceMethod yX2_move, Cond.selects RX2 yX2_move yX2_move, Cond.initialized RX2, Cond.code yX2_move cX2_move 4 (some .int), Cond.fieldLink RX2 22 "TreadCranes" "cranes" "Ljava/util/ArrayList;", Cond.classLink RX2 81 "TreadCranes$Crane", Cond.methodLink RX2 86 yX2_requireCrane, Cond.instanceMethod yX2_requireCrane, Cond.selects RX2 yX2_requireCrane yX2_requireCrane, Cond.code yX2_requireCrane cX2_requireCrane 2 none, Cond.classLink RX2 171 "java/lang/IndexOutOfBoundsException", Cond.initialized "java/lang/IndexOutOfBoundsException", Cond.methodLink RX2 32 yJx4a65c_size_8abf5, Cond.instanceMethod yJx4a65c_size_8abf5, Cond.selects RJx4a65c yJx4a65c_size_8abf5 yJx4a65c_size_8abf5, Cond.initialized RJx4a65c, Cond.code yJx4a65c_size_8abf5 cJx4a65c_size_8abf5 1 (some .int), Cond.fieldLink RJx4a65c 48 "java/util/ArrayList" "size" "I", Cond.methodLink RX2 68 yX2_isBetween, Cond.static yX2_isBetween, Cond.code yX2_isBetween cX2_isBetween 3 (some .boolean), Cond.methodLink RX2 25 yX2_requirePlace]
def wsL_move_r2 : List Cond := [Cond.static yX2_requirePlace, Cond.code yX2_requirePlace cX2_requirePlace 1 none, Cond.methodLink RX2 204 yX2_isPlace, Cond.static yX2_isPlace, Cond.code yX2_isPlace cX2_isPlace 1 (some .boolean), Cond.methodLink RX2 89 yJx4a65c_get_915e3, Cond.instanceMethod yJx4a65c_get_915e3, Cond.selects RJx4a65c yJx4a65c_get_915e3 yJx4a65c_get_915e3, Cond.code yJx4a65c_get_915e3 cJx4a65c_get_915e3 2 (some (.object "java/lang/Object")), Cond.methodLink RJx4a65c 118 yJ15_checkIndex_7cf53, Cond.static yJ15_checkIndex_7cf53, Cond.initialized RJ15, Cond.code yJ15_checkIndex_7cf53 cJ15_checkIndex_7cf53 2 (some .int), Cond.methodLink RJ15 105 yJ3_checkIndex_8e157, Cond.static yJ3_checkIndex_8e157, Cond.initialized RJ3, Cond.code yJ3_checkIndex_8e157 cJ3_checkIndex_8e157 3 (some .int), Cond.methodLink RJx4a65c 123 yJx4a65c_elementData_915e3, Cond.instanceMethod yJx4a65c_elementData_915e3, Cond.selects RJx4a65c yJx4a65c_elementData_915e3 yJx4a65c_elementData_915e3, Cond.code yJx4a65c_elementData_915e3 cJx4a65c_elementData_915e3 2 (some (.object "java/lang/Object")), Cond.fieldLink RJx4a65c 9 "java/util/ArrayList" "elementData" "[Ljava/lang/Object;", Cond.methodLink RX2 186 yX2_ticksToMove, Cond.instanceMethod yX2_ticksToMove]
def wsL_move_r3 : List Cond := [Cond.selects RX2 yX2_ticksToMove yX2_ticksToMove, Cond.code yX2_ticksToMove cX2_ticksToMove 11 (some .int), Cond.fieldLink RX2 134 "TreadCranes$Barrel" "weight" "I", Cond.fieldLink RX2 105 "TreadCranes$Crane" "hookHeight" "I", Cond.fieldLink RX2 108 "TreadCranes$Crane" "hookPlace" "I", Cond.methodLink RX2 228 Lib.Math.max.name, Cond.static Lib.Math.max.name, Cond.initialized "java/lang/Math", Cond.code Lib.Math.max.name Lib.Math.max.code 2 (some .int), Cond.methodLink RX2 149 yX2_uppermostAt, Cond.instanceMethod yX2_uppermostAt, Cond.selects RX2 yX2_uppermostAt yX2_uppermostAt, Cond.code yX2_uppermostAt cX2_uppermostAt 2 (some (.object "TreadCranes$Barrel")), Cond.fieldLink RX2 11 "TreadCranes" "uppermost" "[LTreadCranes$Barrel;", Cond.methodLink RX2 137 yX1_canLift, Cond.instanceMethod yX1_canLift, Cond.selects RX1 yX1_canLift yX1_canLift, Cond.initialized RX1, Cond.code yX1_canLift cX1_canLift 2 (some .boolean), Cond.methodLink RX1 30 yX1_strength, Cond.instanceMethod yX1_strength, Cond.selects RX1 yX1_strength yX1_strength, Cond.code yX1_strength cX1_strength 1 (some .int), Cond.fieldLink RX1 21 "TreadCranes$Crane" "drum" "I"]
def wsL_move_r4 : List Cond := [Cond.fieldLink RX1 24 "TreadCranes$Crane" "walkers" "I", Cond.methodLink RX2 244 yX2_isFreeToMove, Cond.instanceMethod yX2_isFreeToMove, Cond.selects RX2 yX2_isFreeToMove yX2_isFreeToMove, Cond.code yX2_isFreeToMove cX2_isFreeToMove 4 (some .boolean), Cond.fieldLink RX2 130 "TreadCranes$Crane" "load" "LTreadCranes$Barrel;", Cond.methodLink RX2 99 yX1_reaches, Cond.instanceMethod yX1_reaches, Cond.selects RX1 yX1_reaches yX1_reaches, Cond.code yX1_reaches cX1_reaches 2 (some .boolean), Cond.fieldLink RX1 15 "TreadCranes$Crane" "place" "I", Cond.fieldLink RX1 18 "TreadCranes$Crane" "reach" "I", Cond.static yX2_distance, Cond.code yX2_distance cX2_distance 2 (some .int), Cond.methodLink RX2 217 Lib.Math.abs.name, Cond.static Lib.Math.abs.name, Cond.code Lib.Math.abs.name Lib.Math.abs.code 1 (some .int), Cond.methodLink RX2 36 yX2_heightOf, Cond.instanceMethod yX2_heightOf, Cond.selects RX2 yX2_heightOf yX2_heightOf, Cond.code yX2_heightOf cX2_heightOf 3 (some .int), Cond.fieldLink RX2 222 "TreadCranes$Barrel" "level" "I", Cond.methodLink RX2 111 yX2_highestBetween, Cond.instanceMethod yX2_highestBetween]
def wsL_move_r5 : List Cond := [Cond.selects RX2 yX2_highestBetween yX2_highestBetween, Cond.code yX2_highestBetween cX2_highestBetween 5 (some .int), Cond.methodLink RX2 225 Lib.Math.min.name, Cond.static Lib.Math.min.name, Cond.code Lib.Math.min.name Lib.Math.min.code 2 (some .int), Cond.methodLink RX2 234 yX1_ticksToWind, Cond.instanceMethod yX1_ticksToWind, Cond.selects RX1 yX1_ticksToWind yX1_ticksToWind, Cond.code yX1_ticksToWind cX1_ticksToWind 2 (some .int), Cond.methodLink RX2 237 yX1_wornAfterLowering, Cond.instanceMethod yX1_wornAfterLowering, Cond.selects RX1 yX1_wornAfterLowering yX1_wornAfterLowering, Cond.code yX1_wornAfterLowering cX1_wornAfterLowering 3 (some .int), Cond.fieldLink RX1 42 "TreadCranes$Crane" "worn" "I", Cond.static yX2_wearInATick, Cond.code yX2_wearInATick cX2_wearInATick 1 (some .int), Cond.methodLink RX2 120 yX2_distance]
def wsL_move : List Cond := .codeWith yL_move cL_move 6 (some .int) [(0, 12, 15, 13)] :: ((wsL_move_r1 ++ (wsL_move_r2 ++ (wsL_move_r3 ++ (wsL_move_r4 ++ wsL_move_r5)))) ++ wsX20 ++ wsJx4a65c0 ++ wsX00 ++ wsX10 ++ (vx_atS RX2 175 "java/lang/IndexOutOfBoundsException" ["java/lang/RuntimeException", "java/lang/Exception"]).filter goodWord)
def wsL_best_r1 : List Cond := [Cond.classLink RL 13 "java/lang/IndexOutOfBoundsException", Cond.methodLink RL 58 yX2_best, Cond.instanceMethod yX2_best, Cond.selects RX2 yX2_best yX2_best, Cond.initialized RX2, Cond.code yX2_best cX2_best 7 (some .int), Cond.fieldLink RX2 22 "TreadCranes" "cranes" "Ljava/util/ArrayList;", Cond.classLink RX2 81 "TreadCranes$Crane", Cond.methodLink RX2 25 yX2_requirePlace, Cond.static yX2_requirePlace, Cond.code yX2_requirePlace cX2_requirePlace 1 none, Cond.classLink RX2 171 "java/lang/IndexOutOfBoundsException", Cond.initialized "java/lang/IndexOutOfBoundsException", Cond.methodLink RX2 204 yX2_isPlace, Cond.static yX2_isPlace, Cond.code yX2_isPlace cX2_isPlace 1 (some .boolean), Cond.methodLink RX2 68 yX2_isBetween, Cond.static yX2_isBetween, Cond.code yX2_isBetween cX2_isBetween 3 (some .boolean), Cond.methodLink RX2 32 yJx4a65c_size_8abf5, Cond.instanceMethod yJx4a65c_size_8abf5, Cond.selects RJx4a65c yJx4a65c_size_8abf5 yJx4a65c_size_8abf5, Cond.initialized RJx4a65c, Cond.code yJx4a65c_size_8abf5 cJx4a65c_size_8abf5 1 (some .int)]
def wsL_best_r2 : List Cond := [Cond.fieldLink RJx4a65c 48 "java/util/ArrayList" "size" "I", Cond.methodLink RX2 89 yJx4a65c_get_915e3, Cond.instanceMethod yJx4a65c_get_915e3, Cond.selects RJx4a65c yJx4a65c_get_915e3 yJx4a65c_get_915e3, Cond.code yJx4a65c_get_915e3 cJx4a65c_get_915e3 2 (some (.object "java/lang/Object")), Cond.methodLink RJx4a65c 118 yJ15_checkIndex_7cf53, Cond.static yJ15_checkIndex_7cf53, Cond.initialized RJ15, Cond.code yJ15_checkIndex_7cf53 cJ15_checkIndex_7cf53 2 (some .int), Cond.methodLink RJ15 105 yJ3_checkIndex_8e157, Cond.static yJ3_checkIndex_8e157, Cond.initialized RJ3, Cond.code yJ3_checkIndex_8e157 cJ3_checkIndex_8e157 3 (some .int), Cond.methodLink RJx4a65c 123 yJx4a65c_elementData_915e3, Cond.instanceMethod yJx4a65c_elementData_915e3, Cond.selects RJx4a65c yJx4a65c_elementData_915e3 yJx4a65c_elementData_915e3, Cond.code yJx4a65c_elementData_915e3 cJx4a65c_elementData_915e3 2 (some (.object "java/lang/Object")), Cond.fieldLink RJx4a65c 9 "java/util/ArrayList" "elementData" "[Ljava/lang/Object;", Cond.methodLink RX2 186 yX2_ticksToMove, Cond.instanceMethod yX2_ticksToMove, Cond.selects RX2 yX2_ticksToMove yX2_ticksToMove, Cond.code yX2_ticksToMove cX2_ticksToMove 11 (some .int), Cond.fieldLink RX2 134 "TreadCranes$Barrel" "weight" "I", Cond.fieldLink RX2 105 "TreadCranes$Crane" "hookHeight" "I"]
def wsL_best_r3 : List Cond := [Cond.fieldLink RX2 108 "TreadCranes$Crane" "hookPlace" "I", Cond.methodLink RX2 228 Lib.Math.max.name, Cond.static Lib.Math.max.name, Cond.initialized "java/lang/Math", Cond.code Lib.Math.max.name Lib.Math.max.code 2 (some .int), Cond.methodLink RX2 149 yX2_uppermostAt, Cond.instanceMethod yX2_uppermostAt, Cond.selects RX2 yX2_uppermostAt yX2_uppermostAt, Cond.code yX2_uppermostAt cX2_uppermostAt 2 (some (.object "TreadCranes$Barrel")), Cond.fieldLink RX2 11 "TreadCranes" "uppermost" "[LTreadCranes$Barrel;", Cond.methodLink RX2 137 yX1_canLift, Cond.instanceMethod yX1_canLift, Cond.selects RX1 yX1_canLift yX1_canLift, Cond.initialized RX1, Cond.code yX1_canLift cX1_canLift 2 (some .boolean), Cond.methodLink RX1 30 yX1_strength, Cond.instanceMethod yX1_strength, Cond.selects RX1 yX1_strength yX1_strength, Cond.code yX1_strength cX1_strength 1 (some .int), Cond.fieldLink RX1 21 "TreadCranes$Crane" "drum" "I", Cond.fieldLink RX1 24 "TreadCranes$Crane" "walkers" "I", Cond.methodLink RX2 244 yX2_isFreeToMove, Cond.instanceMethod yX2_isFreeToMove, Cond.selects RX2 yX2_isFreeToMove yX2_isFreeToMove]
def wsL_best_r4 : List Cond := [Cond.code yX2_isFreeToMove cX2_isFreeToMove 4 (some .boolean), Cond.fieldLink RX2 130 "TreadCranes$Crane" "load" "LTreadCranes$Barrel;", Cond.methodLink RX2 99 yX1_reaches, Cond.instanceMethod yX1_reaches, Cond.selects RX1 yX1_reaches yX1_reaches, Cond.code yX1_reaches cX1_reaches 2 (some .boolean), Cond.fieldLink RX1 15 "TreadCranes$Crane" "place" "I", Cond.fieldLink RX1 18 "TreadCranes$Crane" "reach" "I", Cond.static yX2_distance, Cond.code yX2_distance cX2_distance 2 (some .int), Cond.methodLink RX2 217 Lib.Math.abs.name, Cond.static Lib.Math.abs.name, Cond.code Lib.Math.abs.name Lib.Math.abs.code 1 (some .int), Cond.methodLink RX2 36 yX2_heightOf, Cond.instanceMethod yX2_heightOf, Cond.selects RX2 yX2_heightOf yX2_heightOf, Cond.code yX2_heightOf cX2_heightOf 3 (some .int), Cond.fieldLink RX2 222 "TreadCranes$Barrel" "level" "I", Cond.methodLink RX2 111 yX2_highestBetween, Cond.instanceMethod yX2_highestBetween, Cond.selects RX2 yX2_highestBetween yX2_highestBetween, Cond.code yX2_highestBetween cX2_highestBetween 5 (some .int), Cond.methodLink RX2 225 Lib.Math.min.name, Cond.static Lib.Math.min.name]
def wsL_best_r5 : List Cond := [Cond.code Lib.Math.min.name Lib.Math.min.code 2 (some .int), Cond.methodLink RX2 234 yX1_ticksToWind, Cond.instanceMethod yX1_ticksToWind, Cond.selects RX1 yX1_ticksToWind yX1_ticksToWind, Cond.code yX1_ticksToWind cX1_ticksToWind 2 (some .int), Cond.methodLink RX2 237 yX1_wornAfterLowering, Cond.instanceMethod yX1_wornAfterLowering, Cond.selects RX1 yX1_wornAfterLowering yX1_wornAfterLowering, Cond.code yX1_wornAfterLowering cX1_wornAfterLowering 3 (some .int), Cond.fieldLink RX1 42 "TreadCranes$Crane" "worn" "I", Cond.static yX2_wearInATick, Cond.code yX2_wearInATick cX2_wearInATick 1 (some .int), Cond.methodLink RX2 120 yX2_distance]
def wsL_best : List Cond := .codeWith yL_best cL_best 5 (some .int) [(0, 10, 13, 13)] :: ((wsL_best_r1 ++ (wsL_best_r2 ++ (wsL_best_r3 ++ (wsL_best_r4 ++ wsL_best_r5)))) ++ wsX20 ++ wsJx4a65c0 ++ wsX00 ++ wsX10 ++ (vx_atS RX2 175 "java/lang/IndexOutOfBoundsException" ["java/lang/RuntimeException", "java/lang/Exception"]).filter goodWord)
def wsL_lasts_r1 : List Cond := [Cond.classLink RL 13 "java/lang/IndexOutOfBoundsException", Cond.classLink RL 15 "java/lang/IllegalArgumentException", Cond.methodLink RL 61 yX2_lasts, Cond.instanceMethod yX2_lasts, Cond.selects RX2 yX2_lasts yX2_lasts, Cond.initialized RX2, Cond.code yX2_lasts cX2_lasts 4 (some .int), Cond.fieldLink RX2 22 "TreadCranes" "cranes" "Ljava/util/ArrayList;", Cond.classLink RX2 81 "TreadCranes$Crane", Cond.fieldLink RX2 96 "TreadCranes$Crane" "worn" "I", Cond.methodLink RX2 86 yX2_requireCrane, Cond.instanceMethod yX2_requireCrane, Cond.selects RX2 yX2_requireCrane yX2_requireCrane, Cond.code yX2_requireCrane cX2_requireCrane 2 none, Cond.classLink RX2 171 "java/lang/IndexOutOfBoundsException", Cond.initialized "java/lang/IndexOutOfBoundsException", Cond.methodLink RX2 32 yJx4a65c_size_8abf5, Cond.instanceMethod yJx4a65c_size_8abf5, Cond.selects RJx4a65c yJx4a65c_size_8abf5 yJx4a65c_size_8abf5, Cond.initialized RJx4a65c, Cond.code yJx4a65c_size_8abf5 cJx4a65c_size_8abf5 1 (some .int), Cond.fieldLink RJx4a65c 48 "java/util/ArrayList" "size" "I", Cond.methodLink RX2 68 yX2_isBetween, Cond.static yX2_isBetween]
def wsL_lasts_r2 : List Cond := [Cond.code yX2_isBetween cX2_isBetween 3 (some .boolean), Cond.methodLink RX2 29 yX2_requireWeight, Cond.static yX2_requireWeight, Cond.code yX2_requireWeight cX2_requireWeight 1 none, Cond.classLink RX2 71 "java/lang/IllegalArgumentException", Cond.initialized "java/lang/IllegalArgumentException", Cond.methodLink RX2 190 yX2_wearInATick, Cond.static yX2_wearInATick, Cond.code yX2_wearInATick cX2_wearInATick 1 (some .int), Cond.methodLink RX2 89 yJx4a65c_get_915e3, Cond.instanceMethod yJx4a65c_get_915e3, Cond.selects RJx4a65c yJx4a65c_get_915e3 yJx4a65c_get_915e3, Cond.code yJx4a65c_get_915e3 cJx4a65c_get_915e3 2 (some (.object "java/lang/Object")), Cond.methodLink RJx4a65c 118 yJ15_checkIndex_7cf53, Cond.static yJ15_checkIndex_7cf53, Cond.initialized RJ15, Cond.code yJ15_checkIndex_7cf53 cJ15_checkIndex_7cf53 2 (some .int), Cond.methodLink RJ15 105 yJ3_checkIndex_8e157, Cond.static yJ3_checkIndex_8e157, Cond.initialized RJ3, Cond.code yJ3_checkIndex_8e157 cJ3_checkIndex_8e157 3 (some .int), Cond.methodLink RJx4a65c 123 yJx4a65c_elementData_915e3, Cond.instanceMethod yJx4a65c_elementData_915e3, Cond.selects RJx4a65c yJx4a65c_elementData_915e3 yJx4a65c_elementData_915e3]
def wsL_lasts_r3 : List Cond := [Cond.code yJx4a65c_elementData_915e3 cJx4a65c_elementData_915e3 2 (some (.object "java/lang/Object")), Cond.fieldLink RJx4a65c 9 "java/util/ArrayList" "elementData" "[Ljava/lang/Object;"]
def wsL_lasts : List Cond := .codeWith yL_lasts cL_lasts 5 (some .int) [(0, 10, 13, 13), (0, 10, 17, 15)] :: ((wsL_lasts_r1 ++ (wsL_lasts_r2 ++ wsL_lasts_r3)) ++ wsX20 ++ wsX10 ++ wsJx4a65c0 ++ (vx_atS RX2 175 "java/lang/IndexOutOfBoundsException" ["java/lang/RuntimeException", "java/lang/Exception"]).filter goodWord ++ (vx_atS RX2 75 "java/lang/IllegalArgumentException" ["java/lang/RuntimeException", "java/lang/Exception"]).filter goodWord)
def wsL_within_r1 : List Cond := [Cond.classLink RL 13 "java/lang/IndexOutOfBoundsException", Cond.methodLink RL 64 yX2_within, Cond.instanceMethod yX2_within, Cond.selects RX2 yX2_within yX2_within, Cond.initialized RX2, Cond.code yX2_within cX2_within 6 (some .int), Cond.fieldLink RX2 22 "TreadCranes" "cranes" "Ljava/util/ArrayList;", Cond.classLink RX2 81 "TreadCranes$Crane", Cond.fieldLink RX2 18 "TreadCranes" "barrels" "Ljava/util/ArrayList;", Cond.classLink RX2 9 "TreadCranes$Barrel", Cond.fieldLink RX2 193 "TreadCranes$Barrel" "place" "I", Cond.fieldLink RX2 134 "TreadCranes$Barrel" "weight" "I", Cond.methodLink RX2 86 yX2_requireCrane, Cond.instanceMethod yX2_requireCrane, Cond.selects RX2 yX2_requireCrane yX2_requireCrane, Cond.code yX2_requireCrane cX2_requireCrane 2 none, Cond.classLink RX2 171 "java/lang/IndexOutOfBoundsException", Cond.initialized "java/lang/IndexOutOfBoundsException", Cond.methodLink RX2 32 yJx4a65c_size_8abf5, Cond.instanceMethod yJx4a65c_size_8abf5, Cond.selects RJx4a65c yJx4a65c_size_8abf5 yJx4a65c_size_8abf5, Cond.initialized RJx4a65c, Cond.code yJx4a65c_size_8abf5 cJx4a65c_size_8abf5 1 (some .int), Cond.fieldLink RJx4a65c 48 "java/util/ArrayList" "size" "I"]
def wsL_within_r2 : List Cond := [Cond.methodLink RX2 68 yX2_isBetween, Cond.static yX2_isBetween, Cond.code yX2_isBetween cX2_isBetween 3 (some .boolean), Cond.methodLink RX2 89 yJx4a65c_get_915e3, Cond.instanceMethod yJx4a65c_get_915e3, Cond.selects RJx4a65c yJx4a65c_get_915e3 yJx4a65c_get_915e3, Cond.code yJx4a65c_get_915e3 cJx4a65c_get_915e3 2 (some (.object "java/lang/Object")), Cond.methodLink RJx4a65c 118 yJ15_checkIndex_7cf53, Cond.static yJ15_checkIndex_7cf53, Cond.initialized RJ15, Cond.code yJ15_checkIndex_7cf53 cJ15_checkIndex_7cf53 2 (some .int), Cond.methodLink RJ15 105 yJ3_checkIndex_8e157, Cond.static yJ3_checkIndex_8e157, Cond.initialized RJ3, Cond.code yJ3_checkIndex_8e157 cJ3_checkIndex_8e157 3 (some .int), Cond.methodLink RJx4a65c 123 yJx4a65c_elementData_915e3, Cond.instanceMethod yJx4a65c_elementData_915e3, Cond.selects RJx4a65c yJx4a65c_elementData_915e3 yJx4a65c_elementData_915e3, Cond.code yJx4a65c_elementData_915e3 cJx4a65c_elementData_915e3 2 (some (.object "java/lang/Object")), Cond.fieldLink RJx4a65c 9 "java/util/ArrayList" "elementData" "[Ljava/lang/Object;", Cond.methodLink RX2 99 yX1_reaches, Cond.instanceMethod yX1_reaches, Cond.selects RX1 yX1_reaches yX1_reaches, Cond.initialized RX1]
def wsL_within_r3 : List Cond := [Cond.code yX1_reaches cX1_reaches 2 (some .boolean), Cond.fieldLink RX1 15 "TreadCranes$Crane" "place" "I", Cond.fieldLink RX1 18 "TreadCranes$Crane" "reach" "I", Cond.static yX2_distance, Cond.code yX2_distance cX2_distance 2 (some .int), Cond.methodLink RX2 217 Lib.Math.abs.name, Cond.static Lib.Math.abs.name, Cond.initialized "java/lang/Math", Cond.code Lib.Math.abs.name Lib.Math.abs.code 1 (some .int), Cond.methodLink RX2 137 yX1_canLift, Cond.instanceMethod yX1_canLift, Cond.selects RX1 yX1_canLift yX1_canLift, Cond.code yX1_canLift cX1_canLift 2 (some .boolean), Cond.methodLink RX1 30 yX1_strength, Cond.instanceMethod yX1_strength, Cond.selects RX1 yX1_strength yX1_strength, Cond.code yX1_strength cX1_strength 1 (some .int), Cond.fieldLink RX1 21 "TreadCranes$Crane" "drum" "I", Cond.fieldLink RX1 24 "TreadCranes$Crane" "walkers" "I"]
def wsL_within : List Cond := .codeWith yL_within cL_within 4 (some .int) [(0, 9, 12, 13)] :: ((wsL_within_r1 ++ (wsL_within_r2 ++ wsL_within_r3)) ++ wsX20 ++ wsX00 ++ wsJx4a65c0 ++ wsX10 ++ (vx_atS RX2 175 "java/lang/IndexOutOfBoundsException" ["java/lang/RuntimeException", "java/lang/Exception"]).filter goodWord)
def wsL_law0_r1 : List Cond := [Cond.classLink RL 8 RX2, Cond.instantiable RX2 4, Cond.initialized RX2, Cond.classLink RL 68 RX3, Cond.instantiable RX3 15, Cond.initialized RX3, Cond.arrayClass .long, Cond.methodLink RL 67 yX2_init, Cond.instanceMethod yX2_init, Cond.code yX2_init cX2_init 1 none, Cond.methodLink RX2 1 objectInit, Cond.instanceMethod objectInit, Cond.code objectInit ⟨#[0xb1]⟩ 1 none, Cond.classLink RX2 9 RX0, Cond.fieldLink RX2 11 "TreadCranes" "uppermost" "[LTreadCranes$Barrel;", Cond.classLink RX2 15 RJx4a65c, Cond.instantiable RJx4a65c 3, Cond.initialized RJx4a65c, Cond.fieldLink RX2 18 "TreadCranes" "barrels" "Ljava/util/ArrayList;", Cond.fieldLink RX2 22 "TreadCranes" "cranes" "Ljava/util/ArrayList;", Cond.methodLink RX2 17 yJx4a65c_init_da8c8, Cond.instanceMethod yJx4a65c_init_da8c8, Cond.code yJx4a65c_init_da8c8 cJx4a65c_init_da8c8 1 none, Cond.fieldLink RJx4a65c 39 "java/util/ArrayList" "DEFAULTCAPACITY_EMPTY_ELEMENTDATA" "[Ljava/lang/Object;"]
def wsL_law0_r2 : List Cond := [Cond.fieldLink RJx4a65c 9 "java/util/ArrayList" "elementData" "[Ljava/lang/Object;", Cond.methodLink RJx4a65c 1 yJxc12de_init_da8c8, Cond.instanceMethod yJxc12de_init_da8c8, Cond.initialized RJxc12de, Cond.code yJxc12de_init_da8c8 cJxc12de_init_da8c8 1 none, Cond.fieldLink RJxc12de 7 "java/util/AbstractList" "modCount" "I", Cond.methodLink RJxc12de 1 yJxa1e45_init_da8c8, Cond.instanceMethod yJxa1e45_init_da8c8, Cond.initialized RJxa1e45, Cond.code yJxa1e45_init_da8c8 cJxa1e45_init_da8c8 1 none, Cond.methodLink RJxa1e45 1 objectInit, Cond.methodLink RL 70 yX3_init, Cond.instanceMethod yX3_init, Cond.code yX3_init cX3_init 1 none, Cond.methodLink RX3 1 objectInit, Cond.arrayClass .int, Cond.fieldLink RX3 9 "TreadCranesModel" "weight" "[I", Cond.fieldLink RX3 13 "TreadCranesModel" "at" "[I", Cond.fieldLink RX3 16 "TreadCranesModel" "below" "[I", Cond.fieldLink RX3 19 "TreadCranesModel" "post" "[I", Cond.fieldLink RX3 22 "TreadCranesModel" "reach" "[I", Cond.fieldLink RX3 25 "TreadCranesModel" "drum" "[I", Cond.fieldLink RX3 28 "TreadCranesModel" "walkers" "[I", Cond.fieldLink RX3 31 "TreadCranesModel" "worn" "[I"]
def wsL_law0_r3 : List Cond := [Cond.fieldLink RX3 34 "TreadCranesModel" "hook" "[I", Cond.fieldLink RX3 37 "TreadCranesModel" "height" "[I", Cond.fieldLink RX3 40 "TreadCranesModel" "load" "[I", Cond.methodLink RL 71 yL_land, Cond.static yL_land, Cond.initialized RL, Cond.codeWith yL_land cL_land 5 (some .int) [(0, 10, 13, 13), (0, 10, 17, 15), (0, 10, 21, 17)], Cond.classLink RL 13 "java/lang/IndexOutOfBoundsException", Cond.classLink RL 15 "java/lang/IllegalArgumentException", Cond.classLink RL 17 "java/lang/IllegalStateException", Cond.methodLink RL 7 yX2_land, Cond.instanceMethod yX2_land, Cond.selects RX2 yX2_land yX2_land, Cond.code yX2_land cX2_land 4 (some .int), Cond.classLink RX2 40 "java/lang/IllegalStateException", Cond.initialized "java/lang/IllegalStateException", Cond.instantiable RX0 7, Cond.initialized RX0, Cond.fieldLink RX2 64 "TreadCranes$Barrel" "number" "I", Cond.methodLink RX2 25 yX2_requirePlace, Cond.static yX2_requirePlace, Cond.code yX2_requirePlace cX2_requirePlace 1 none, Cond.classLink RX2 171 "java/lang/IndexOutOfBoundsException", Cond.initialized "java/lang/IndexOutOfBoundsException"]
def wsL_law0_r4 : List Cond := [Cond.methodLink RX2 204 yX2_isPlace, Cond.static yX2_isPlace, Cond.code yX2_isPlace cX2_isPlace 1 (some .boolean), Cond.methodLink RX2 68 yX2_isBetween, Cond.static yX2_isBetween, Cond.code yX2_isBetween cX2_isBetween 3 (some .boolean), Cond.methodLink RX2 29 yX2_requireWeight, Cond.static yX2_requireWeight, Cond.code yX2_requireWeight cX2_requireWeight 1 none, Cond.classLink RX2 71 "java/lang/IllegalArgumentException", Cond.initialized "java/lang/IllegalArgumentException", Cond.methodLink RX2 32 yJx4a65c_size_8abf5, Cond.instanceMethod yJx4a65c_size_8abf5, Cond.selects RJx4a65c yJx4a65c_size_8abf5 yJx4a65c_size_8abf5, Cond.code yJx4a65c_size_8abf5 cJx4a65c_size_8abf5 1 (some .int), Cond.fieldLink RJx4a65c 48 "java/util/ArrayList" "size" "I", Cond.methodLink RX2 36 yX2_heightOf, Cond.instanceMethod yX2_heightOf, Cond.selects RX2 yX2_heightOf yX2_heightOf, Cond.code yX2_heightOf cX2_heightOf 3 (some .int), Cond.fieldLink RX2 222 "TreadCranes$Barrel" "level" "I", Cond.methodLink RX2 149 yX2_uppermostAt, Cond.instanceMethod yX2_uppermostAt, Cond.selects RX2 yX2_uppermostAt yX2_uppermostAt]
def wsL_law0_r5 : List Cond := [Cond.code yX2_uppermostAt cX2_uppermostAt 2 (some (.object "TreadCranes$Barrel")), Cond.methodLink RX2 47 yX2_hooksAllow, Cond.instanceMethod yX2_hooksAllow, Cond.selects RX2 yX2_hooksAllow yX2_hooksAllow, Cond.code yX2_hooksAllow cX2_hooksAllow 6 (some .boolean), Cond.classLink RX2 81 "TreadCranes$Crane", Cond.fieldLink RX2 108 "TreadCranes$Crane" "hookPlace" "I", Cond.fieldLink RX2 105 "TreadCranes$Crane" "hookHeight" "I", Cond.methodLink RX2 89 yJx4a65c_get_915e3, Cond.instanceMethod yJx4a65c_get_915e3, Cond.selects RJx4a65c yJx4a65c_get_915e3 yJx4a65c_get_915e3, Cond.code yJx4a65c_get_915e3 cJx4a65c_get_915e3 2 (some (.object "java/lang/Object")), Cond.methodLink RJx4a65c 118 yJ15_checkIndex_7cf53, Cond.static yJ15_checkIndex_7cf53, Cond.initialized RJ15, Cond.code yJ15_checkIndex_7cf53 cJ15_checkIndex_7cf53 2 (some .int), Cond.methodLink RJ15 105 yJ3_checkIndex_8e157, Cond.static yJ3_checkIndex_8e157, Cond.initialized RJ3, Cond.code yJ3_checkIndex_8e157 cJ3_checkIndex_8e157 3 (some .int), Cond.methodLink RJx4a65c 123 yJx4a65c_elementData_915e3, Cond.instanceMethod yJx4a65c_elementData_915e3, Cond.selects RJx4a65c yJx4a65c_elementData_915e3 yJx4a65c_elementData_915e3, Cond.code yJx4a65c_elementData_915e3 cJx4a65c_elementData_915e3 2 (some (.object "java/lang/Object"))]
def wsL_law0_r6 : List Cond := [Cond.methodLink RX2 115 yX1_lowestHook, Cond.instanceMethod yX1_lowestHook, Cond.selects RX1 yX1_lowestHook yX1_lowestHook, Cond.initialized RX1, Cond.code yX1_lowestHook cX1_lowestHook 2 (some .int), Cond.fieldLink RX1 38 "TreadCranes$Crane" "load" "LTreadCranes$Barrel;", Cond.methodLink RX2 53 yX0_init, Cond.instanceMethod yX0_init, Cond.code yX0_init cX0_init 3 none, Cond.methodLink RX0 3 objectInit, Cond.fieldLink RX0 9 "TreadCranes$Barrel" "place" "I", Cond.fieldLink RX0 15 "TreadCranes$Barrel" "crane" "I", Cond.fieldLink RX0 18 "TreadCranes$Barrel" "number" "I", Cond.fieldLink RX0 21 "TreadCranes$Barrel" "weight" "I", Cond.methodLink RX2 56 yJx4a65c_add_9ea2d, Cond.instanceMethod yJx4a65c_add_9ea2d, Cond.selects RJx4a65c yJx4a65c_add_9ea2d yJx4a65c_add_9ea2d, Cond.code yJx4a65c_add_9ea2d cJx4a65c_add_9ea2d 2 (some .boolean), Cond.fieldLink RJx4a65c 63 "java/util/ArrayList" "modCount" "I", Cond.sameField "java/util/ArrayList" "java/util/AbstractList" "modCount" "I", Cond.methodLink RJx4a65c 131 yJx4a65c_add_72be8, Cond.instanceMethod yJx4a65c_add_72be8, Cond.selects RJx4a65c yJx4a65c_add_72be8 yJx4a65c_add_72be8, Cond.code yJx4a65c_add_72be8 cJx4a65c_add_72be8 4 none]
def wsL_law0_r7 : List Cond := [Cond.methodLink RJx4a65c 129 yJx4a65c_grow_d5877, Cond.instanceMethod yJx4a65c_grow_d5877, Cond.selects RJx4a65c yJx4a65c_grow_d5877 yJx4a65c_grow_d5877, Cond.code yJx4a65c_grow_d5877 cJx4a65c_grow_d5877 1 (some (.array (.object "java/lang/Object"))), Cond.methodLink RJx4a65c 69 yJx4a65c_grow_92f84, Cond.instanceMethod yJx4a65c_grow_92f84, Cond.selects RJx4a65c yJx4a65c_grow_92f84 yJx4a65c_grow_92f84, Cond.code yJx4a65c_grow_92f84 cJx4a65c_grow_92f84 4 (some (.array (.object "java/lang/Object"))), Cond.methodLink RJx4a65c 79 Lib.Math.max.name, Cond.static Lib.Math.max.name, Cond.initialized "java/lang/Math", Cond.code Lib.Math.max.name Lib.Math.max.code 2 (some .int), Cond.classLink RJx4a65c 7 "java/lang/Object", Cond.methodLink RJx4a65c 73 yJ8_newLength_cabcc, Cond.static yJ8_newLength_cabcc, Cond.initialized RJ8, Cond.code yJ8_newLength_cabcc cJ8_newLength_cabcc 4 (some .int), Cond.methodLink RJ8 194 Lib.Math.max.name, Cond.constant RJ8 200 (2147483639), Cond.methodLink RJ8 201 yJ8_hugeLength_7cf53, Cond.static yJ8_hugeLength_7cf53, Cond.code yJ8_hugeLength_7cf53 cJ8_hugeLength_7cf53 3 (some .int), Cond.methodLink RJx4a65c 66 yJ7_copyOf_1904c, Cond.static yJ7_copyOf_1904c]
def wsL_law0_r8 : List Cond := [Cond.initialized RJ7, Cond.code yJ7_copyOf_1904c cJ7_copyOf_1904c 2 (some (.array (.object "java/lang/Object"))), Cond.methodLink RJ7 86 ⟨"java/lang/Object", "getClass", "()Ljava/lang/Class;"⟩, Cond.selects "[Ljava/lang/Object;" ⟨"java/lang/Object", "getClass", "()Ljava/lang/Class;"⟩ ⟨"java/lang/Object", "getClass", "()Ljava/lang/Class;"⟩, Cond.instanceMethod ⟨"java/lang/Object", "getClass", "()Ljava/lang/Class;"⟩, Cond.native ⟨"java/lang/Object", "getClass", "()Ljava/lang/Class;"⟩, Cond.methodLink RJ7 300 yJ7_copyOf_6403c, Cond.static yJ7_copyOf_6403c, Cond.code yJ7_copyOf_6403c cJ7_copyOf_6403c 4 (some (.array (.object "java/lang/Object"))), Cond.classLink RJ7 110 "[Ljava/lang/Object;", Cond.classLink RJ7 2 "java/lang/Object", Cond.methodLink RJ7 304 Lib.Math.min.name, Cond.static Lib.Math.min.name, Cond.code Lib.Math.min.name Lib.Math.min.code 2 (some .int), Cond.methodLink RJ7 150 arraycopyName, Cond.native arraycopyName, Cond.static arraycopyName, Cond.initialized "java/lang/System", Cond.methodLink RX2 60 yX2_putUpon, Cond.instanceMethod yX2_putUpon, Cond.selects RX2 yX2_putUpon yX2_putUpon, Cond.code yX2_putUpon cX2_putUpon 3 none, Cond.fieldLink RX2 193 "TreadCranes$Barrel" "place" "I", Cond.fieldLink RX2 231 "TreadCranes$Barrel" "below" "LTreadCranes$Barrel;"]
def wsL_law0_r9 : List Cond := [Cond.methodLink RL 76 yX3_land, Cond.instanceMethod yX3_land, Cond.selects RX3 yX3_land yX3_land, Cond.code yX3_land cX3_land 4 (some .int), Cond.fieldLink RX3 43 "TreadCranesModel" "thrown" "I", Cond.fieldLink RX3 54 "TreadCranesModel" "barrels" "I", Cond.methodLink RX3 76 yX3_isPlace, Cond.static yX3_isPlace, Cond.code yX3_isPlace cX3_isPlace 1 (some .boolean), Cond.methodLink RX3 47 yX3_isIn, Cond.static yX3_isIn, Cond.code yX3_isIn cX3_isIn 3 (some .boolean), Cond.methodLink RX3 80 yX3_no, Cond.instanceMethod yX3_no, Cond.selects RX3 yX3_no yX3_no, Cond.code yX3_no cX3_no 2 (some .int), Cond.methodLink RX3 57 yX3_high, Cond.instanceMethod yX3_high, Cond.selects RX3 yX3_high yX3_high, Cond.code yX3_high cX3_high 4 (some .int), Cond.methodLink RX3 83 yX3_isTooLow, Cond.instanceMethod yX3_isTooLow, Cond.selects RX3 yX3_isTooLow yX3_isTooLow, Cond.code yX3_isTooLow cX3_isTooLow 5 (some .boolean)]
def wsL_law0_r10 : List Cond := [Cond.fieldLink RX3 51 "TreadCranesModel" "cranes" "I", Cond.methodLink RX3 66 yX3_loaded, Cond.instanceMethod yX3_loaded, Cond.selects RX3 yX3_loaded yX3_loaded, Cond.code yX3_loaded cX3_loaded 2 (some .int), Cond.methodLink RL 77 yX3_thrown, Cond.instanceMethod yX3_thrown, Cond.selects RX3 yX3_thrown yX3_thrown, Cond.code yX3_thrown cX3_thrown 1 (some .int), Cond.methodLink RL 81 yL_build, Cond.static yL_build, Cond.codeWith yL_build cL_build 7 (some .int) [(0, 14, 17, 13), (0, 14, 21, 15), (0, 14, 25, 17)], Cond.methodLink RL 19 yX2_build, Cond.instanceMethod yX2_build, Cond.selects RX2 yX2_build yX2_build, Cond.code yX2_build cX2_build 5 (some .int), Cond.classLink RX2 81 RX1, Cond.instantiable RX1 8, Cond.methodLink RX2 76 yX2_requireWalkers, Cond.static yX2_requireWalkers, Cond.code yX2_requireWalkers cX2_requireWalkers 1 none, Cond.methodLink RX2 83 yX1_init, Cond.instanceMethod yX1_init, Cond.code yX1_init cX1_init 5 none]
def wsL_law0_r11 : List Cond := [Cond.methodLink RX1 3 objectInit, Cond.fieldLink RX1 9 "TreadCranes$Crane" "hookHeight" "I", Cond.fieldLink RX1 15 "TreadCranes$Crane" "place" "I", Cond.fieldLink RX1 18 "TreadCranes$Crane" "reach" "I", Cond.fieldLink RX1 21 "TreadCranes$Crane" "drum" "I", Cond.fieldLink RX1 24 "TreadCranes$Crane" "walkers" "I", Cond.fieldLink RX1 27 "TreadCranes$Crane" "hookPlace" "I", Cond.methodLink RL 84 yX3_build, Cond.instanceMethod yX3_build, Cond.selects RX3 yX3_build yX3_build, Cond.code yX3_build cX3_build 5 (some .int), Cond.methodLink RL 85 yL_man, Cond.static yL_man, Cond.codeWith yL_man cL_man 5 (some .int) [(0, 10, 13, 13), (0, 10, 17, 15)], Cond.methodLink RL 23 yX2_man, Cond.instanceMethod yX2_man, Cond.selects RX2 yX2_man yX2_man, Cond.code yX2_man cX2_man 5 (some .int), Cond.fieldLink RX2 93 "TreadCranes$Crane" "walkers" "I", Cond.methodLink RX2 86 yX2_requireCrane, Cond.instanceMethod yX2_requireCrane, Cond.selects RX2 yX2_requireCrane yX2_requireCrane, Cond.code yX2_requireCrane cX2_requireCrane 2 none, Cond.methodLink RL 87 yX3_man]
def wsL_law0_r12 : List Cond := [Cond.instanceMethod yX3_man, Cond.selects RX3 yX3_man yX3_man, Cond.code yX3_man cX3_man 4 (some .int), Cond.methodLink RX3 86 yX3_isCrane, Cond.instanceMethod yX3_isCrane, Cond.selects RX3 yX3_isCrane yX3_isCrane, Cond.code yX3_isCrane cX3_isCrane 2 (some .boolean), Cond.methodLink RL 88 yL_mend, Cond.static yL_mend, Cond.codeWith yL_mend cL_mend 4 (some .int) [(0, 9, 12, 13)], Cond.methodLink RL 26 yX2_mend, Cond.instanceMethod yX2_mend, Cond.selects RX2 yX2_mend yX2_mend, Cond.code yX2_mend cX2_mend 4 (some .int), Cond.fieldLink RX2 96 "TreadCranes$Crane" "worn" "I", Cond.methodLink RL 91 yX3_mend, Cond.instanceMethod yX3_mend, Cond.selects RX3 yX3_mend yX3_mend, Cond.code yX3_mend cX3_mend 3 (some .int), Cond.methodLink RL 92 yL_turn, Cond.static yL_turn, Cond.codeWith yL_turn cL_turn 5 (some .int) [(0, 10, 13, 13), (0, 10, 17, 17)], Cond.methodLink RL 30 yX2_turn, Cond.instanceMethod yX2_turn]
def wsL_law0_r13 : List Cond := [Cond.selects RX2 yX2_turn yX2_turn, Cond.code yX2_turn cX2_turn 5 (some .int), Cond.fieldLink RX2 123 "TreadCranes" "ticks" "I", Cond.methodLink RX2 99 yX1_reaches, Cond.instanceMethod yX1_reaches, Cond.selects RX1 yX1_reaches yX1_reaches, Cond.code yX1_reaches cX1_reaches 2 (some .boolean), Cond.static yX2_distance, Cond.code yX2_distance cX2_distance 2 (some .int), Cond.methodLink RX2 217 Lib.Math.abs.name, Cond.static Lib.Math.abs.name, Cond.code Lib.Math.abs.name Lib.Math.abs.code 1 (some .int), Cond.methodLink RX2 111 yX2_highestBetween, Cond.instanceMethod yX2_highestBetween, Cond.selects RX2 yX2_highestBetween yX2_highestBetween, Cond.code yX2_highestBetween cX2_highestBetween 5 (some .int), Cond.methodLink RX2 225 Lib.Math.min.name, Cond.methodLink RX2 228 Lib.Math.max.name, Cond.methodLink RX2 120 yX2_distance, Cond.methodLink RL 94 yX3_turn, Cond.instanceMethod yX3_turn, Cond.selects RX3 yX3_turn yX3_turn, Cond.code yX3_turn cX3_turn 4 (some .int), Cond.methodLink RX3 61 Lib.Math.abs.name]
def wsL_law0_r14 : List Cond := [Cond.fieldLink RX3 97 "TreadCranesModel" "ticks" "I", Cond.methodLink RX3 89 yX3_isInReach, Cond.instanceMethod yX3_isInReach, Cond.selects RX3 yX3_isInReach yX3_isInReach, Cond.code yX3_isInReach cX3_isInReach 3 (some .boolean), Cond.methodLink RX3 93 yX3_highest, Cond.instanceMethod yX3_highest, Cond.selects RX3 yX3_highest yX3_highest, Cond.code yX3_highest cX3_highest 6 (some .int), Cond.methodLink RX3 69 Lib.Math.min.name, Cond.methodLink RX3 73 Lib.Math.max.name, Cond.methodLink RL 95 yL_hoist, Cond.static yL_hoist, Cond.codeWith yL_hoist cL_hoist 5 (some .int) [(0, 10, 13, 13), (0, 10, 17, 15), (0, 10, 21, 17)], Cond.methodLink RL 33 yX2_hoist, Cond.instanceMethod yX2_hoist, Cond.selects RX2 yX2_hoist yX2_hoist, Cond.code yX2_hoist cX2_hoist 5 (some .int), Cond.fieldLink RX2 130 "TreadCranes$Crane" "load" "LTreadCranes$Barrel;", Cond.fieldLink RX2 134 "TreadCranes$Barrel" "weight" "I", Cond.methodLink RX2 137 yX1_canLift, Cond.instanceMethod yX1_canLift, Cond.selects RX1 yX1_canLift yX1_canLift, Cond.code yX1_canLift cX1_canLift 2 (some .boolean)]
def wsL_law0_r15 : List Cond := [Cond.methodLink RX1 30 yX1_strength, Cond.instanceMethod yX1_strength, Cond.selects RX1 yX1_strength yX1_strength, Cond.code yX1_strength cX1_strength 1 (some .int), Cond.methodLink RX2 142 yX2_lowerHook, Cond.instanceMethod yX2_lowerHook, Cond.selects RX2 yX2_lowerHook yX2_lowerHook, Cond.code yX2_lowerHook cX2_lowerHook 6 (some .int), Cond.methodLink RX2 234 yX1_ticksToWind, Cond.instanceMethod yX1_ticksToWind, Cond.selects RX1 yX1_ticksToWind yX1_ticksToWind, Cond.code yX1_ticksToWind cX1_ticksToWind 2 (some .int), Cond.methodLink RX2 237 yX1_wornAfterLowering, Cond.instanceMethod yX1_wornAfterLowering, Cond.selects RX1 yX1_wornAfterLowering yX1_wornAfterLowering, Cond.code yX1_wornAfterLowering cX1_wornAfterLowering 3 (some .int), Cond.fieldLink RX1 42 "TreadCranes$Crane" "worn" "I", Cond.static yX2_wearInATick, Cond.code yX2_wearInATick cX2_wearInATick 1 (some .int), Cond.methodLink RX2 240 yX2_dropLoad, Cond.static yX2_dropLoad, Cond.code yX2_dropLoad cX2_dropLoad 2 none, Cond.fieldLink RX2 158 "TreadCranes$Barrel" "crane" "I", Cond.fieldLink RX2 196 "TreadCranes$Barrel" "broken" "Z"]
def wsL_law0_r16 : List Cond := [Cond.methodLink RX2 146 yX2_raiseHook, Cond.instanceMethod yX2_raiseHook, Cond.selects RX2 yX2_raiseHook yX2_raiseHook, Cond.code yX2_raiseHook cX2_raiseHook 4 (some .int), Cond.methodLink RL 97 yX3_hoist, Cond.instanceMethod yX3_hoist, Cond.selects RX3 yX3_hoist yX3_hoist, Cond.code yX3_hoist cX3_hoist 6 (some .int), Cond.methodLink RX3 103 yX3_canLift, Cond.instanceMethod yX3_canLift, Cond.selects RX3 yX3_canLift yX3_canLift, Cond.code yX3_canLift cX3_canLift 2 (some .boolean), Cond.methodLink RX3 100 yX3_strength, Cond.instanceMethod yX3_strength, Cond.selects RX3 yX3_strength yX3_strength, Cond.code yX3_strength cX3_strength 2 (some .int), Cond.methodLink RX3 106 yX3_wound, Cond.instanceMethod yX3_wound, Cond.selects RX3 yX3_wound yX3_wound, Cond.code yX3_wound cX3_wound 3 (some .int), Cond.methodLink RX3 109 yX3_fall, Cond.instanceMethod yX3_fall, Cond.selects RX3 yX3_fall yX3_fall, Cond.code yX3_fall cX3_fall 2 (some .int)]
def wsL_law0_r17 : List Cond := [Cond.methodLink RL 98 yL_take, Cond.static yL_take, Cond.codeWith yL_take cL_take 4 (some .int) [(0, 9, 12, 13), (0, 9, 15, 17)], Cond.methodLink RL 36 yX2_take, Cond.instanceMethod yX2_take, Cond.selects RX2 yX2_take yX2_take, Cond.code yX2_take cX2_take 4 (some .int), Cond.methodLink RX2 155 yX2_removeUppermost, Cond.instanceMethod yX2_removeUppermost, Cond.selects RX2 yX2_removeUppermost yX2_removeUppermost, Cond.code yX2_removeUppermost cX2_removeUppermost 3 none, Cond.methodLink RL 100 yX3_take, Cond.instanceMethod yX3_take, Cond.selects RX3 yX3_take yX3_take, Cond.code yX3_take cX3_take 3 (some .int), Cond.methodLink RX3 112 yX3_top, Cond.instanceMethod yX3_top, Cond.selects RX3 yX3_top yX3_top, Cond.code yX3_top cX3_top 3 (some .int), Cond.methodLink RL 101 yL_lay, Cond.static yL_lay, Cond.codeWith yL_lay cL_lay 4 (some .int) [(0, 9, 12, 13), (0, 9, 15, 17)], Cond.methodLink RL 39 yX2_lay, Cond.instanceMethod yX2_lay]
def wsL_law0_r18 : List Cond := [Cond.selects RX2 yX2_lay yX2_lay, Cond.code yX2_lay cX2_lay 5 (some .int), Cond.methodLink RL 103 yX3_lay, Cond.instanceMethod yX3_lay, Cond.selects RX3 yX3_lay yX3_lay, Cond.code yX3_lay cX3_lay 3 (some .int), Cond.methodLink RL 104 yL_place, Cond.static yL_place, Cond.codeWith yL_place cL_place 5 (some .int) [(0, 10, 13, 13)], Cond.methodLink RL 42 yX2_place, Cond.instanceMethod yX2_place, Cond.selects RX2 yX2_place yX2_place, Cond.code yX2_place cX2_place 3 (some .int), Cond.methodLink RX2 165 yX2_requireAnswer, Cond.static yX2_requireAnswer, Cond.code yX2_requireAnswer cX2_requireAnswer 2 none, Cond.methodLink RX2 168 yX2_placeAnswer, Cond.instanceMethod yX2_placeAnswer, Cond.selects RX2 yX2_placeAnswer yX2_placeAnswer, Cond.code yX2_placeAnswer cX2_placeAnswer 3 (some .int), Cond.methodLink RX2 248 yX2_numberOf, Cond.static yX2_numberOf, Cond.code yX2_numberOf cX2_numberOf 1 (some .int), Cond.methodLink RX2 252 yX2_weightsAt]
def wsL_law0_r19 : List Cond := [Cond.instanceMethod yX2_weightsAt, Cond.selects RX2 yX2_weightsAt yX2_weightsAt, Cond.code yX2_weightsAt cX2_weightsAt 4 (some .int), Cond.methodLink RX2 255 yX2_hooksOver, Cond.instanceMethod yX2_hooksOver, Cond.selects RX2 yX2_hooksOver yX2_hooksOver, Cond.code yX2_hooksOver cX2_hooksOver 4 (some .int), Cond.methodLink RL 106 yX3_place, Cond.instanceMethod yX3_place, Cond.selects RX3 yX3_place yX3_place, Cond.code yX3_place cX3_place 3 (some .int), Cond.methodLink RX3 115 yX3_placeTold, Cond.instanceMethod yX3_placeTold, Cond.selects RX3 yX3_placeTold yX3_placeTold, Cond.code yX3_placeTold cX3_placeTold 6 (some .int), Cond.methodLink RL 107 yL_barrel, Cond.static yL_barrel, Cond.codeWith yL_barrel cL_barrel 5 (some .int) [(0, 10, 13, 13)], Cond.methodLink RL 45 yX2_barrel, Cond.instanceMethod yX2_barrel, Cond.selects RX2 yX2_barrel yX2_barrel, Cond.code yX2_barrel cX2_barrel 3 (some .int), Cond.classLink RX2 9 "TreadCranes$Barrel", Cond.methodLink RX2 176 yX2_barrelAnswer]
def wsL_law0_r20 : List Cond := [Cond.instanceMethod yX2_barrelAnswer, Cond.selects RX2 yX2_barrelAnswer yX2_barrelAnswer, Cond.code yX2_barrelAnswer cX2_barrelAnswer 3 (some .int), Cond.methodLink RL 109 yX3_barrel, Cond.instanceMethod yX3_barrel, Cond.selects RX3 yX3_barrel yX3_barrel, Cond.code yX3_barrel cX3_barrel 3 (some .int), Cond.methodLink RX3 121 yX3_barrelTold, Cond.instanceMethod yX3_barrelTold, Cond.selects RX3 yX3_barrelTold yX3_barrelTold, Cond.code yX3_barrelTold cX3_barrelTold 5 (some .int), Cond.methodLink RX3 118 yX3_craneOf, Cond.instanceMethod yX3_craneOf, Cond.selects RX3 yX3_craneOf yX3_craneOf, Cond.code yX3_craneOf cX3_craneOf 3 (some .int), Cond.methodLink RL 110 yL_crane, Cond.static yL_crane, Cond.codeWith yL_crane cL_crane 5 (some .int) [(0, 10, 13, 13)], Cond.methodLink RL 48 yX2_crane, Cond.instanceMethod yX2_crane, Cond.selects RX2 yX2_crane yX2_crane, Cond.code yX2_crane cX2_crane 3 (some .int), Cond.methodLink RX2 180 yX2_craneAnswer, Cond.static yX2_craneAnswer]
def wsL_law0_r21 : List Cond := [Cond.code yX2_craneAnswer cX2_craneAnswer 2 (some .int), Cond.fieldLink RX2 258 "TreadCranes$Crane" "place" "I", Cond.fieldLink RX2 259 "TreadCranes$Crane" "reach" "I", Cond.fieldLink RX2 262 "TreadCranes$Crane" "drum" "I", Cond.methodLink RX2 265 yX1_strength, Cond.methodLink RL 112 yX3_crane, Cond.instanceMethod yX3_crane, Cond.selects RX3 yX3_crane yX3_crane, Cond.code yX3_crane cX3_crane 3 (some .int), Cond.methodLink RX3 124 yX3_craneTold, Cond.instanceMethod yX3_craneTold, Cond.selects RX3 yX3_craneTold yX3_craneTold, Cond.code yX3_craneTold cX3_craneTold 4 (some .int), Cond.methodLink RL 113 yL_count, Cond.static yL_count, Cond.codeWith yL_count cL_count 4 (some .int) [(0, 9, 12, 13)], Cond.methodLink RL 51 yX2_count, Cond.instanceMethod yX2_count, Cond.selects RX2 yX2_count yX2_count, Cond.code yX2_count cX2_count 2 (some .int), Cond.methodLink RX2 183 yX2_countAnswer, Cond.instanceMethod yX2_countAnswer, Cond.selects RX2 yX2_countAnswer yX2_countAnswer, Cond.code yX2_countAnswer cX2_countAnswer 2 (some .int)]
def wsL_law0_r22 : List Cond := [Cond.methodLink RX2 268 yX2_standing, Cond.instanceMethod yX2_standing, Cond.selects RX2 yX2_standing yX2_standing, Cond.code yX2_standing cX2_standing 3 (some .int), Cond.methodLink RX2 271 yX2_hanging, Cond.instanceMethod yX2_hanging, Cond.selects RX2 yX2_hanging yX2_hanging, Cond.code yX2_hanging cX2_hanging 3 (some .int), Cond.methodLink RL 115 yX3_count, Cond.instanceMethod yX3_count, Cond.selects RX3 yX3_count yX3_count, Cond.code yX3_count cX3_count 2 (some .int), Cond.methodLink RX3 127 yX3_counted, Cond.instanceMethod yX3_counted, Cond.selects RX3 yX3_counted yX3_counted, Cond.code yX3_counted cX3_counted 5 (some .int), Cond.methodLink RL 116 yL_move, Cond.static yL_move, Cond.codeWith yL_move cL_move 6 (some .int) [(0, 12, 15, 13)], Cond.methodLink RL 54 yX2_move, Cond.instanceMethod yX2_move, Cond.selects RX2 yX2_move yX2_move, Cond.code yX2_move cX2_move 4 (some .int), Cond.methodLink RX2 186 yX2_ticksToMove]
def wsL_law0_r23 : List Cond := [Cond.instanceMethod yX2_ticksToMove, Cond.selects RX2 yX2_ticksToMove yX2_ticksToMove, Cond.code yX2_ticksToMove cX2_ticksToMove 11 (some .int), Cond.methodLink RX2 244 yX2_isFreeToMove, Cond.instanceMethod yX2_isFreeToMove, Cond.selects RX2 yX2_isFreeToMove yX2_isFreeToMove, Cond.code yX2_isFreeToMove cX2_isFreeToMove 4 (some .boolean), Cond.methodLink RL 119 yX3_move, Cond.instanceMethod yX3_move, Cond.selects RX3 yX3_move yX3_move, Cond.code yX3_move cX3_move 4 (some .int), Cond.methodLink RX3 130 yX3_ticksOf, Cond.instanceMethod yX3_ticksOf, Cond.selects RX3 yX3_ticksOf yX3_ticksOf, Cond.code yX3_ticksOf cX3_ticksOf 10 (some .int), Cond.methodLink RL 120 yL_best, Cond.static yL_best, Cond.codeWith yL_best cL_best 5 (some .int) [(0, 10, 13, 13)], Cond.methodLink RL 58 yX2_best, Cond.instanceMethod yX2_best, Cond.selects RX2 yX2_best yX2_best, Cond.code yX2_best cX2_best 7 (some .int), Cond.methodLink RL 122 yX3_best, Cond.instanceMethod yX3_best]
def wsL_law0_r24 : List Cond := [Cond.selects RX3 yX3_best yX3_best, Cond.code yX3_best cX3_best 7 (some .int), Cond.methodLink RL 123 yL_lasts, Cond.static yL_lasts, Cond.codeWith yL_lasts cL_lasts 5 (some .int) [(0, 10, 13, 13), (0, 10, 17, 15)], Cond.methodLink RL 61 yX2_lasts, Cond.instanceMethod yX2_lasts, Cond.selects RX2 yX2_lasts yX2_lasts, Cond.code yX2_lasts cX2_lasts 4 (some .int), Cond.methodLink RX2 190 yX2_wearInATick, Cond.methodLink RL 125 yX3_lasts, Cond.instanceMethod yX3_lasts, Cond.selects RX3 yX3_lasts yX3_lasts, Cond.code yX3_lasts cX3_lasts 3 (some .int), Cond.methodLink RL 126 yL_within, Cond.static yL_within, Cond.codeWith yL_within cL_within 4 (some .int) [(0, 9, 12, 13)], Cond.methodLink RL 64 yX2_within, Cond.instanceMethod yX2_within, Cond.selects RX2 yX2_within yX2_within, Cond.code yX2_within cX2_within 6 (some .int), Cond.methodLink RL 128 yX3_within, Cond.instanceMethod yX3_within, Cond.selects RX3 yX3_within yX3_within]
def wsL_law0_r25 : List Cond := [Cond.code yX3_within cX3_within 4 (some .int), Cond.methodLink RL 129 yX2_mean, Cond.instanceMethod yX2_mean, Cond.selects RX2 yX2_mean yX2_mean, Cond.code yX2_mean cX2_mean 5 (some .double), Cond.methodLink RL 133 yX3_mean, Cond.instanceMethod yX3_mean, Cond.selects RX3 yX3_mean yX3_mean, Cond.code yX3_mean cX3_mean 4 (some .double), Cond.methodLink RL 134 yX2_digest, Cond.instanceMethod yX2_digest, Cond.selects RX2 yX2_digest yX2_digest, Cond.code yX2_digest cX2_digest 5 (some .long), Cond.constantLong RX2 200 (1151), Cond.constantLong RX2 202 (31), Cond.methodLink RL 138 yX3_digest, Cond.instanceMethod yX3_digest, Cond.selects RX3 yX3_digest yX3_digest, Cond.code yX3_digest cX3_digest 5 (some .long), Cond.constantLong RX3 133 (1151), Cond.constantLong RX3 135 (31)]
def wsL_law0 : List Cond := (wsL_law0_r1 ++ (wsL_law0_r2 ++ (wsL_law0_r3 ++ (wsL_law0_r4 ++ (wsL_law0_r5 ++ (wsL_law0_r6 ++ (wsL_law0_r7 ++ (wsL_law0_r8 ++ (wsL_law0_r9 ++ (wsL_law0_r10 ++ (wsL_law0_r11 ++ (wsL_law0_r12 ++ (wsL_law0_r13 ++ (wsL_law0_r14 ++ (wsL_law0_r15 ++ (wsL_law0_r16 ++ (wsL_law0_r17 ++ (wsL_law0_r18 ++ (wsL_law0_r19 ++ (wsL_law0_r20 ++ (wsL_law0_r21 ++ (wsL_law0_r22 ++ (wsL_law0_r23 ++ (wsL_law0_r24 ++ wsL_law0_r25)))))))))))))))))))))))) ++ wsX20 ++ wsX30 ++ wsJx4a65c0 ++ wsX00 ++ wsX10 ++ ([] : List Cond)
def wsL_law : List Cond := wsL_law0 ++ (vx_atS RX2 44 "java/lang/IllegalStateException" ["java/lang/RuntimeException", "java/lang/Exception"]).filter goodWord ++ (vx_atS RX2 175 "java/lang/IndexOutOfBoundsException" ["java/lang/RuntimeException", "java/lang/Exception"]).filter goodWord ++ (vx_atS RX2 75 "java/lang/IllegalArgumentException" ["java/lang/RuntimeException", "java/lang/Exception"]).filter goodWord
set_option maxRecDepth 20000 in
end
section
theorem wsL_law_c1 : ∀ w ∈ wsL_law0_r1, w ∈ lw_tbl := fun w h => (goodIn_p wsL_law0_r1 [64, 67, 74] (by decide +kernel) (by decide +kernel) w h).1
theorem wsL_law_c2 : ∀ w ∈ wsL_law0_r2, w ∈ lw_tbl := fun w h => (goodIn_p wsL_law0_r2 [77, 80, 633] (by decide +kernel) (by decide +kernel) w h).1
theorem wsL_law_c3 : ∀ w ∈ wsL_law0_r3, w ∈ lw_tbl := fun w h => (goodIn_p wsL_law0_r3 [209, 212] (by decide +kernel) (by decide +kernel) w h).1
theorem wsL_law_c4 : ∀ w ∈ wsL_law0_r4, w ∈ lw_tbl := fun w h => (goodIn_p wsL_law0_r4 [155, 158, 283, 116, 148] (by decide +kernel) (by decide +kernel) w h).1
theorem wsL_law_c5 : ∀ w ∈ wsL_law0_r5, w ∈ lw_tbl := fun w h => (goodIn_p wsL_law0_r5 [152, 319, 120, 123, 126, 130] (by decide +kernel) (by decide +kernel) w h).1
theorem wsL_law_c6 : ∀ w ∈ wsL_law0_r6, w ∈ lw_tbl := fun w h => (goodIn_p wsL_law0_r6 [323, 328, 359, 363] (by decide +kernel) (by decide +kernel) w h).1
theorem wsL_law_c7 : ∀ w ∈ wsL_law0_r7, w ∈ lw_tbl := fun w h => (goodIn_p wsL_law0_r7 [367, 371, 173, 374, 379] (by decide +kernel) (by decide +kernel) w h).1
theorem wsL_law_c8 : ∀ w ∈ wsL_law0_r8, w ∈ lw_tbl := fun w h => (goodIn_p wsL_law0_r8 [382, 397, 170, 410] (by decide +kernel) (by decide +kernel) w h).1
theorem wsL_law_c9 : ∀ w ∈ wsL_law0_r9, w ∈ lw_tbl := fun w h => (goodIn_p wsL_law0_r9 [689, 692, 695, 699, 703, 707] (by decide +kernel) (by decide +kernel) w h).1
theorem wsL_law_c10 : ∀ w ∈ wsL_law0_r10, w ∈ lw_tbl := fun w h => (goodIn_p wsL_law0_r10 [711, 685, 417, 421, 427] (by decide +kernel) (by decide +kernel) w h).1
theorem wsL_law_c11 : ∀ w ∈ wsL_law0_r11, w ∈ lw_tbl := fun w h => (goodIn_p wsL_law0_r11 [715, 468, 472] (by decide +kernel) (by decide +kernel) w h).1
theorem wsL_law_c12 : ∀ w ∈ wsL_law0_r12, w ∈ lw_tbl := fun w h => (goodIn_p wsL_law0_r12 [719, 723, 480, 727] (by decide +kernel) (by decide +kernel) w h).1
theorem wsL_law_c13 : ∀ w ∈ wsL_law0_r13, w ∈ lw_tbl := fun w h => (goodIn_p wsL_law0_r13 [487, 491, 494, 497, 167, 731] (by decide +kernel) (by decide +kernel) w h).1
theorem wsL_law_c14 : ∀ w ∈ wsL_law0_r14, w ∈ lw_tbl := fun w h => (goodIn_p wsL_law0_r14 [735, 740, 507, 513] (by decide +kernel) (by decide +kernel) w h).1
theorem wsL_law_c15 : ∀ w ∈ wsL_law0_r15, w ∈ lw_tbl := fun w h => (goodIn_p wsL_law0_r15 [199, 519, 523, 527, 530, 533] (by decide +kernel) (by decide +kernel) w h).1
theorem wsL_law_c16 : ∀ w ∈ wsL_law0_r16, w ∈ lw_tbl := fun w h => (goodIn_p wsL_law0_r16 [537, 746, 750, 754, 758, 762] (by decide +kernel) (by decide +kernel) w h).1
theorem wsL_law_c17 : ∀ w ∈ wsL_law0_r17, w ∈ lw_tbl := fun w h => (goodIn_p wsL_law0_r17 [544, 549, 766, 770] (by decide +kernel) (by decide +kernel) w h).1
theorem wsL_law_c18 : ∀ w ∈ wsL_law0_r18, w ∈ lw_tbl := fun w h => (goodIn_p wsL_law0_r18 [556, 774, 565, 568, 177, 180] (by decide +kernel) (by decide +kernel) w h).1
theorem wsL_law_c19 : ∀ w ∈ wsL_law0_r19, w ∈ lw_tbl := fun w h => (goodIn_p wsL_law0_r19 [184, 188, 778, 782, 576] (by decide +kernel) (by decide +kernel) w h).1
theorem wsL_law_c20 : ∀ w ∈ wsL_law0_r20, w ∈ lw_tbl := fun w h => (goodIn_p wsL_law0_r20 [192, 786, 790, 794, 584] (by decide +kernel) (by decide +kernel) w h).1
theorem wsL_law_c21 : ∀ w ∈ wsL_law0_r21, w ∈ lw_tbl := fun w h => (goodIn_p wsL_law0_r21 [195, 798, 802, 591, 140] (by decide +kernel) (by decide +kernel) w h).1
theorem wsL_law_c22 : ∀ w ∈ wsL_law0_r22, w ∈ lw_tbl := fun w h => (goodIn_p wsL_law0_r22 [144, 162, 806, 810, 598] (by decide +kernel) (by decide +kernel) w h).1
theorem wsL_law_c23 : ∀ w ∈ wsL_law0_r23, w ∈ lw_tbl := fun w h => (goodIn_p wsL_law0_r23 [602, 606, 814, 818, 613] (by decide +kernel) (by decide +kernel) w h).1
theorem wsL_law_c24 : ∀ w ∈ wsL_law0_r24, w ∈ lw_tbl := fun w h => (goodIn_p wsL_law0_r24 [822, 620, 826, 628] (by decide +kernel) (by decide +kernel) w h).1
theorem wsL_law_c25 : ∀ w ∈ wsL_law0_r25, w ∈ lw_tbl := fun w h => (goodIn_p wsL_law0_r25 [830, 112, 834, 134, 838] (by decide +kernel) (by decide +kernel) w h).1
theorem wsL_law_in0 : ∀ w ∈ wsL_law0, w ∈ lw_tbl := List.forall_mem_append.mpr ⟨List.forall_mem_append.mpr ⟨List.forall_mem_append.mpr ⟨List.forall_mem_append.mpr ⟨List.forall_mem_append.mpr ⟨List.forall_mem_append.mpr ⟨List.forall_mem_append.mpr ⟨wsL_law_c1, List.forall_mem_append.mpr ⟨wsL_law_c2, List.forall_mem_append.mpr ⟨wsL_law_c3, List.forall_mem_append.mpr ⟨wsL_law_c4, List.forall_mem_append.mpr ⟨wsL_law_c5, List.forall_mem_append.mpr ⟨wsL_law_c6, List.forall_mem_append.mpr ⟨wsL_law_c7, List.forall_mem_append.mpr ⟨wsL_law_c8, List.forall_mem_append.mpr ⟨wsL_law_c9, List.forall_mem_append.mpr ⟨wsL_law_c10, List.forall_mem_append.mpr ⟨wsL_law_c11, List.forall_mem_append.mpr ⟨wsL_law_c12, List.forall_mem_append.mpr ⟨wsL_law_c13, List.forall_mem_append.mpr ⟨wsL_law_c14, List.forall_mem_append.mpr ⟨wsL_law_c15, List.forall_mem_append.mpr ⟨wsL_law_c16, List.forall_mem_append.mpr ⟨wsL_law_c17, List.forall_mem_append.mpr ⟨wsL_law_c18, List.forall_mem_append.mpr ⟨wsL_law_c19, List.forall_mem_append.mpr ⟨wsL_law_c20, List.forall_mem_append.mpr ⟨wsL_law_c21, List.forall_mem_append.mpr ⟨wsL_law_c22, List.forall_mem_append.mpr ⟨wsL_law_c23, List.forall_mem_append.mpr ⟨wsL_law_c24, wsL_law_c25⟩⟩⟩⟩⟩⟩⟩⟩⟩⟩⟩⟩⟩⟩⟩⟩⟩⟩⟩⟩⟩⟩⟩⟩, (by decide +kernel : ∀ w ∈ wsX20, w ∈ lw_tbl)⟩, (by decide +kernel : ∀ w ∈ wsX30, w ∈ lw_tbl)⟩, (by decide +kernel : ∀ w ∈ wsJx4a65c0, w ∈ lw_tbl)⟩, (by decide +kernel : ∀ w ∈ wsX00, w ∈ lw_tbl)⟩, (by decide +kernel : ∀ w ∈ wsX10, w ∈ lw_tbl)⟩, (fun _ h => absurd h List.not_mem_nil)⟩
theorem wsL_law_x0 : ∀ w ∈ (vx_atS RX2 44 "java/lang/IllegalStateException" ["java/lang/RuntimeException", "java/lang/Exception"]).filter goodWord, w ∈ lw_tbl := by decide +kernel
theorem wsL_law_x1 : ∀ w ∈ (vx_atS RX2 175 "java/lang/IndexOutOfBoundsException" ["java/lang/RuntimeException", "java/lang/Exception"]).filter goodWord, w ∈ lw_tbl := by decide +kernel
theorem wsL_law_x2 : ∀ w ∈ (vx_atS RX2 75 "java/lang/IllegalArgumentException" ["java/lang/RuntimeException", "java/lang/Exception"]).filter goodWord, w ∈ lw_tbl := by decide +kernel
theorem wsL_law_in : ∀ w ∈ wsL_law, w ∈ lw_tbl := fun w h => (List.mem_append.mp h).elim (fun h => (List.mem_append.mp h).elim (fun h => (List.mem_append.mp h).elim (fun h => wsL_law_in0 w h) (fun h => wsL_law_x0 w h)) (fun h => wsL_law_x1 w h)) (fun h => wsL_law_x2 w h)
theorem inlX0 : ∀ w ∈ wsX00, w ∈ wsL_law := fun _ h => List.mem_append_left _ (List.mem_append_left _ (List.mem_append_left _ (List.mem_append_left _ (List.mem_append_left _ (List.mem_append_right _ h)))))
theorem inX0 : ∀ w ∈ wsX00, w ∈ lw_tbl := fun w h => wsL_law_in w (inlX0 w h)
theorem inlX1 : ∀ w ∈ wsX10, w ∈ wsL_law := fun _ h => List.mem_append_left _ (List.mem_append_left _ (List.mem_append_left _ (List.mem_append_left _ (List.mem_append_right _ h))))
theorem inX1 : ∀ w ∈ wsX10, w ∈ lw_tbl := fun w h => wsL_law_in w (inlX1 w h)
theorem inlX2 : ∀ w ∈ wsX20, w ∈ wsL_law := fun _ h => List.mem_append_left _ (List.mem_append_left _ (List.mem_append_left _ (List.mem_append_left _ (List.mem_append_left _ (List.mem_append_left _ (List.mem_append_left _ (List.mem_append_left _ (List.mem_append_right _ h))))))))
theorem inX2 : ∀ w ∈ wsX20, w ∈ lw_tbl := fun w h => wsL_law_in w (inlX2 w h)
theorem inlX3 : ∀ w ∈ wsX30, w ∈ wsL_law := fun _ h => List.mem_append_left _ (List.mem_append_left _ (List.mem_append_left _ (List.mem_append_left _ (List.mem_append_left _ (List.mem_append_left _ (List.mem_append_left _ (List.mem_append_right _ h)))))))
theorem inX3 : ∀ w ∈ wsX30, w ∈ lw_tbl := fun w h => wsL_law_in w (inlX3 w h)
theorem inJx145de : ∀ w ∈ wsJx145de0, w ∈ lw_tbl := by decide +kernel
theorem inJx8e188 : ∀ w ∈ wsJx8e1880, w ∈ lw_tbl := by decide +kernel
theorem inJxab1ab : ∀ w ∈ wsJxab1ab0, w ∈ lw_tbl := by decide +kernel
theorem inJ9 : ∀ w ∈ wsJ90, w ∈ lw_tbl := by decide +kernel
theorem inJ0 : ∀ w ∈ wsJ00, w ∈ lw_tbl := by decide +kernel
theorem inJ10 : ∀ w ∈ wsJ100, w ∈ lw_tbl := by decide +kernel
theorem inJxa1e45 : ∀ w ∈ wsJxa1e450, w ∈ lw_tbl := by decide +kernel
theorem inJxc12de : ∀ w ∈ wsJxc12de0, w ∈ lw_tbl := by decide +kernel
theorem inlJx4a65c : ∀ w ∈ wsJx4a65c0, w ∈ wsL_law := fun _ h => List.mem_append_left _ (List.mem_append_left _ (List.mem_append_left _ (List.mem_append_left _ (List.mem_append_left _ (List.mem_append_left _ (List.mem_append_right _ h))))))
theorem inJx4a65c : ∀ w ∈ wsJx4a65c0, w ∈ lw_tbl := fun w h => wsL_law_in w (inlJx4a65c w h)
theorem inJ7 : ∀ w ∈ wsJ70, w ∈ lw_tbl := by decide +kernel
theorem inJx5ef63 : ∀ w ∈ wsJx5ef630, w ∈ lw_tbl := by decide +kernel
theorem inJxbd725 : ∀ w ∈ wsJxbd7250, w ∈ lw_tbl := by decide +kernel
theorem inJ15 : ∀ w ∈ wsJ150, w ∈ lw_tbl := by decide +kernel
theorem inJxf0a74 : ∀ w ∈ wsJxf0a740, w ∈ lw_tbl := by decide +kernel
theorem inJxa66e6 : ∀ w ∈ wsJxa66e60, w ∈ lw_tbl := by decide +kernel
theorem inJ8 : ∀ w ∈ wsJ80, w ∈ lw_tbl := by decide +kernel
theorem inJ3 : ∀ w ∈ wsJ30, w ∈ lw_tbl := by decide +kernel
end
section
theorem dX0_init_0 : decode cX0_init 0 = .ok (.aload_n 0, 1) := by decide +kernel
theorem dX0_init_1 : decode cX0_init 1 = .ok (.invokespecial 3, 3) := by decide +kernel
theorem dX0_init_4 : decode cX0_init 4 = .ok (.aload_n 0, 1) := by decide +kernel
theorem dX0_init_5 : decode cX0_init 5 = .ok (.iconst (-1), 1) := by decide +kernel
theorem dX0_init_6 : decode cX0_init 6 = .ok (.putfield 9, 3) := by decide +kernel
theorem dX0_init_9 : decode cX0_init 9 = .ok (.aload_n 0, 1) := by decide +kernel
theorem dX0_init_10 : decode cX0_init 10 = .ok (.iconst (-1), 1) := by decide +kernel
theorem dX0_init_11 : decode cX0_init 11 = .ok (.putfield 15, 3) := by decide +kernel
theorem dX0_init_14 : decode cX0_init 14 = .ok (.aload_n 0, 1) := by decide +kernel
theorem dX0_init_15 : decode cX0_init 15 = .ok (.iload_n 1, 1) := by decide +kernel
theorem dX0_init_16 : decode cX0_init 16 = .ok (.putfield 18, 3) := by decide +kernel
theorem dX0_init_19 : decode cX0_init 19 = .ok (.aload_n 0, 1) := by decide +kernel
theorem dX0_init_20 : decode cX0_init 20 = .ok (.iload_n 2, 1) := by decide +kernel
theorem dX0_init_21 : decode cX0_init 21 = .ok (.putfield 21, 3) := by decide +kernel
theorem dX0_init_24 : decode cX0_init 24 = .ok (.return_, 1) := by decide +kernel
theorem dX1_init_0 : decode cX1_init 0 = .ok (.aload_n 0, 1) := by decide +kernel
theorem dX1_init_1 : decode cX1_init 1 = .ok (.invokespecial 3, 3) := by decide +kernel
theorem dX1_init_4 : decode cX1_init 4 = .ok (.aload_n 0, 1) := by decide +kernel
theorem dX1_init_5 : decode cX1_init 5 = .ok (.bipush 10, 2) := by decide +kernel
theorem dX1_init_7 : decode cX1_init 7 = .ok (.putfield 9, 3) := by decide +kernel
theorem dX1_init_10 : decode cX1_init 10 = .ok (.aload_n 0, 1) := by decide +kernel
theorem dX1_init_11 : decode cX1_init 11 = .ok (.iload_n 1, 1) := by decide +kernel
theorem dX1_init_12 : decode cX1_init 12 = .ok (.putfield 15, 3) := by decide +kernel
theorem dX1_init_15 : decode cX1_init 15 = .ok (.aload_n 0, 1) := by decide +kernel
theorem dX1_init_16 : decode cX1_init 16 = .ok (.iload_n 2, 1) := by decide +kernel
theorem dX1_init_17 : decode cX1_init 17 = .ok (.putfield 18, 3) := by decide +kernel
theorem dX1_init_20 : decode cX1_init 20 = .ok (.aload_n 0, 1) := by decide +kernel
theorem dX1_init_21 : decode cX1_init 21 = .ok (.iload_n 3, 1) := by decide +kernel
theorem dX1_init_22 : decode cX1_init 22 = .ok (.putfield 21, 3) := by decide +kernel
theorem dX1_init_25 : decode cX1_init 25 = .ok (.aload_n 0, 1) := by decide +kernel
theorem dX1_init_26 : decode cX1_init 26 = .ok (.iload 4, 2) := by decide +kernel
theorem dX1_init_28 : decode cX1_init 28 = .ok (.putfield 24, 3) := by decide +kernel
theorem dX1_init_31 : decode cX1_init 31 = .ok (.aload_n 0, 1) := by decide +kernel
theorem dX1_init_32 : decode cX1_init 32 = .ok (.iload_n 1, 1) := by decide +kernel
theorem dX1_init_33 : decode cX1_init 33 = .ok (.putfield 27, 3) := by decide +kernel
theorem dX1_init_36 : decode cX1_init 36 = .ok (.return_, 1) := by decide +kernel
theorem dX1_strength_0 : decode cX1_strength 0 = .ok (.aload_n 0, 1) := by decide +kernel
theorem dX1_strength_1 : decode cX1_strength 1 = .ok (.getfield 21, 3) := by decide +kernel
theorem dX1_strength_4 : decode cX1_strength 4 = .ok (.iconst 1, 1) := by decide +kernel
theorem dX1_strength_5 : decode cX1_strength 5 = .ok (.if_icmp .ge 7, 3) := by decide +kernel
theorem dX1_strength_8 : decode cX1_strength 8 = .ok (.iconst 0, 1) := by decide +kernel
theorem dX1_strength_9 : decode cX1_strength 9 = .ok (.goto 15, 3) := by decide +kernel
theorem dX1_strength_12 : decode cX1_strength 12 = .ok (.bipush 12, 2) := by decide +kernel
theorem dX1_strength_14 : decode cX1_strength 14 = .ok (.aload_n 0, 1) := by decide +kernel
theorem dX1_strength_15 : decode cX1_strength 15 = .ok (.getfield 24, 3) := by decide +kernel
theorem dX1_strength_18 : decode cX1_strength 18 = .ok (.imul, 1) := by decide +kernel
theorem dX1_strength_19 : decode cX1_strength 19 = .ok (.aload_n 0, 1) := by decide +kernel
theorem dX1_strength_20 : decode cX1_strength 20 = .ok (.getfield 21, 3) := by decide +kernel
theorem dX1_strength_23 : decode cX1_strength 23 = .ok (.idiv, 1) := by decide +kernel
theorem dX1_strength_24 : decode cX1_strength 24 = .ok (.ireturn, 1) := by decide +kernel
set_option maxRecDepth 20000 in
theorem ggX1_canLift_X1_strength : GoodIn wsX1_canLift wsX1_strength := goodIn_r _ [5, 6, 7, 8, 9, 10, 11, 12, 13, 14, 15] (by decide +kernel) (by decide +kernel)
set_option maxRecDepth 20000 in
theorem gX1_canLift_X1_strength : GoodIn wsX1_canLift (wsV RX1 30 RX1 yX1_strength wsX1_strength) := goodIn_app (goodIn_of _ (by decide +kernel)) ggX1_canLift_X1_strength
theorem dX1_canLift_0 : decode cX1_canLift 0 = .ok (.iload_n 1, 1) := by decide +kernel
theorem dX1_canLift_1 : decode cX1_canLift 1 = .ok (.aload_n 0, 1) := by decide +kernel
theorem dX1_canLift_2 : decode cX1_canLift 2 = .ok (.invokevirtual 30, 3) := by decide +kernel
theorem dX1_canLift_5 : decode cX1_canLift 5 = .ok (.if_icmp .gt 7, 3) := by decide +kernel
theorem dX1_canLift_8 : decode cX1_canLift 8 = .ok (.iconst 1, 1) := by decide +kernel
theorem dX1_canLift_9 : decode cX1_canLift 9 = .ok (.goto 4, 3) := by decide +kernel
theorem dX1_canLift_12 : decode cX1_canLift 12 = .ok (.iconst 0, 1) := by decide +kernel
theorem dX1_canLift_13 : decode cX1_canLift 13 = .ok (.ireturn, 1) := by decide +kernel
set_option maxRecDepth 20000 in
theorem ggX1_reaches_X2_distance : GoodIn wsX1_reaches wsX2_distance := goodIn_r _ [5, 6, 7, 8, 9] (by decide +kernel) (by decide +kernel)
set_option maxRecDepth 20000 in
theorem gX1_reaches_X2_distance_n34 : GoodIn wsX1_reaches (wsX2_distance) := ggX1_reaches_X2_distance
theorem dX1_reaches_0 : decode cX1_reaches 0 = .ok (.aload_n 0, 1) := by decide +kernel
theorem dX1_reaches_1 : decode cX1_reaches 1 = .ok (.getfield 15, 3) := by decide +kernel
theorem dX1_reaches_4 : decode cX1_reaches 4 = .ok (.iload_n 1, 1) := by decide +kernel
theorem dX1_reaches_5 : decode cX1_reaches 5 = .ok (.invokestatic 34, 3) := by decide +kernel
theorem dX1_reaches_8 : decode cX1_reaches 8 = .ok (.aload_n 0, 1) := by decide +kernel
theorem dX1_reaches_9 : decode cX1_reaches 9 = .ok (.getfield 18, 3) := by decide +kernel
theorem dX1_reaches_12 : decode cX1_reaches 12 = .ok (.if_icmp .gt 7, 3) := by decide +kernel
theorem dX1_reaches_15 : decode cX1_reaches 15 = .ok (.iconst 1, 1) := by decide +kernel
theorem dX1_reaches_16 : decode cX1_reaches 16 = .ok (.goto 4, 3) := by decide +kernel
theorem dX1_reaches_19 : decode cX1_reaches 19 = .ok (.iconst 0, 1) := by decide +kernel
theorem dX1_reaches_20 : decode cX1_reaches 20 = .ok (.ireturn, 1) := by decide +kernel
theorem dX1_ticksToWind_0 : decode cX1_ticksToWind 0 = .ok (.aload_n 0, 1) := by decide +kernel
theorem dX1_ticksToWind_1 : decode cX1_ticksToWind 1 = .ok (.getfield 21, 3) := by decide +kernel
theorem dX1_ticksToWind_4 : decode cX1_ticksToWind 4 = .ok (.iconst 1, 1) := by decide +kernel
theorem dX1_ticksToWind_5 : decode cX1_ticksToWind 5 = .ok (.if_icmp .ge 7, 3) := by decide +kernel
theorem dX1_ticksToWind_8 : decode cX1_ticksToWind 8 = .ok (.iconst 0, 1) := by decide +kernel
theorem dX1_ticksToWind_9 : decode cX1_ticksToWind 9 = .ok (.goto 16, 3) := by decide +kernel
theorem dX1_ticksToWind_12 : decode cX1_ticksToWind 12 = .ok (.iload_n 1, 1) := by decide +kernel
theorem dX1_ticksToWind_13 : decode cX1_ticksToWind 13 = .ok (.aload_n 0, 1) := by decide +kernel
theorem dX1_ticksToWind_14 : decode cX1_ticksToWind 14 = .ok (.getfield 21, 3) := by decide +kernel
theorem dX1_ticksToWind_17 : decode cX1_ticksToWind 17 = .ok (.iadd, 1) := by decide +kernel
theorem dX1_ticksToWind_18 : decode cX1_ticksToWind 18 = .ok (.iconst 1, 1) := by decide +kernel
theorem dX1_ticksToWind_19 : decode cX1_ticksToWind 19 = .ok (.isub, 1) := by decide +kernel
theorem dX1_ticksToWind_20 : decode cX1_ticksToWind 20 = .ok (.aload_n 0, 1) := by decide +kernel
theorem dX1_ticksToWind_21 : decode cX1_ticksToWind 21 = .ok (.getfield 21, 3) := by decide +kernel
theorem dX1_ticksToWind_24 : decode cX1_ticksToWind 24 = .ok (.idiv, 1) := by decide +kernel
theorem dX1_ticksToWind_25 : decode cX1_ticksToWind 25 = .ok (.ireturn, 1) := by decide +kernel
theorem dX1_lowestHook_0 : decode cX1_lowestHook 0 = .ok (.aload_n 0, 1) := by decide +kernel
theorem dX1_lowestHook_1 : decode cX1_lowestHook 1 = .ok (.getfield 38, 3) := by decide +kernel
theorem dX1_lowestHook_4 : decode cX1_lowestHook 4 = .ok (.ifnonnull 7, 3) := by decide +kernel
theorem dX1_lowestHook_7 : decode cX1_lowestHook 7 = .ok (.iload_n 1, 1) := by decide +kernel
theorem dX1_lowestHook_8 : decode cX1_lowestHook 8 = .ok (.goto 6, 3) := by decide +kernel
theorem dX1_lowestHook_11 : decode cX1_lowestHook 11 = .ok (.iload_n 1, 1) := by decide +kernel
theorem dX1_lowestHook_12 : decode cX1_lowestHook 12 = .ok (.iconst 1, 1) := by decide +kernel
theorem dX1_lowestHook_13 : decode cX1_lowestHook 13 = .ok (.iadd, 1) := by decide +kernel
theorem dX1_lowestHook_14 : decode cX1_lowestHook 14 = .ok (.ireturn, 1) := by decide +kernel
set_option maxRecDepth 20000 in
theorem ggX1_wornAfterLowering_X2_wearInATick : GoodIn wsX1_wornAfterLowering wsX2_wearInATick := goodIn_r _ [4] (by decide +kernel) (by decide +kernel)
set_option maxRecDepth 20000 in
theorem gX1_wornAfterLowering_X2_wearInATick_n45 : GoodIn wsX1_wornAfterLowering (wsX2_wearInATick) := ggX1_wornAfterLowering_X2_wearInATick
theorem dX1_wornAfterLowering_0 : decode cX1_wornAfterLowering 0 = .ok (.aload_n 0, 1) := by decide +kernel
theorem dX1_wornAfterLowering_1 : decode cX1_wornAfterLowering 1 = .ok (.getfield 42, 3) := by decide +kernel
theorem dX1_wornAfterLowering_4 : decode cX1_wornAfterLowering 4 = .ok (.iload_n 2, 1) := by decide +kernel
theorem dX1_wornAfterLowering_5 : decode cX1_wornAfterLowering 5 = .ok (.iload_n 1, 1) := by decide +kernel
theorem dX1_wornAfterLowering_6 : decode cX1_wornAfterLowering 6 = .ok (.invokestatic 45, 3) := by decide +kernel
theorem dX1_wornAfterLowering_9 : decode cX1_wornAfterLowering 9 = .ok (.imul, 1) := by decide +kernel
theorem dX1_wornAfterLowering_10 : decode cX1_wornAfterLowering 10 = .ok (.iadd, 1) := by decide +kernel
theorem dX1_wornAfterLowering_11 : decode cX1_wornAfterLowering 11 = .ok (.ireturn, 1) := by decide +kernel
set_option maxRecDepth 20000 in
theorem ggX2_init_Jx4a65c_init_da8c8 : GoodIn wsX2_init wsJx4a65c_init_da8c8 := goodIn_r _ [13, 14, 15, 16, 17, 18, 19, 20, 21, 22, 23, 24, 25, 2, 3, 30, 31, 32] (by decide +kernel) (by decide +kernel)
set_option maxRecDepth 20000 in
theorem gX2_init_Jx4a65c_init_da8c8 : GoodIn wsX2_init (wsJx4a65c_init_da8c8) := ggX2_init_Jx4a65c_init_da8c8
theorem dX2_init_0 : decode cX2_init 0 = .ok (.aload_n 0, 1) := by decide +kernel
theorem dX2_init_1 : decode cX2_init 1 = .ok (.invokespecial 1, 3) := by decide +kernel
theorem dX2_init_4 : decode cX2_init 4 = .ok (.aload_n 0, 1) := by decide +kernel
theorem dX2_init_5 : decode cX2_init 5 = .ok (.bipush 16, 2) := by decide +kernel
theorem dX2_init_7 : decode cX2_init 7 = .ok (.anewarray 9, 3) := by decide +kernel
theorem dX2_init_10 : decode cX2_init 10 = .ok (.putfield 11, 3) := by decide +kernel
theorem dX2_init_13 : decode cX2_init 13 = .ok (.aload_n 0, 1) := by decide +kernel
theorem dX2_init_14 : decode cX2_init 14 = .ok (.new 15, 3) := by decide +kernel
theorem dX2_init_17 : decode cX2_init 17 = .ok (.dup, 1) := by decide +kernel
theorem dX2_init_18 : decode cX2_init 18 = .ok (.invokespecial 17, 3) := by decide +kernel
theorem dX2_init_21 : decode cX2_init 21 = .ok (.putfield 18, 3) := by decide +kernel
theorem dX2_init_24 : decode cX2_init 24 = .ok (.aload_n 0, 1) := by decide +kernel
theorem dX2_init_25 : decode cX2_init 25 = .ok (.new 15, 3) := by decide +kernel
theorem dX2_init_28 : decode cX2_init 28 = .ok (.dup, 1) := by decide +kernel
theorem dX2_init_29 : decode cX2_init 29 = .ok (.invokespecial 17, 3) := by decide +kernel
theorem dX2_init_32 : decode cX2_init 32 = .ok (.putfield 22, 3) := by decide +kernel
theorem dX2_init_35 : decode cX2_init 35 = .ok (.return_, 1) := by decide +kernel
set_option maxRecDepth 20000 in
theorem ggX2_land_X2_requirePlace : GoodIn wsX2_land wsX2_requirePlace := goodIn_ca (goodIn_r _ [11, 12, 13, 14, 15, 10, 16, 17, 18, 19] (by decide +kernel) (by decide +kernel)) (goodIn_sub (fun _ h => List.mem_cons_of_mem _ (List.mem_append_left _ (List.mem_append_right _ h))) (by decide +kernel))
set_option maxRecDepth 20000 in
theorem gX2_land_X2_requirePlace : GoodIn wsX2_land (va_wsS RX2 25 yX2_requirePlace wsX2_requirePlace) := goodIn_app (goodIn_of _ (by decide +kernel)) ggX2_land_X2_requirePlace
set_option maxRecDepth 20000 in
theorem ggX2_land_X2_requireWeight : GoodIn wsX2_land wsX2_requireWeight := goodIn_ca (goodIn_r _ [22, 23, 24, 17, 18, 10, 19] (by decide +kernel) (by decide +kernel)) (goodIn_sub (fun _ h => List.mem_cons_of_mem _ (List.mem_append_right _ h)) (by decide +kernel))
set_option maxRecDepth 20000 in
theorem gX2_land_X2_requireWeight : GoodIn wsX2_land (va_wsS RX2 29 yX2_requireWeight wsX2_requireWeight) := goodIn_app (goodIn_of _ (by decide +kernel)) ggX2_land_X2_requireWeight
set_option maxRecDepth 20000 in
theorem ggX2_land_Jx4a65c_size_8abf5 : GoodIn wsX2_land wsJx4a65c_size_8abf5 := goodIn_r _ [29, 30, 152, 153, 154] (by decide +kernel) (by decide +kernel)
set_option maxRecDepth 20000 in
theorem gX2_land_Jx4a65c_size_8abf5 : GoodIn wsX2_land (wsV RX2 32 RJx4a65c yJx4a65c_size_8abf5 wsJx4a65c_size_8abf5) := goodIn_app (goodIn_of _ (by decide +kernel)) ggX2_land_Jx4a65c_size_8abf5
set_option maxRecDepth 20000 in
theorem ggX2_land_X2_heightOf : GoodIn wsX2_land wsX2_heightOf := goodIn_r _ [34, 35, 36, 37, 38, 10, 39, 40, 14, 15, 16, 17, 18, 19, 145, 146, 147, 148, 149, 150, 151, 141, 142, 143, 144] (by decide +kernel) (by decide +kernel)
set_option maxRecDepth 20000 in
theorem gX2_land_X2_heightOf : GoodIn wsX2_land (wsV RX2 36 RX2 yX2_heightOf wsX2_heightOf) := goodIn_app (goodIn_of _ (by decide +kernel)) ggX2_land_X2_heightOf
set_option maxRecDepth 20000 in
theorem ggX2_land_X2_hooksAllow : GoodIn wsX2_land wsX2_hooksAllow := goodIn_r _ [44, 45, 46, 47, 48, 25, 26, 27, 28, 29, 30, 49, 50, 51, 52, 53, 54, 55, 56, 57, 58, 59, 60, 61, 62, 63, 64, 65, 66, 67, 68, 69, 70, 71, 141, 142, 143, 144, 155, 156, 157, 158, 159, 160, 161, 162, 152, 153, 154] (by decide +kernel) (by decide +kernel)
set_option maxRecDepth 20000 in
theorem gX2_land_X2_hooksAllow : GoodIn wsX2_land (wsV RX2 47 RX2 yX2_hooksAllow wsX2_hooksAllow) := goodIn_app (goodIn_of _ (by decide +kernel)) ggX2_land_X2_hooksAllow
set_option maxRecDepth 20000 in
theorem ggX2_land_X0_init : GoodIn wsX2_land wsX0_init := goodIn_r _ [74, 75, 76, 77, 78, 79, 80, 81, 145, 146, 147, 148, 149, 150, 151] (by decide +kernel) (by decide +kernel)
set_option maxRecDepth 20000 in
theorem gX2_land_X0_init : GoodIn wsX2_land (wsX0_init) := ggX2_land_X0_init
set_option maxRecDepth 20000 in
theorem ggX2_land_Jx4a65c_add_9ea2d : GoodIn wsX2_land wsJx4a65c_add_9ea2d := goodIn_r _ [85, 86, 87, 65, 30, 88, 89, 90, 28, 91, 92, 93, 94, 95, 96, 97, 98, 99, 100, 101, 102, 103, 104, 105, 106, 107, 108, 109, 110, 111, 112, 113, 114, 115, 116, 117, 118, 119, 120, 121, 122, 123, 124, 125, 126, 127, 128, 129, 130, 131, 132, 133, 134, 152, 153, 154] (by decide +kernel) (by decide +kernel)
set_option maxRecDepth 20000 in
theorem gX2_land_Jx4a65c_add_9ea2d : GoodIn wsX2_land (wsV RX2 56 RJx4a65c yJx4a65c_add_9ea2d wsJx4a65c_add_9ea2d) := goodIn_app (goodIn_of _ (by decide +kernel)) ggX2_land_Jx4a65c_add_9ea2d
set_option maxRecDepth 20000 in
theorem ggX2_land_X2_putUpon : GoodIn wsX2_land wsX2_putUpon := goodIn_r _ [138, 139, 35, 40, 140, 14, 15, 10, 16, 17, 18, 19, 31, 32, 33, 34, 36, 37, 38, 39, 145, 146, 147, 148, 149, 150, 151, 141, 142, 143, 144] (by decide +kernel) (by decide +kernel)
set_option maxRecDepth 20000 in
theorem gX2_land_X2_putUpon : GoodIn wsX2_land (wsV RX2 60 RX2 yX2_putUpon wsX2_putUpon) := goodIn_app (goodIn_of _ (by decide +kernel)) ggX2_land_X2_putUpon
theorem dX2_land_0 : decode cX2_land 0 = .ok (.iload_n 1, 1) := by decide +kernel
theorem dX2_land_1 : decode cX2_land 1 = .ok (.invokestatic 25, 3) := by decide +kernel
theorem dX2_land_4 : decode cX2_land 4 = .ok (.iload_n 2, 1) := by decide +kernel
theorem dX2_land_5 : decode cX2_land 5 = .ok (.invokestatic 29, 3) := by decide +kernel
theorem dX2_land_8 : decode cX2_land 8 = .ok (.aload_n 0, 1) := by decide +kernel
theorem dX2_land_9 : decode cX2_land 9 = .ok (.getfield 18, 3) := by decide +kernel
theorem dX2_land_12 : decode cX2_land 12 = .ok (.invokevirtual 32, 3) := by decide +kernel
theorem dX2_land_15 : decode cX2_land 15 = .ok (.bipush 40, 2) := by decide +kernel
theorem dX2_land_17 : decode cX2_land 17 = .ok (.if_icmp .ge 13, 3) := by decide +kernel
theorem dX2_land_20 : decode cX2_land 20 = .ok (.aload_n 0, 1) := by decide +kernel
theorem dX2_land_21 : decode cX2_land 21 = .ok (.iload_n 1, 1) := by decide +kernel
theorem dX2_land_22 : decode cX2_land 22 = .ok (.invokevirtual 36, 3) := by decide +kernel
theorem dX2_land_25 : decode cX2_land 25 = .ok (.bipush 8, 2) := by decide +kernel
theorem dX2_land_27 : decode cX2_land 27 = .ok (.if_icmp .lt 13, 3) := by decide +kernel
theorem dX2_land_30 : decode cX2_land 30 = .ok (.new 40, 3) := by decide +kernel
theorem dX2_land_33 : decode cX2_land 33 = .ok (.dup, 1) := by decide +kernel
theorem dX2_land_34 : decode cX2_land 34 = .ok (.ldc 42, 2) := by decide +kernel
theorem dX2_land_36 : decode cX2_land 36 = .ok (.invokespecial 44, 3) := by decide +kernel
theorem dX2_land_39 : decode cX2_land 39 = .ok (.athrow, 1) := by decide +kernel
theorem dX2_land_40 : decode cX2_land 40 = .ok (.aload_n 0, 1) := by decide +kernel
theorem dX2_land_41 : decode cX2_land 41 = .ok (.iload_n 1, 1) := by decide +kernel
theorem dX2_land_42 : decode cX2_land 42 = .ok (.aload_n 0, 1) := by decide +kernel
theorem dX2_land_43 : decode cX2_land 43 = .ok (.iload_n 1, 1) := by decide +kernel
theorem dX2_land_44 : decode cX2_land 44 = .ok (.invokevirtual 36, 3) := by decide +kernel
theorem dX2_land_47 : decode cX2_land 47 = .ok (.iconst 1, 1) := by decide +kernel
theorem dX2_land_48 : decode cX2_land 48 = .ok (.iadd, 1) := by decide +kernel
theorem dX2_land_49 : decode cX2_land 49 = .ok (.iconst (-1), 1) := by decide +kernel
theorem dX2_land_50 : decode cX2_land 50 = .ok (.invokevirtual 47, 3) := by decide +kernel
theorem dX2_land_53 : decode cX2_land 53 = .ok (.ifCond .ne 13, 3) := by decide +kernel
theorem dX2_land_56 : decode cX2_land 56 = .ok (.new 40, 3) := by decide +kernel
theorem dX2_land_59 : decode cX2_land 59 = .ok (.dup, 1) := by decide +kernel
theorem dX2_land_60 : decode cX2_land 60 = .ok (.ldc 51, 2) := by decide +kernel
theorem dX2_land_62 : decode cX2_land 62 = .ok (.invokespecial 44, 3) := by decide +kernel
theorem dX2_land_65 : decode cX2_land 65 = .ok (.athrow, 1) := by decide +kernel
theorem dX2_land_66 : decode cX2_land 66 = .ok (.new 9, 3) := by decide +kernel
theorem dX2_land_69 : decode cX2_land 69 = .ok (.dup, 1) := by decide +kernel
theorem dX2_land_70 : decode cX2_land 70 = .ok (.aload_n 0, 1) := by decide +kernel
theorem dX2_land_71 : decode cX2_land 71 = .ok (.getfield 18, 3) := by decide +kernel
theorem dX2_land_74 : decode cX2_land 74 = .ok (.invokevirtual 32, 3) := by decide +kernel
theorem dX2_land_77 : decode cX2_land 77 = .ok (.iload_n 2, 1) := by decide +kernel
theorem dX2_land_78 : decode cX2_land 78 = .ok (.invokespecial 53, 3) := by decide +kernel
theorem dX2_land_81 : decode cX2_land 81 = .ok (.astore_n 3, 1) := by decide +kernel
theorem dX2_land_82 : decode cX2_land 82 = .ok (.aload_n 0, 1) := by decide +kernel
theorem dX2_land_83 : decode cX2_land 83 = .ok (.getfield 18, 3) := by decide +kernel
theorem dX2_land_86 : decode cX2_land 86 = .ok (.aload_n 3, 1) := by decide +kernel
theorem dX2_land_87 : decode cX2_land 87 = .ok (.invokevirtual 56, 3) := by decide +kernel
theorem dX2_land_90 : decode cX2_land 90 = .ok (.pop, 1) := by decide +kernel
theorem dX2_land_91 : decode cX2_land 91 = .ok (.aload_n 0, 1) := by decide +kernel
theorem dX2_land_92 : decode cX2_land 92 = .ok (.iload_n 1, 1) := by decide +kernel
theorem dX2_land_93 : decode cX2_land 93 = .ok (.aload_n 3, 1) := by decide +kernel
theorem dX2_land_94 : decode cX2_land 94 = .ok (.invokevirtual 60, 3) := by decide +kernel
theorem dX2_land_97 : decode cX2_land 97 = .ok (.aload_n 3, 1) := by decide +kernel
theorem dX2_land_98 : decode cX2_land 98 = .ok (.getfield 64, 3) := by decide +kernel
theorem dX2_land_101 : decode cX2_land 101 = .ok (.ireturn, 1) := by decide +kernel
set_option maxRecDepth 20000 in
theorem ggX2_build_X2_requirePlace : GoodIn wsX2_build wsX2_requirePlace := goodIn_ca (goodIn_r _ [12, 13, 14, 15, 16, 11, 17, 18, 19, 20] (by decide +kernel) (by decide +kernel)) (goodIn_sub (fun _ h => List.mem_cons_of_mem _ (List.mem_append_right _ h)) (by decide +kernel))
set_option maxRecDepth 20000 in
theorem gX2_build_X2_requirePlace : GoodIn wsX2_build (va_wsS RX2 25 yX2_requirePlace wsX2_requirePlace) := goodIn_app (goodIn_of _ (by decide +kernel)) ggX2_build_X2_requirePlace
set_option maxRecDepth 20000 in
theorem ggX2_build_X2_isBetween : GoodIn wsX2_build wsX2_isBetween := goodIn_r _ [20] (by decide +kernel) (by decide +kernel)
set_option maxRecDepth 20000 in
theorem gX2_build_X2_isBetween : GoodIn wsX2_build (va_wsS RX2 68 yX2_isBetween wsX2_isBetween) := goodIn_app (goodIn_of _ (by decide +kernel)) ggX2_build_X2_isBetween
set_option maxRecDepth 20000 in
theorem ggX2_build_X2_requireWalkers : GoodIn wsX2_build wsX2_requireWalkers := goodIn_ca (goodIn_r _ [23, 1, 2, 18, 19, 11, 20] (by decide +kernel) (by decide +kernel)) (goodIn_sub (fun _ h => List.mem_cons_of_mem _ (List.mem_append_left _ (List.mem_append_left _ (List.mem_append_right _ h)))) (by decide +kernel))
set_option maxRecDepth 20000 in
theorem gX2_build_X2_requireWalkers : GoodIn wsX2_build (va_wsS RX2 76 yX2_requireWalkers wsX2_requireWalkers) := goodIn_app (goodIn_of _ (by decide +kernel)) ggX2_build_X2_requireWalkers
set_option maxRecDepth 20000 in
theorem ggX2_build_Jx4a65c_size_8abf5 : GoodIn wsX2_build wsJx4a65c_size_8abf5 := goodIn_r _ [28, 29, 108, 109, 110] (by decide +kernel) (by decide +kernel)
set_option maxRecDepth 20000 in
theorem gX2_build_Jx4a65c_size_8abf5 : GoodIn wsX2_build (wsV RX2 32 RJx4a65c yJx4a65c_size_8abf5 wsJx4a65c_size_8abf5) := goodIn_app (goodIn_of _ (by decide +kernel)) ggX2_build_Jx4a65c_size_8abf5
set_option maxRecDepth 20000 in
theorem ggX2_build_X1_init : GoodIn wsX2_build wsX1_init := goodIn_r _ [32, 33, 34, 35, 36, 37, 38, 39, 40, 41, 100, 101, 102, 103, 104, 105, 106, 107] (by decide +kernel) (by decide +kernel)
set_option maxRecDepth 20000 in
theorem gX2_build_X1_init : GoodIn wsX2_build (wsX1_init) := ggX2_build_X1_init
set_option maxRecDepth 20000 in
theorem ggX2_build_Jx4a65c_add_9ea2d : GoodIn wsX2_build wsJx4a65c_add_9ea2d := goodIn_r _ [45, 46, 47, 48, 29, 49, 50, 51, 27, 52, 53, 54, 55, 56, 57, 58, 59, 60, 61, 62, 63, 64, 65, 66, 67, 68, 69, 70, 71, 72, 73, 74, 75, 76, 77, 78, 79, 80, 81, 82, 83, 84, 85, 86, 87, 88, 89, 90, 91, 92, 93, 94, 95, 108, 109, 110] (by decide +kernel) (by decide +kernel)
set_option maxRecDepth 20000 in
theorem gX2_build_Jx4a65c_add_9ea2d : GoodIn wsX2_build (wsV RX2 56 RJx4a65c yJx4a65c_add_9ea2d wsJx4a65c_add_9ea2d) := goodIn_app (goodIn_of _ (by decide +kernel)) ggX2_build_Jx4a65c_add_9ea2d
theorem dX2_build_0 : decode cX2_build 0 = .ok (.iload_n 1, 1) := by decide +kernel
theorem dX2_build_1 : decode cX2_build 1 = .ok (.invokestatic 25, 3) := by decide +kernel
theorem dX2_build_4 : decode cX2_build 4 = .ok (.iload_n 2, 1) := by decide +kernel
theorem dX2_build_5 : decode cX2_build 5 = .ok (.iconst 1, 1) := by decide +kernel
theorem dX2_build_6 : decode cX2_build 6 = .ok (.bipush 15, 2) := by decide +kernel
theorem dX2_build_8 : decode cX2_build 8 = .ok (.invokestatic 68, 3) := by decide +kernel
theorem dX2_build_11 : decode cX2_build 11 = .ok (.ifCond .eq 13, 3) := by decide +kernel
theorem dX2_build_14 : decode cX2_build 14 = .ok (.iload_n 3, 1) := by decide +kernel
theorem dX2_build_15 : decode cX2_build 15 = .ok (.iconst 1, 1) := by decide +kernel
theorem dX2_build_16 : decode cX2_build 16 = .ok (.bipush 6, 2) := by decide +kernel
theorem dX2_build_18 : decode cX2_build 18 = .ok (.invokestatic 68, 3) := by decide +kernel
theorem dX2_build_21 : decode cX2_build 21 = .ok (.ifCond .ne 13, 3) := by decide +kernel
theorem dX2_build_24 : decode cX2_build 24 = .ok (.new 71, 3) := by decide +kernel
theorem dX2_build_27 : decode cX2_build 27 = .ok (.dup, 1) := by decide +kernel
theorem dX2_build_28 : decode cX2_build 28 = .ok (.ldc 73, 2) := by decide +kernel
theorem dX2_build_30 : decode cX2_build 30 = .ok (.invokespecial 75, 3) := by decide +kernel
theorem dX2_build_33 : decode cX2_build 33 = .ok (.athrow, 1) := by decide +kernel
theorem dX2_build_34 : decode cX2_build 34 = .ok (.iload 4, 2) := by decide +kernel
theorem dX2_build_36 : decode cX2_build 36 = .ok (.invokestatic 76, 3) := by decide +kernel
theorem dX2_build_39 : decode cX2_build 39 = .ok (.aload_n 0, 1) := by decide +kernel
theorem dX2_build_40 : decode cX2_build 40 = .ok (.getfield 22, 3) := by decide +kernel
theorem dX2_build_43 : decode cX2_build 43 = .ok (.invokevirtual 32, 3) := by decide +kernel
theorem dX2_build_46 : decode cX2_build 46 = .ok (.iconst 5, 1) := by decide +kernel
theorem dX2_build_47 : decode cX2_build 47 = .ok (.if_icmp .lt 13, 3) := by decide +kernel
theorem dX2_build_50 : decode cX2_build 50 = .ok (.new 40, 3) := by decide +kernel
theorem dX2_build_53 : decode cX2_build 53 = .ok (.dup, 1) := by decide +kernel
theorem dX2_build_54 : decode cX2_build 54 = .ok (.ldc 79, 2) := by decide +kernel
theorem dX2_build_56 : decode cX2_build 56 = .ok (.invokespecial 44, 3) := by decide +kernel
theorem dX2_build_59 : decode cX2_build 59 = .ok (.athrow, 1) := by decide +kernel
theorem dX2_build_60 : decode cX2_build 60 = .ok (.aload_n 0, 1) := by decide +kernel
theorem dX2_build_61 : decode cX2_build 61 = .ok (.getfield 22, 3) := by decide +kernel
theorem dX2_build_64 : decode cX2_build 64 = .ok (.new 81, 3) := by decide +kernel
theorem dX2_build_67 : decode cX2_build 67 = .ok (.dup, 1) := by decide +kernel
theorem dX2_build_68 : decode cX2_build 68 = .ok (.iload_n 1, 1) := by decide +kernel
theorem dX2_build_69 : decode cX2_build 69 = .ok (.iload_n 2, 1) := by decide +kernel
theorem dX2_build_70 : decode cX2_build 70 = .ok (.iload_n 3, 1) := by decide +kernel
theorem dX2_build_71 : decode cX2_build 71 = .ok (.iload 4, 2) := by decide +kernel
theorem dX2_build_73 : decode cX2_build 73 = .ok (.invokespecial 83, 3) := by decide +kernel
theorem dX2_build_76 : decode cX2_build 76 = .ok (.invokevirtual 56, 3) := by decide +kernel
theorem dX2_build_79 : decode cX2_build 79 = .ok (.pop, 1) := by decide +kernel
theorem dX2_build_80 : decode cX2_build 80 = .ok (.aload_n 0, 1) := by decide +kernel
theorem dX2_build_81 : decode cX2_build 81 = .ok (.getfield 22, 3) := by decide +kernel
theorem dX2_build_84 : decode cX2_build 84 = .ok (.invokevirtual 32, 3) := by decide +kernel
theorem dX2_build_87 : decode cX2_build 87 = .ok (.iconst 1, 1) := by decide +kernel
theorem dX2_build_88 : decode cX2_build 88 = .ok (.isub, 1) := by decide +kernel
theorem dX2_build_89 : decode cX2_build 89 = .ok (.ireturn, 1) := by decide +kernel
set_option maxRecDepth 20000 in
theorem ggX2_man_X2_requireCrane : GoodIn wsX2_man wsX2_requireCrane := goodIn_ca (goodIn_r _ [8, 9, 10, 1, 11, 12, 13, 14, 15, 16, 17, 18, 7, 19, 42, 43, 44, 45, 54, 55, 56] (by decide +kernel) (by decide +kernel)) (goodIn_sub (fun _ h => List.mem_cons_of_mem _ (List.mem_append_left _ (List.mem_append_right _ h))) (by decide +kernel))
set_option maxRecDepth 20000 in
theorem gX2_man_X2_requireCrane : GoodIn wsX2_man (wsV RX2 86 RX2 yX2_requireCrane wsX2_requireCrane) := goodIn_app (goodIn_of _ (by decide +kernel)) ggX2_man_X2_requireCrane
set_option maxRecDepth 20000 in
theorem ggX2_man_X2_requireWalkers : GoodIn wsX2_man wsX2_requireWalkers := goodIn_ca (goodIn_r _ [22, 23, 24, 17, 18, 7, 19] (by decide +kernel) (by decide +kernel)) (goodIn_sub (fun _ h => List.mem_cons_of_mem _ (List.mem_append_right _ h)) (by decide +kernel))
set_option maxRecDepth 20000 in
theorem gX2_man_X2_requireWalkers : GoodIn wsX2_man (va_wsS RX2 76 yX2_requireWalkers wsX2_requireWalkers) := goodIn_app (goodIn_of _ (by decide +kernel)) ggX2_man_X2_requireWalkers
set_option maxRecDepth 20000 in
theorem ggX2_man_Jx4a65c_get_915e3 : GoodIn wsX2_man wsJx4a65c_get_915e3 := goodIn_r _ [28, 16, 29, 30, 31, 32, 33, 34, 35, 36, 37, 38, 39, 14, 40, 41, 54, 55, 56] (by decide +kernel) (by decide +kernel)
set_option maxRecDepth 20000 in
theorem gX2_man_Jx4a65c_get_915e3 : GoodIn wsX2_man (wsV RX2 89 RJx4a65c yJx4a65c_get_915e3 wsJx4a65c_get_915e3) := goodIn_app (goodIn_of _ (by decide +kernel)) ggX2_man_Jx4a65c_get_915e3
theorem dX2_man_0 : decode cX2_man 0 = .ok (.aload_n 0, 1) := by decide +kernel
theorem dX2_man_1 : decode cX2_man 1 = .ok (.iload_n 1, 1) := by decide +kernel
theorem dX2_man_2 : decode cX2_man 2 = .ok (.invokevirtual 86, 3) := by decide +kernel
theorem dX2_man_5 : decode cX2_man 5 = .ok (.iload_n 2, 1) := by decide +kernel
theorem dX2_man_6 : decode cX2_man 6 = .ok (.invokestatic 76, 3) := by decide +kernel
theorem dX2_man_9 : decode cX2_man 9 = .ok (.aload_n 0, 1) := by decide +kernel
theorem dX2_man_10 : decode cX2_man 10 = .ok (.getfield 22, 3) := by decide +kernel
theorem dX2_man_13 : decode cX2_man 13 = .ok (.iload_n 1, 1) := by decide +kernel
theorem dX2_man_14 : decode cX2_man 14 = .ok (.invokevirtual 89, 3) := by decide +kernel
theorem dX2_man_17 : decode cX2_man 17 = .ok (.checkcast 81, 3) := by decide +kernel
theorem dX2_man_20 : decode cX2_man 20 = .ok (.astore_n 3, 1) := by decide +kernel
theorem dX2_man_21 : decode cX2_man 21 = .ok (.aload_n 3, 1) := by decide +kernel
theorem dX2_man_22 : decode cX2_man 22 = .ok (.getfield 93, 3) := by decide +kernel
theorem dX2_man_25 : decode cX2_man 25 = .ok (.istore 4, 2) := by decide +kernel
theorem dX2_man_27 : decode cX2_man 27 = .ok (.aload_n 3, 1) := by decide +kernel
theorem dX2_man_28 : decode cX2_man 28 = .ok (.iload_n 2, 1) := by decide +kernel
theorem dX2_man_29 : decode cX2_man 29 = .ok (.putfield 93, 3) := by decide +kernel
theorem dX2_man_32 : decode cX2_man 32 = .ok (.iload 4, 2) := by decide +kernel
theorem dX2_man_34 : decode cX2_man 34 = .ok (.ireturn, 1) := by decide +kernel
set_option maxRecDepth 20000 in
theorem ggX2_mend_X2_requireCrane : GoodIn wsX2_mend wsX2_requireCrane := goodIn_ca (goodIn_r _ [8, 9, 10, 1, 11, 12, 13, 14, 15, 16, 17, 18, 7, 19, 37, 38, 39, 40, 49, 50, 51] (by decide +kernel) (by decide +kernel)) (goodIn_sub (fun _ h => List.mem_cons_of_mem _ (List.mem_append_right _ h)) (by decide +kernel))
set_option maxRecDepth 20000 in
theorem gX2_mend_X2_requireCrane : GoodIn wsX2_mend (wsV RX2 86 RX2 yX2_requireCrane wsX2_requireCrane) := goodIn_app (goodIn_of _ (by decide +kernel)) ggX2_mend_X2_requireCrane
set_option maxRecDepth 20000 in
theorem ggX2_mend_Jx4a65c_get_915e3 : GoodIn wsX2_mend wsJx4a65c_get_915e3 := goodIn_r _ [23, 16, 24, 25, 26, 27, 28, 29, 30, 31, 32, 33, 34, 14, 35, 36, 49, 50, 51] (by decide +kernel) (by decide +kernel)
set_option maxRecDepth 20000 in
theorem gX2_mend_Jx4a65c_get_915e3 : GoodIn wsX2_mend (wsV RX2 89 RJx4a65c yJx4a65c_get_915e3 wsJx4a65c_get_915e3) := goodIn_app (goodIn_of _ (by decide +kernel)) ggX2_mend_Jx4a65c_get_915e3
theorem dX2_mend_0 : decode cX2_mend 0 = .ok (.aload_n 0, 1) := by decide +kernel
theorem dX2_mend_1 : decode cX2_mend 1 = .ok (.iload_n 1, 1) := by decide +kernel
theorem dX2_mend_2 : decode cX2_mend 2 = .ok (.invokevirtual 86, 3) := by decide +kernel
theorem dX2_mend_5 : decode cX2_mend 5 = .ok (.aload_n 0, 1) := by decide +kernel
theorem dX2_mend_6 : decode cX2_mend 6 = .ok (.getfield 22, 3) := by decide +kernel
theorem dX2_mend_9 : decode cX2_mend 9 = .ok (.iload_n 1, 1) := by decide +kernel
theorem dX2_mend_10 : decode cX2_mend 10 = .ok (.invokevirtual 89, 3) := by decide +kernel
theorem dX2_mend_13 : decode cX2_mend 13 = .ok (.checkcast 81, 3) := by decide +kernel
theorem dX2_mend_16 : decode cX2_mend 16 = .ok (.astore_n 2, 1) := by decide +kernel
theorem dX2_mend_17 : decode cX2_mend 17 = .ok (.aload_n 2, 1) := by decide +kernel
theorem dX2_mend_18 : decode cX2_mend 18 = .ok (.getfield 96, 3) := by decide +kernel
theorem dX2_mend_21 : decode cX2_mend 21 = .ok (.istore_n 3, 1) := by decide +kernel
theorem dX2_mend_22 : decode cX2_mend 22 = .ok (.aload_n 2, 1) := by decide +kernel
theorem dX2_mend_23 : decode cX2_mend 23 = .ok (.iconst 0, 1) := by decide +kernel
theorem dX2_mend_24 : decode cX2_mend 24 = .ok (.putfield 96, 3) := by decide +kernel
theorem dX2_mend_27 : decode cX2_mend 27 = .ok (.iload_n 3, 1) := by decide +kernel
theorem dX2_mend_28 : decode cX2_mend 28 = .ok (.ireturn, 1) := by decide +kernel
set_option maxRecDepth 20000 in
theorem ggX2_turn_X2_requireCrane : GoodIn wsX2_turn wsX2_requireCrane := goodIn_ca (goodIn_r _ [12, 13, 14, 3, 15, 16, 17, 18, 19, 20, 21, 22, 11, 23, 86, 87, 88, 89, 98, 99, 100] (by decide +kernel) (by decide +kernel)) (goodIn_sub (fun _ h => List.mem_cons_of_mem _ (List.mem_append_right _ h)) (by decide +kernel))
set_option maxRecDepth 20000 in
theorem gX2_turn_X2_requireCrane : GoodIn wsX2_turn (wsV RX2 86 RX2 yX2_requireCrane wsX2_requireCrane) := goodIn_app (goodIn_of _ (by decide +kernel)) ggX2_turn_X2_requireCrane
set_option maxRecDepth 20000 in
theorem ggX2_turn_X2_requirePlace : GoodIn wsX2_turn wsX2_requirePlace := goodIn_ca (goodIn_r _ [26, 13, 14, 27, 28, 11, 29, 21, 22, 23] (by decide +kernel) (by decide +kernel)) (goodIn_sub (fun _ h => List.mem_cons_of_mem _ (List.mem_append_right _ h)) (by decide +kernel))
set_option maxRecDepth 20000 in
theorem gX2_turn_X2_requirePlace : GoodIn wsX2_turn (va_wsS RX2 25 yX2_requirePlace wsX2_requirePlace) := goodIn_app (goodIn_of _ (by decide +kernel)) ggX2_turn_X2_requirePlace
set_option maxRecDepth 20000 in
theorem ggX2_turn_Jx4a65c_get_915e3 : GoodIn wsX2_turn wsJx4a65c_get_915e3 := goodIn_r _ [33, 20, 34, 35, 36, 37, 38, 39, 40, 41, 42, 43, 44, 18, 45, 46, 98, 99, 100] (by decide +kernel) (by decide +kernel)
set_option maxRecDepth 20000 in
theorem gX2_turn_Jx4a65c_get_915e3 : GoodIn wsX2_turn (wsV RX2 89 RJx4a65c yJx4a65c_get_915e3 wsJx4a65c_get_915e3) := goodIn_app (goodIn_of _ (by decide +kernel)) ggX2_turn_Jx4a65c_get_915e3
set_option maxRecDepth 20000 in
theorem ggX2_turn_X1_reaches : GoodIn wsX2_turn wsX1_reaches := goodIn_r _ [51, 52, 53, 54, 11, 55, 56, 57, 58, 59, 90, 91, 92, 93, 94, 95, 96, 97] (by decide +kernel) (by decide +kernel)
set_option maxRecDepth 20000 in
theorem gX2_turn_X1_reaches : GoodIn wsX2_turn (wsV RX2 99 RX1 yX1_reaches wsX1_reaches) := goodIn_app (goodIn_of _ (by decide +kernel)) ggX2_turn_X1_reaches
set_option maxRecDepth 20000 in
theorem ggX2_turn_X2_highestBetween : GoodIn wsX2_turn wsX2_highestBetween := goodIn_r _ [63, 64, 65, 58, 66, 67, 68, 69, 21, 22, 11, 23, 70, 71, 72, 73, 74, 75, 76, 77, 78, 79, 27, 28, 29, 101, 102, 103, 104, 105, 106, 107, 86, 87, 88, 89] (by decide +kernel) (by decide +kernel)
set_option maxRecDepth 20000 in
theorem gX2_turn_X2_highestBetween : GoodIn wsX2_turn (wsV RX2 111 RX2 yX2_highestBetween wsX2_highestBetween) := goodIn_app (goodIn_of _ (by decide +kernel)) ggX2_turn_X2_highestBetween
set_option maxRecDepth 20000 in
theorem ggX2_turn_X1_lowestHook : GoodIn wsX2_turn wsX1_lowestHook := goodIn_r _ [83, 84, 90, 91, 92, 93, 94, 95, 96, 97] (by decide +kernel) (by decide +kernel)
set_option maxRecDepth 20000 in
theorem gX2_turn_X1_lowestHook : GoodIn wsX2_turn (wsV RX2 115 RX1 yX1_lowestHook wsX1_lowestHook) := goodIn_app (goodIn_of _ (by decide +kernel)) ggX2_turn_X1_lowestHook
set_option maxRecDepth 20000 in
theorem ggX2_turn_X2_distance : GoodIn wsX2_turn wsX2_distance := goodIn_r _ [55, 56, 57, 58, 59] (by decide +kernel) (by decide +kernel)
set_option maxRecDepth 20000 in
theorem gX2_turn_X2_distance : GoodIn wsX2_turn (va_wsS RX2 120 yX2_distance wsX2_distance) := goodIn_app (goodIn_of _ (by decide +kernel)) ggX2_turn_X2_distance
theorem dX2_turn_0 : decode cX2_turn 0 = .ok (.aload_n 0, 1) := by decide +kernel
theorem dX2_turn_1 : decode cX2_turn 1 = .ok (.iload_n 1, 1) := by decide +kernel
theorem dX2_turn_2 : decode cX2_turn 2 = .ok (.invokevirtual 86, 3) := by decide +kernel
theorem dX2_turn_5 : decode cX2_turn 5 = .ok (.iload_n 2, 1) := by decide +kernel
theorem dX2_turn_6 : decode cX2_turn 6 = .ok (.invokestatic 25, 3) := by decide +kernel
theorem dX2_turn_9 : decode cX2_turn 9 = .ok (.aload_n 0, 1) := by decide +kernel
theorem dX2_turn_10 : decode cX2_turn 10 = .ok (.getfield 22, 3) := by decide +kernel
theorem dX2_turn_13 : decode cX2_turn 13 = .ok (.iload_n 1, 1) := by decide +kernel
theorem dX2_turn_14 : decode cX2_turn 14 = .ok (.invokevirtual 89, 3) := by decide +kernel
theorem dX2_turn_17 : decode cX2_turn 17 = .ok (.checkcast 81, 3) := by decide +kernel
theorem dX2_turn_20 : decode cX2_turn 20 = .ok (.astore_n 3, 1) := by decide +kernel
theorem dX2_turn_21 : decode cX2_turn 21 = .ok (.aload_n 3, 1) := by decide +kernel
theorem dX2_turn_22 : decode cX2_turn 22 = .ok (.iload_n 2, 1) := by decide +kernel
theorem dX2_turn_23 : decode cX2_turn 23 = .ok (.invokevirtual 99, 3) := by decide +kernel
theorem dX2_turn_26 : decode cX2_turn 26 = .ok (.ifCond .ne 13, 3) := by decide +kernel
theorem dX2_turn_29 : decode cX2_turn 29 = .ok (.new 40, 3) := by decide +kernel
theorem dX2_turn_32 : decode cX2_turn 32 = .ok (.dup, 1) := by decide +kernel
theorem dX2_turn_33 : decode cX2_turn 33 = .ok (.ldc 103, 2) := by decide +kernel
theorem dX2_turn_35 : decode cX2_turn 35 = .ok (.invokespecial 44, 3) := by decide +kernel
theorem dX2_turn_38 : decode cX2_turn 38 = .ok (.athrow, 1) := by decide +kernel
theorem dX2_turn_39 : decode cX2_turn 39 = .ok (.aload_n 3, 1) := by decide +kernel
theorem dX2_turn_40 : decode cX2_turn 40 = .ok (.getfield 105, 3) := by decide +kernel
theorem dX2_turn_43 : decode cX2_turn 43 = .ok (.aload_n 3, 1) := by decide +kernel
theorem dX2_turn_44 : decode cX2_turn 44 = .ok (.aload_n 0, 1) := by decide +kernel
theorem dX2_turn_45 : decode cX2_turn 45 = .ok (.aload_n 3, 1) := by decide +kernel
theorem dX2_turn_46 : decode cX2_turn 46 = .ok (.getfield 108, 3) := by decide +kernel
theorem dX2_turn_49 : decode cX2_turn 49 = .ok (.iload_n 2, 1) := by decide +kernel
theorem dX2_turn_50 : decode cX2_turn 50 = .ok (.invokevirtual 111, 3) := by decide +kernel
theorem dX2_turn_53 : decode cX2_turn 53 = .ok (.invokevirtual 115, 3) := by decide +kernel
theorem dX2_turn_56 : decode cX2_turn 56 = .ok (.if_icmp .ge 13, 3) := by decide +kernel
theorem dX2_turn_59 : decode cX2_turn 59 = .ok (.new 40, 3) := by decide +kernel
theorem dX2_turn_62 : decode cX2_turn 62 = .ok (.dup, 1) := by decide +kernel
theorem dX2_turn_63 : decode cX2_turn 63 = .ok (.ldc 118, 2) := by decide +kernel
theorem dX2_turn_65 : decode cX2_turn 65 = .ok (.invokespecial 44, 3) := by decide +kernel
theorem dX2_turn_68 : decode cX2_turn 68 = .ok (.athrow, 1) := by decide +kernel
theorem dX2_turn_69 : decode cX2_turn 69 = .ok (.aload_n 3, 1) := by decide +kernel
theorem dX2_turn_70 : decode cX2_turn 70 = .ok (.getfield 108, 3) := by decide +kernel
theorem dX2_turn_73 : decode cX2_turn 73 = .ok (.iload_n 2, 1) := by decide +kernel
theorem dX2_turn_74 : decode cX2_turn 74 = .ok (.invokestatic 120, 3) := by decide +kernel
theorem dX2_turn_77 : decode cX2_turn 77 = .ok (.istore 4, 2) := by decide +kernel
theorem dX2_turn_79 : decode cX2_turn 79 = .ok (.aload_n 3, 1) := by decide +kernel
theorem dX2_turn_80 : decode cX2_turn 80 = .ok (.iload_n 2, 1) := by decide +kernel
theorem dX2_turn_81 : decode cX2_turn 81 = .ok (.putfield 108, 3) := by decide +kernel
theorem dX2_turn_84 : decode cX2_turn 84 = .ok (.aload_n 0, 1) := by decide +kernel
theorem dX2_turn_85 : decode cX2_turn 85 = .ok (.dup, 1) := by decide +kernel
theorem dX2_turn_86 : decode cX2_turn 86 = .ok (.getfield 123, 3) := by decide +kernel
theorem dX2_turn_89 : decode cX2_turn 89 = .ok (.iload 4, 2) := by decide +kernel
theorem dX2_turn_91 : decode cX2_turn 91 = .ok (.iadd, 1) := by decide +kernel
theorem dX2_turn_92 : decode cX2_turn 92 = .ok (.putfield 123, 3) := by decide +kernel
theorem dX2_turn_95 : decode cX2_turn 95 = .ok (.iload 4, 2) := by decide +kernel
theorem dX2_turn_97 : decode cX2_turn 97 = .ok (.ireturn, 1) := by decide +kernel
set_option maxRecDepth 20000 in
theorem ggX2_hoist_X2_requireCrane : GoodIn wsX2_hoist wsX2_requireCrane := goodIn_ca (goodIn_r _ [15, 16, 17, 5, 18, 19, 20, 21, 22, 23, 24, 25, 14, 26, 99, 100, 101, 102, 118, 119, 120] (by decide +kernel) (by decide +kernel)) (goodIn_sub (fun _ h => List.mem_cons_of_mem _ (List.mem_append_right _ h)) (by decide +kernel))
set_option maxRecDepth 20000 in
theorem gX2_hoist_X2_requireCrane : GoodIn wsX2_hoist (wsV RX2 86 RX2 yX2_requireCrane wsX2_requireCrane) := goodIn_app (goodIn_of _ (by decide +kernel)) ggX2_hoist_X2_requireCrane
set_option maxRecDepth 20000 in
theorem ggX2_hoist_X2_isBetween : GoodIn wsX2_hoist wsX2_isBetween := goodIn_r _ [26] (by decide +kernel) (by decide +kernel)
set_option maxRecDepth 20000 in
theorem gX2_hoist_X2_isBetween : GoodIn wsX2_hoist (va_wsS RX2 68 yX2_isBetween wsX2_isBetween) := goodIn_app (goodIn_of _ (by decide +kernel)) ggX2_hoist_X2_isBetween
set_option maxRecDepth 20000 in
theorem ggX2_hoist_Jx4a65c_get_915e3 : GoodIn wsX2_hoist wsJx4a65c_get_915e3 := goodIn_r _ [30, 23, 31, 32, 33, 34, 35, 36, 37, 38, 39, 40, 41, 21, 42, 43, 118, 119, 120] (by decide +kernel) (by decide +kernel)
set_option maxRecDepth 20000 in
theorem gX2_hoist_Jx4a65c_get_915e3 : GoodIn wsX2_hoist (wsV RX2 89 RJx4a65c yJx4a65c_get_915e3 wsJx4a65c_get_915e3) := goodIn_app (goodIn_of _ (by decide +kernel)) ggX2_hoist_Jx4a65c_get_915e3
set_option maxRecDepth 20000 in
theorem ggX2_hoist_X2_heightOf : GoodIn wsX2_hoist wsX2_heightOf := goodIn_r _ [47, 48, 49, 50, 51, 14, 52, 53, 54, 55, 56, 24, 25, 26, 111, 112, 113, 114, 115, 116, 117, 99, 100, 101, 102] (by decide +kernel) (by decide +kernel)
set_option maxRecDepth 20000 in
theorem gX2_hoist_X2_heightOf : GoodIn wsX2_hoist (wsV RX2 36 RX2 yX2_heightOf wsX2_heightOf) := goodIn_app (goodIn_of _ (by decide +kernel)) ggX2_hoist_X2_heightOf
set_option maxRecDepth 20000 in
theorem ggX2_hoist_X1_lowestHook : GoodIn wsX2_hoist wsX1_lowestHook := goodIn_r _ [61, 62, 103, 104, 105, 106, 107, 108, 109, 110] (by decide +kernel) (by decide +kernel)
set_option maxRecDepth 20000 in
theorem gX2_hoist_X1_lowestHook : GoodIn wsX2_hoist (wsV RX2 115 RX1 yX1_lowestHook wsX1_lowestHook) := goodIn_app (goodIn_of _ (by decide +kernel)) ggX2_hoist_X1_lowestHook
set_option maxRecDepth 20000 in
theorem ggX2_hoist_X1_canLift : GoodIn wsX2_hoist wsX1_canLift := goodIn_r _ [66, 67, 68, 69, 60, 70, 71, 72, 103, 104, 105, 106, 107, 108, 109, 110] (by decide +kernel) (by decide +kernel)
set_option maxRecDepth 20000 in
theorem gX2_hoist_X1_canLift : GoodIn wsX2_hoist (wsV RX2 137 RX1 yX1_canLift wsX1_canLift) := goodIn_app (goodIn_of _ (by decide +kernel)) ggX2_hoist_X1_canLift
set_option maxRecDepth 20000 in
theorem ggX2_hoist_X2_lowerHook : GoodIn wsX2_hoist wsX2_lowerHook := goodIn_r _ [76, 9, 8, 10, 77, 78, 79, 80, 81, 60, 82, 71, 83, 84, 85, 86, 87, 88, 14, 89, 90, 91, 92, 93, 94, 103, 104, 105, 106, 107, 108, 109, 110, 111, 112, 113, 114, 115, 116, 117, 99, 100, 101, 102] (by decide +kernel) (by decide +kernel)
set_option maxRecDepth 20000 in
theorem gX2_hoist_X2_lowerHook : GoodIn wsX2_hoist (wsV RX2 142 RX2 yX2_lowerHook wsX2_lowerHook) := goodIn_app (goodIn_of _ (by decide +kernel)) ggX2_hoist_X2_lowerHook
set_option maxRecDepth 20000 in
theorem ggX2_hoist_X2_raiseHook : GoodIn wsX2_hoist wsX2_raiseHook := goodIn_r _ [98, 9, 78, 79, 80, 81, 60, 82, 71, 103, 104, 105, 106, 107, 108, 109, 110, 99, 100, 101, 102] (by decide +kernel) (by decide +kernel)
set_option maxRecDepth 20000 in
theorem gX2_hoist_X2_raiseHook : GoodIn wsX2_hoist (wsV RX2 146 RX2 yX2_raiseHook wsX2_raiseHook) := goodIn_app (goodIn_of _ (by decide +kernel)) ggX2_hoist_X2_raiseHook
theorem dX2_hoist_0 : decode cX2_hoist 0 = .ok (.aload_n 0, 1) := by decide +kernel
theorem dX2_hoist_1 : decode cX2_hoist 1 = .ok (.iload_n 1, 1) := by decide +kernel
theorem dX2_hoist_2 : decode cX2_hoist 2 = .ok (.invokevirtual 86, 3) := by decide +kernel
theorem dX2_hoist_5 : decode cX2_hoist 5 = .ok (.iload_n 2, 1) := by decide +kernel
theorem dX2_hoist_6 : decode cX2_hoist 6 = .ok (.iconst 0, 1) := by decide +kernel
theorem dX2_hoist_7 : decode cX2_hoist 7 = .ok (.bipush 20, 2) := by decide +kernel
theorem dX2_hoist_9 : decode cX2_hoist 9 = .ok (.invokestatic 68, 3) := by decide +kernel
theorem dX2_hoist_12 : decode cX2_hoist 12 = .ok (.ifCond .ne 13, 3) := by decide +kernel
theorem dX2_hoist_15 : decode cX2_hoist 15 = .ok (.new 71, 3) := by decide +kernel
theorem dX2_hoist_18 : decode cX2_hoist 18 = .ok (.dup, 1) := by decide +kernel
theorem dX2_hoist_19 : decode cX2_hoist 19 = .ok (.ldc 126, 2) := by decide +kernel
theorem dX2_hoist_21 : decode cX2_hoist 21 = .ok (.invokespecial 75, 3) := by decide +kernel
theorem dX2_hoist_24 : decode cX2_hoist 24 = .ok (.athrow, 1) := by decide +kernel
theorem dX2_hoist_25 : decode cX2_hoist 25 = .ok (.aload_n 0, 1) := by decide +kernel
theorem dX2_hoist_26 : decode cX2_hoist 26 = .ok (.getfield 22, 3) := by decide +kernel
theorem dX2_hoist_29 : decode cX2_hoist 29 = .ok (.iload_n 1, 1) := by decide +kernel
theorem dX2_hoist_30 : decode cX2_hoist 30 = .ok (.invokevirtual 89, 3) := by decide +kernel
theorem dX2_hoist_33 : decode cX2_hoist 33 = .ok (.checkcast 81, 3) := by decide +kernel
theorem dX2_hoist_36 : decode cX2_hoist 36 = .ok (.astore_n 3, 1) := by decide +kernel
theorem dX2_hoist_37 : decode cX2_hoist 37 = .ok (.iload_n 2, 1) := by decide +kernel
theorem dX2_hoist_38 : decode cX2_hoist 38 = .ok (.aload_n 3, 1) := by decide +kernel
theorem dX2_hoist_39 : decode cX2_hoist 39 = .ok (.aload_n 0, 1) := by decide +kernel
theorem dX2_hoist_40 : decode cX2_hoist 40 = .ok (.aload_n 3, 1) := by decide +kernel
theorem dX2_hoist_41 : decode cX2_hoist 41 = .ok (.getfield 108, 3) := by decide +kernel
theorem dX2_hoist_44 : decode cX2_hoist 44 = .ok (.invokevirtual 36, 3) := by decide +kernel
theorem dX2_hoist_47 : decode cX2_hoist 47 = .ok (.invokevirtual 115, 3) := by decide +kernel
theorem dX2_hoist_50 : decode cX2_hoist 50 = .ok (.if_icmp .ge 13, 3) := by decide +kernel
theorem dX2_hoist_53 : decode cX2_hoist 53 = .ok (.new 40, 3) := by decide +kernel
theorem dX2_hoist_56 : decode cX2_hoist 56 = .ok (.dup, 1) := by decide +kernel
theorem dX2_hoist_57 : decode cX2_hoist 57 = .ok (.ldc 128, 2) := by decide +kernel
theorem dX2_hoist_59 : decode cX2_hoist 59 = .ok (.invokespecial 44, 3) := by decide +kernel
theorem dX2_hoist_62 : decode cX2_hoist 62 = .ok (.athrow, 1) := by decide +kernel
theorem dX2_hoist_63 : decode cX2_hoist 63 = .ok (.aload_n 3, 1) := by decide +kernel
theorem dX2_hoist_64 : decode cX2_hoist 64 = .ok (.getfield 130, 3) := by decide +kernel
theorem dX2_hoist_67 : decode cX2_hoist 67 = .ok (.astore 4, 2) := by decide +kernel
theorem dX2_hoist_69 : decode cX2_hoist 69 = .ok (.iload_n 2, 1) := by decide +kernel
theorem dX2_hoist_70 : decode cX2_hoist 70 = .ok (.aload_n 3, 1) := by decide +kernel
theorem dX2_hoist_71 : decode cX2_hoist 71 = .ok (.getfield 105, 3) := by decide +kernel
theorem dX2_hoist_74 : decode cX2_hoist 74 = .ok (.if_icmp .le 30, 3) := by decide +kernel
theorem dX2_hoist_77 : decode cX2_hoist 77 = .ok (.aload 4, 2) := by decide +kernel
theorem dX2_hoist_79 : decode cX2_hoist 79 = .ok (.ifnull 25, 3) := by decide +kernel
theorem dX2_hoist_82 : decode cX2_hoist 82 = .ok (.aload_n 3, 1) := by decide +kernel
theorem dX2_hoist_83 : decode cX2_hoist 83 = .ok (.aload 4, 2) := by decide +kernel
theorem dX2_hoist_85 : decode cX2_hoist 85 = .ok (.getfield 134, 3) := by decide +kernel
theorem dX2_hoist_88 : decode cX2_hoist 88 = .ok (.invokevirtual 137, 3) := by decide +kernel
theorem dX2_hoist_91 : decode cX2_hoist 91 = .ok (.ifCond .ne 13, 3) := by decide +kernel
theorem dX2_hoist_94 : decode cX2_hoist 94 = .ok (.new 40, 3) := by decide +kernel
theorem dX2_hoist_97 : decode cX2_hoist 97 = .ok (.dup, 1) := by decide +kernel
theorem dX2_hoist_98 : decode cX2_hoist 98 = .ok (.ldc 140, 2) := by decide +kernel
theorem dX2_hoist_100 : decode cX2_hoist 100 = .ok (.invokespecial 44, 3) := by decide +kernel
theorem dX2_hoist_103 : decode cX2_hoist 103 = .ok (.athrow, 1) := by decide +kernel
theorem dX2_hoist_104 : decode cX2_hoist 104 = .ok (.iload_n 2, 1) := by decide +kernel
theorem dX2_hoist_105 : decode cX2_hoist 105 = .ok (.aload_n 3, 1) := by decide +kernel
theorem dX2_hoist_106 : decode cX2_hoist 106 = .ok (.getfield 105, 3) := by decide +kernel
theorem dX2_hoist_109 : decode cX2_hoist 109 = .ok (.if_icmp .ge 12, 3) := by decide +kernel
theorem dX2_hoist_112 : decode cX2_hoist 112 = .ok (.aload_n 0, 1) := by decide +kernel
theorem dX2_hoist_113 : decode cX2_hoist 113 = .ok (.aload_n 3, 1) := by decide +kernel
theorem dX2_hoist_114 : decode cX2_hoist 114 = .ok (.iload_n 2, 1) := by decide +kernel
theorem dX2_hoist_115 : decode cX2_hoist 115 = .ok (.invokevirtual 142, 3) := by decide +kernel
theorem dX2_hoist_118 : decode cX2_hoist 118 = .ok (.goto 9, 3) := by decide +kernel
theorem dX2_hoist_121 : decode cX2_hoist 121 = .ok (.aload_n 0, 1) := by decide +kernel
theorem dX2_hoist_122 : decode cX2_hoist 122 = .ok (.aload_n 3, 1) := by decide +kernel
theorem dX2_hoist_123 : decode cX2_hoist 123 = .ok (.iload_n 2, 1) := by decide +kernel
theorem dX2_hoist_124 : decode cX2_hoist 124 = .ok (.invokevirtual 146, 3) := by decide +kernel
theorem dX2_hoist_127 : decode cX2_hoist 127 = .ok (.ireturn, 1) := by decide +kernel
set_option maxRecDepth 20000 in
theorem ggX2_take_X2_requireCrane : GoodIn wsX2_take wsX2_requireCrane := goodIn_ca (goodIn_r _ [14, 15, 16, 3, 17, 18, 19, 20, 21, 22, 23, 24, 13, 25, 62, 63, 64, 65, 81, 82, 83] (by decide +kernel) (by decide +kernel)) (goodIn_sub (fun _ h => List.mem_cons_of_mem _ (List.mem_append_right _ h)) (by decide +kernel))
set_option maxRecDepth 20000 in
theorem gX2_take_X2_requireCrane : GoodIn wsX2_take (wsV RX2 86 RX2 yX2_requireCrane wsX2_requireCrane) := goodIn_app (goodIn_of _ (by decide +kernel)) ggX2_take_X2_requireCrane
set_option maxRecDepth 20000 in
theorem ggX2_take_Jx4a65c_get_915e3 : GoodIn wsX2_take wsJx4a65c_get_915e3 := goodIn_r _ [29, 22, 30, 31, 32, 33, 34, 35, 36, 37, 38, 39, 40, 20, 41, 42, 81, 82, 83] (by decide +kernel) (by decide +kernel)
set_option maxRecDepth 20000 in
theorem gX2_take_Jx4a65c_get_915e3 : GoodIn wsX2_take (wsV RX2 89 RJx4a65c yJx4a65c_get_915e3 wsJx4a65c_get_915e3) := goodIn_app (goodIn_of _ (by decide +kernel)) ggX2_take_Jx4a65c_get_915e3
set_option maxRecDepth 20000 in
theorem ggX2_take_X2_uppermostAt : GoodIn wsX2_take wsX2_uppermostAt := goodIn_r _ [46, 47, 48, 49, 13, 50, 23, 24, 25, 62, 63, 64, 65] (by decide +kernel) (by decide +kernel)
set_option maxRecDepth 20000 in
theorem gX2_take_X2_uppermostAt : GoodIn wsX2_take (wsV RX2 149 RX2 yX2_uppermostAt wsX2_uppermostAt) := goodIn_app (goodIn_of _ (by decide +kernel)) ggX2_take_X2_uppermostAt
set_option maxRecDepth 20000 in
theorem ggX2_take_X2_heightOf : GoodIn wsX2_take wsX2_heightOf := goodIn_r _ [54, 55, 43, 44, 45, 13, 46, 47, 48, 49, 50, 23, 24, 25, 74, 75, 76, 77, 78, 79, 80, 62, 63, 64, 65] (by decide +kernel) (by decide +kernel)
set_option maxRecDepth 20000 in
theorem gX2_take_X2_heightOf : GoodIn wsX2_take (wsV RX2 36 RX2 yX2_heightOf wsX2_heightOf) := goodIn_app (goodIn_of _ (by decide +kernel)) ggX2_take_X2_heightOf
set_option maxRecDepth 20000 in
theorem ggX2_take_X2_removeUppermost : GoodIn wsX2_take wsX2_removeUppermost := goodIn_r _ [59, 47, 60, 61, 43, 44, 45, 13, 46, 48, 49, 50, 23, 24, 25, 62, 63, 64, 65, 74, 75, 76, 77, 78, 79, 80] (by decide +kernel) (by decide +kernel)
set_option maxRecDepth 20000 in
theorem gX2_take_X2_removeUppermost : GoodIn wsX2_take (wsV RX2 155 RX2 yX2_removeUppermost wsX2_removeUppermost) := goodIn_app (goodIn_of _ (by decide +kernel)) ggX2_take_X2_removeUppermost
theorem dX2_take_0 : decode cX2_take 0 = .ok (.aload_n 0, 1) := by decide +kernel
theorem dX2_take_1 : decode cX2_take 1 = .ok (.iload_n 1, 1) := by decide +kernel
theorem dX2_take_2 : decode cX2_take 2 = .ok (.invokevirtual 86, 3) := by decide +kernel
theorem dX2_take_5 : decode cX2_take 5 = .ok (.aload_n 0, 1) := by decide +kernel
theorem dX2_take_6 : decode cX2_take 6 = .ok (.getfield 22, 3) := by decide +kernel
theorem dX2_take_9 : decode cX2_take 9 = .ok (.iload_n 1, 1) := by decide +kernel
theorem dX2_take_10 : decode cX2_take 10 = .ok (.invokevirtual 89, 3) := by decide +kernel
theorem dX2_take_13 : decode cX2_take 13 = .ok (.checkcast 81, 3) := by decide +kernel
theorem dX2_take_16 : decode cX2_take 16 = .ok (.astore_n 2, 1) := by decide +kernel
theorem dX2_take_17 : decode cX2_take 17 = .ok (.aload_n 0, 1) := by decide +kernel
theorem dX2_take_18 : decode cX2_take 18 = .ok (.aload_n 2, 1) := by decide +kernel
theorem dX2_take_19 : decode cX2_take 19 = .ok (.getfield 108, 3) := by decide +kernel
theorem dX2_take_22 : decode cX2_take 22 = .ok (.invokevirtual 149, 3) := by decide +kernel
theorem dX2_take_25 : decode cX2_take 25 = .ok (.astore_n 3, 1) := by decide +kernel
theorem dX2_take_26 : decode cX2_take 26 = .ok (.aload_n 2, 1) := by decide +kernel
theorem dX2_take_27 : decode cX2_take 27 = .ok (.getfield 130, 3) := by decide +kernel
theorem dX2_take_30 : decode cX2_take 30 = .ok (.ifnonnull 22, 3) := by decide +kernel
theorem dX2_take_33 : decode cX2_take 33 = .ok (.aload_n 3, 1) := by decide +kernel
theorem dX2_take_34 : decode cX2_take 34 = .ok (.ifnull 18, 3) := by decide +kernel
theorem dX2_take_37 : decode cX2_take 37 = .ok (.aload_n 2, 1) := by decide +kernel
theorem dX2_take_38 : decode cX2_take 38 = .ok (.getfield 105, 3) := by decide +kernel
theorem dX2_take_41 : decode cX2_take 41 = .ok (.aload_n 0, 1) := by decide +kernel
theorem dX2_take_42 : decode cX2_take 42 = .ok (.aload_n 2, 1) := by decide +kernel
theorem dX2_take_43 : decode cX2_take 43 = .ok (.getfield 108, 3) := by decide +kernel
theorem dX2_take_46 : decode cX2_take 46 = .ok (.invokevirtual 36, 3) := by decide +kernel
theorem dX2_take_49 : decode cX2_take 49 = .ok (.if_icmp .eq 13, 3) := by decide +kernel
theorem dX2_take_52 : decode cX2_take 52 = .ok (.new 40, 3) := by decide +kernel
theorem dX2_take_55 : decode cX2_take 55 = .ok (.dup, 1) := by decide +kernel
theorem dX2_take_56 : decode cX2_take 56 = .ok (.ldc 153, 2) := by decide +kernel
theorem dX2_take_58 : decode cX2_take 58 = .ok (.invokespecial 44, 3) := by decide +kernel
theorem dX2_take_61 : decode cX2_take 61 = .ok (.athrow, 1) := by decide +kernel
theorem dX2_take_62 : decode cX2_take 62 = .ok (.aload_n 0, 1) := by decide +kernel
theorem dX2_take_63 : decode cX2_take 63 = .ok (.aload_n 2, 1) := by decide +kernel
theorem dX2_take_64 : decode cX2_take 64 = .ok (.getfield 108, 3) := by decide +kernel
theorem dX2_take_67 : decode cX2_take 67 = .ok (.invokevirtual 155, 3) := by decide +kernel
theorem dX2_take_70 : decode cX2_take 70 = .ok (.aload_n 3, 1) := by decide +kernel
theorem dX2_take_71 : decode cX2_take 71 = .ok (.iload_n 1, 1) := by decide +kernel
theorem dX2_take_72 : decode cX2_take 72 = .ok (.putfield 158, 3) := by decide +kernel
theorem dX2_take_75 : decode cX2_take 75 = .ok (.aload_n 2, 1) := by decide +kernel
theorem dX2_take_76 : decode cX2_take 76 = .ok (.aload_n 3, 1) := by decide +kernel
theorem dX2_take_77 : decode cX2_take 77 = .ok (.putfield 130, 3) := by decide +kernel
theorem dX2_take_80 : decode cX2_take 80 = .ok (.aload_n 3, 1) := by decide +kernel
theorem dX2_take_81 : decode cX2_take 81 = .ok (.getfield 64, 3) := by decide +kernel
theorem dX2_take_84 : decode cX2_take 84 = .ok (.ireturn, 1) := by decide +kernel
set_option maxRecDepth 20000 in
theorem ggX2_lay_X2_requireCrane : GoodIn wsX2_lay wsX2_requireCrane := goodIn_ca (goodIn_r _ [13, 14, 15, 3, 16, 17, 18, 19, 20, 21, 22, 23, 12, 24, 71, 72, 73, 74, 90, 91, 92] (by decide +kernel) (by decide +kernel)) (goodIn_sub (fun _ h => List.mem_cons_of_mem _ (List.mem_append_right _ h)) (by decide +kernel))
set_option maxRecDepth 20000 in
theorem gX2_lay_X2_requireCrane : GoodIn wsX2_lay (wsV RX2 86 RX2 yX2_requireCrane wsX2_requireCrane) := goodIn_app (goodIn_of _ (by decide +kernel)) ggX2_lay_X2_requireCrane
set_option maxRecDepth 20000 in
theorem ggX2_lay_Jx4a65c_get_915e3 : GoodIn wsX2_lay wsJx4a65c_get_915e3 := goodIn_r _ [28, 21, 29, 30, 31, 32, 33, 34, 35, 36, 37, 38, 39, 19, 40, 41, 90, 91, 92] (by decide +kernel) (by decide +kernel)
set_option maxRecDepth 20000 in
theorem gX2_lay_Jx4a65c_get_915e3 : GoodIn wsX2_lay (wsV RX2 89 RJx4a65c yJx4a65c_get_915e3 wsJx4a65c_get_915e3) := goodIn_app (goodIn_of _ (by decide +kernel)) ggX2_lay_Jx4a65c_get_915e3
set_option maxRecDepth 20000 in
theorem ggX2_lay_X2_heightOf : GoodIn wsX2_lay wsX2_heightOf := goodIn_r _ [45, 46, 47, 48, 49, 12, 50, 51, 52, 53, 54, 22, 23, 24, 83, 84, 85, 86, 87, 88, 89, 71, 72, 73, 74] (by decide +kernel) (by decide +kernel)
set_option maxRecDepth 20000 in
theorem gX2_lay_X2_heightOf : GoodIn wsX2_lay (wsV RX2 36 RX2 yX2_heightOf wsX2_heightOf) := goodIn_app (goodIn_of _ (by decide +kernel)) ggX2_lay_X2_heightOf
set_option maxRecDepth 20000 in
theorem ggX2_lay_X2_hooksAllow : GoodIn wsX2_lay wsX2_hooksAllow := goodIn_r _ [58, 3, 4, 6, 7, 16, 17, 18, 19, 20, 21, 25, 26, 27, 28, 29, 30, 31, 32, 33, 34, 35, 36, 37, 38, 39, 40, 41, 59, 60, 61, 62, 63, 64, 71, 72, 73, 74, 75, 76, 77, 78, 79, 80, 81, 82, 90, 91, 92] (by decide +kernel) (by decide +kernel)
set_option maxRecDepth 20000 in
theorem gX2_lay_X2_hooksAllow : GoodIn wsX2_lay (wsV RX2 47 RX2 yX2_hooksAllow wsX2_hooksAllow) := goodIn_app (goodIn_of _ (by decide +kernel)) ggX2_lay_X2_hooksAllow
set_option maxRecDepth 20000 in
theorem ggX2_lay_X2_putUpon : GoodIn wsX2_lay wsX2_putUpon := goodIn_r _ [68, 69, 46, 51, 70, 52, 53, 12, 54, 22, 23, 24, 42, 43, 44, 45, 47, 48, 49, 50, 83, 84, 85, 86, 87, 88, 89, 71, 72, 73, 74] (by decide +kernel) (by decide +kernel)
set_option maxRecDepth 20000 in
theorem gX2_lay_X2_putUpon : GoodIn wsX2_lay (wsV RX2 60 RX2 yX2_putUpon wsX2_putUpon) := goodIn_app (goodIn_of _ (by decide +kernel)) ggX2_lay_X2_putUpon
theorem dX2_lay_0 : decode cX2_lay 0 = .ok (.aload_n 0, 1) := by decide +kernel
theorem dX2_lay_1 : decode cX2_lay 1 = .ok (.iload_n 1, 1) := by decide +kernel
theorem dX2_lay_2 : decode cX2_lay 2 = .ok (.invokevirtual 86, 3) := by decide +kernel
theorem dX2_lay_5 : decode cX2_lay 5 = .ok (.aload_n 0, 1) := by decide +kernel
theorem dX2_lay_6 : decode cX2_lay 6 = .ok (.getfield 22, 3) := by decide +kernel
theorem dX2_lay_9 : decode cX2_lay 9 = .ok (.iload_n 1, 1) := by decide +kernel
theorem dX2_lay_10 : decode cX2_lay 10 = .ok (.invokevirtual 89, 3) := by decide +kernel
theorem dX2_lay_13 : decode cX2_lay 13 = .ok (.checkcast 81, 3) := by decide +kernel
theorem dX2_lay_16 : decode cX2_lay 16 = .ok (.astore_n 2, 1) := by decide +kernel
theorem dX2_lay_17 : decode cX2_lay 17 = .ok (.aload_n 2, 1) := by decide +kernel
theorem dX2_lay_18 : decode cX2_lay 18 = .ok (.getfield 130, 3) := by decide +kernel
theorem dX2_lay_21 : decode cX2_lay 21 = .ok (.astore_n 3, 1) := by decide +kernel
theorem dX2_lay_22 : decode cX2_lay 22 = .ok (.aload_n 0, 1) := by decide +kernel
theorem dX2_lay_23 : decode cX2_lay 23 = .ok (.aload_n 2, 1) := by decide +kernel
theorem dX2_lay_24 : decode cX2_lay 24 = .ok (.getfield 108, 3) := by decide +kernel
theorem dX2_lay_27 : decode cX2_lay 27 = .ok (.invokevirtual 36, 3) := by decide +kernel
theorem dX2_lay_30 : decode cX2_lay 30 = .ok (.iconst 1, 1) := by decide +kernel
theorem dX2_lay_31 : decode cX2_lay 31 = .ok (.iadd, 1) := by decide +kernel
theorem dX2_lay_32 : decode cX2_lay 32 = .ok (.istore 4, 2) := by decide +kernel
theorem dX2_lay_34 : decode cX2_lay 34 = .ok (.aload_n 3, 1) := by decide +kernel
theorem dX2_lay_35 : decode cX2_lay 35 = .ok (.ifnull 19, 3) := by decide +kernel
theorem dX2_lay_38 : decode cX2_lay 38 = .ok (.aload_n 2, 1) := by decide +kernel
theorem dX2_lay_39 : decode cX2_lay 39 = .ok (.getfield 105, 3) := by decide +kernel
theorem dX2_lay_42 : decode cX2_lay 42 = .ok (.iload 4, 2) := by decide +kernel
theorem dX2_lay_44 : decode cX2_lay 44 = .ok (.if_icmp .ne 10, 3) := by decide +kernel
theorem dX2_lay_47 : decode cX2_lay 47 = .ok (.iload 4, 2) := by decide +kernel
theorem dX2_lay_49 : decode cX2_lay 49 = .ok (.bipush 8, 2) := by decide +kernel
theorem dX2_lay_51 : decode cX2_lay 51 = .ok (.if_icmp .le 13, 3) := by decide +kernel
theorem dX2_lay_54 : decode cX2_lay 54 = .ok (.new 40, 3) := by decide +kernel
theorem dX2_lay_57 : decode cX2_lay 57 = .ok (.dup, 1) := by decide +kernel
theorem dX2_lay_58 : decode cX2_lay 58 = .ok (.ldc 161, 2) := by decide +kernel
theorem dX2_lay_60 : decode cX2_lay 60 = .ok (.invokespecial 44, 3) := by decide +kernel
theorem dX2_lay_63 : decode cX2_lay 63 = .ok (.athrow, 1) := by decide +kernel
theorem dX2_lay_64 : decode cX2_lay 64 = .ok (.aload_n 0, 1) := by decide +kernel
theorem dX2_lay_65 : decode cX2_lay 65 = .ok (.aload_n 2, 1) := by decide +kernel
theorem dX2_lay_66 : decode cX2_lay 66 = .ok (.getfield 108, 3) := by decide +kernel
theorem dX2_lay_69 : decode cX2_lay 69 = .ok (.iload 4, 2) := by decide +kernel
theorem dX2_lay_71 : decode cX2_lay 71 = .ok (.iload_n 1, 1) := by decide +kernel
theorem dX2_lay_72 : decode cX2_lay 72 = .ok (.invokevirtual 47, 3) := by decide +kernel
theorem dX2_lay_75 : decode cX2_lay 75 = .ok (.ifCond .ne 13, 3) := by decide +kernel
theorem dX2_lay_78 : decode cX2_lay 78 = .ok (.new 40, 3) := by decide +kernel
theorem dX2_lay_81 : decode cX2_lay 81 = .ok (.dup, 1) := by decide +kernel
theorem dX2_lay_82 : decode cX2_lay 82 = .ok (.ldc 163, 2) := by decide +kernel
theorem dX2_lay_84 : decode cX2_lay 84 = .ok (.invokespecial 44, 3) := by decide +kernel
theorem dX2_lay_87 : decode cX2_lay 87 = .ok (.athrow, 1) := by decide +kernel
theorem dX2_lay_88 : decode cX2_lay 88 = .ok (.aload_n 2, 1) := by decide +kernel
theorem dX2_lay_89 : decode cX2_lay 89 = .ok (.aconst_null, 1) := by decide +kernel
theorem dX2_lay_90 : decode cX2_lay 90 = .ok (.putfield 130, 3) := by decide +kernel
theorem dX2_lay_93 : decode cX2_lay 93 = .ok (.aload_n 3, 1) := by decide +kernel
theorem dX2_lay_94 : decode cX2_lay 94 = .ok (.iconst (-1), 1) := by decide +kernel
theorem dX2_lay_95 : decode cX2_lay 95 = .ok (.putfield 158, 3) := by decide +kernel
theorem dX2_lay_98 : decode cX2_lay 98 = .ok (.aload_n 0, 1) := by decide +kernel
theorem dX2_lay_99 : decode cX2_lay 99 = .ok (.aload_n 2, 1) := by decide +kernel
theorem dX2_lay_100 : decode cX2_lay 100 = .ok (.getfield 108, 3) := by decide +kernel
theorem dX2_lay_103 : decode cX2_lay 103 = .ok (.aload_n 3, 1) := by decide +kernel
theorem dX2_lay_104 : decode cX2_lay 104 = .ok (.invokevirtual 60, 3) := by decide +kernel
theorem dX2_lay_107 : decode cX2_lay 107 = .ok (.iload 4, 2) := by decide +kernel
theorem dX2_lay_109 : decode cX2_lay 109 = .ok (.ireturn, 1) := by decide +kernel
set_option maxRecDepth 20000 in
theorem ggX2_place_X2_requirePlace : GoodIn wsX2_place wsX2_requirePlace := goodIn_ca (goodIn_r _ [4, 5, 6, 7, 8, 3, 9, 10, 11, 12] (by decide +kernel) (by decide +kernel)) (goodIn_sub (fun _ h => List.mem_cons_of_mem _ (List.mem_append_right _ h)) (by decide +kernel))
set_option maxRecDepth 20000 in
theorem gX2_place_X2_requirePlace : GoodIn wsX2_place (va_wsS RX2 25 yX2_requirePlace wsX2_requirePlace) := goodIn_app (goodIn_of _ (by decide +kernel)) ggX2_place_X2_requirePlace
set_option maxRecDepth 20000 in
theorem ggX2_place_X2_requireAnswer : GoodIn wsX2_place wsX2_requireAnswer := goodIn_ca (goodIn_r _ [15, 5, 6, 10, 11, 3, 12] (by decide +kernel) (by decide +kernel)) (goodIn_sub (fun _ h => List.mem_cons_of_mem _ (List.mem_append_right _ h)) (by decide +kernel))
set_option maxRecDepth 20000 in
theorem gX2_place_X2_requireAnswer : GoodIn wsX2_place (va_wsS RX2 165 yX2_requireAnswer wsX2_requireAnswer) := goodIn_app (goodIn_of _ (by decide +kernel)) ggX2_place_X2_requireAnswer
set_option maxRecDepth 20000 in
theorem ggX2_place_X2_placeAnswer : GoodIn wsX2_place wsX2_placeAnswer := goodIn_r _ [19, 20, 21, 22, 3, 23, 24, 25, 26, 27, 28, 29, 7, 8, 9, 10, 11, 12, 30, 31, 32, 33, 34, 35, 36, 37, 38, 39, 40, 41, 42, 43, 44, 45, 46, 47, 48, 49, 50, 51, 52, 53, 54, 55, 56, 57, 58, 59, 60, 61, 62, 63, 64, 65, 66, 67, 68, 69, 70, 71, 72, 73, 74, 75, 76, 77, 78, 79, 80, 81, 82, 83, 84, 85, 86, 87, 88, 89, 90, 91] (by decide +kernel) (by decide +kernel)
set_option maxRecDepth 20000 in
theorem gX2_place_X2_placeAnswer : GoodIn wsX2_place (wsV RX2 168 RX2 yX2_placeAnswer wsX2_placeAnswer) := goodIn_app (goodIn_of _ (by decide +kernel)) ggX2_place_X2_placeAnswer
theorem dX2_place_0 : decode cX2_place 0 = .ok (.iload_n 1, 1) := by decide +kernel
theorem dX2_place_1 : decode cX2_place 1 = .ok (.invokestatic 25, 3) := by decide +kernel
theorem dX2_place_4 : decode cX2_place 4 = .ok (.iload_n 2, 1) := by decide +kernel
theorem dX2_place_5 : decode cX2_place 5 = .ok (.iconst 4, 1) := by decide +kernel
theorem dX2_place_6 : decode cX2_place 6 = .ok (.invokestatic 165, 3) := by decide +kernel
theorem dX2_place_9 : decode cX2_place 9 = .ok (.aload_n 0, 1) := by decide +kernel
theorem dX2_place_10 : decode cX2_place 10 = .ok (.iload_n 1, 1) := by decide +kernel
theorem dX2_place_11 : decode cX2_place 11 = .ok (.iload_n 2, 1) := by decide +kernel
theorem dX2_place_12 : decode cX2_place 12 = .ok (.invokevirtual 168, 3) := by decide +kernel
theorem dX2_place_15 : decode cX2_place 15 = .ok (.ireturn, 1) := by decide +kernel
set_option maxRecDepth 20000 in
theorem ggX2_barrel_Jx4a65c_size_8abf5 : GoodIn wsX2_barrel wsJx4a65c_size_8abf5 := goodIn_r _ [9, 10, 60, 61, 62] (by decide +kernel) (by decide +kernel)
set_option maxRecDepth 20000 in
theorem gX2_barrel_Jx4a65c_size_8abf5 : GoodIn wsX2_barrel (wsV RX2 32 RJx4a65c yJx4a65c_size_8abf5 wsJx4a65c_size_8abf5) := goodIn_app (goodIn_of _ (by decide +kernel)) ggX2_barrel_Jx4a65c_size_8abf5
set_option maxRecDepth 20000 in
theorem ggX2_barrel_X2_isBetween : GoodIn wsX2_barrel wsX2_isBetween := goodIn_r _ [14] (by decide +kernel) (by decide +kernel)
set_option maxRecDepth 20000 in
theorem gX2_barrel_X2_isBetween : GoodIn wsX2_barrel (va_wsS RX2 68 yX2_isBetween wsX2_isBetween) := goodIn_app (goodIn_of _ (by decide +kernel)) ggX2_barrel_X2_isBetween
set_option maxRecDepth 20000 in
theorem ggX2_barrel_X2_requireAnswer : GoodIn wsX2_barrel wsX2_requireAnswer := goodIn_ca (goodIn_r _ [17, 1, 2, 11, 12, 13, 14] (by decide +kernel) (by decide +kernel)) (goodIn_sub (fun _ h => List.mem_cons_of_mem _ (List.mem_append_right _ h)) (by decide +kernel))
set_option maxRecDepth 20000 in
theorem gX2_barrel_X2_requireAnswer : GoodIn wsX2_barrel (va_wsS RX2 165 yX2_requireAnswer wsX2_requireAnswer) := goodIn_app (goodIn_of _ (by decide +kernel)) ggX2_barrel_X2_requireAnswer
set_option maxRecDepth 20000 in
theorem ggX2_barrel_Jx4a65c_get_915e3 : GoodIn wsX2_barrel wsJx4a65c_get_915e3 := goodIn_r _ [21, 10, 22, 23, 24, 25, 26, 27, 28, 29, 30, 31, 32, 8, 33, 34, 60, 61, 62] (by decide +kernel) (by decide +kernel)
set_option maxRecDepth 20000 in
theorem gX2_barrel_Jx4a65c_get_915e3 : GoodIn wsX2_barrel (wsV RX2 89 RJx4a65c yJx4a65c_get_915e3 wsJx4a65c_get_915e3) := goodIn_app (goodIn_of _ (by decide +kernel)) ggX2_barrel_Jx4a65c_get_915e3
set_option maxRecDepth 20000 in
theorem ggX2_barrel_X2_barrelAnswer : GoodIn wsX2_barrel wsX2_barrelAnswer := goodIn_r _ [38, 39, 40, 41, 42, 43, 44, 45, 46, 13, 47, 48, 49, 50, 51, 52, 53, 54, 55, 11, 12, 14, 63, 64, 65, 66, 67, 68, 69, 56, 57, 58, 59] (by decide +kernel) (by decide +kernel)
set_option maxRecDepth 20000 in
theorem gX2_barrel_X2_barrelAnswer : GoodIn wsX2_barrel (wsV RX2 176 RX2 yX2_barrelAnswer wsX2_barrelAnswer) := goodIn_app (goodIn_of _ (by decide +kernel)) ggX2_barrel_X2_barrelAnswer
theorem dX2_barrel_0 : decode cX2_barrel 0 = .ok (.iload_n 1, 1) := by decide +kernel
theorem dX2_barrel_1 : decode cX2_barrel 1 = .ok (.iconst 0, 1) := by decide +kernel
theorem dX2_barrel_2 : decode cX2_barrel 2 = .ok (.aload_n 0, 1) := by decide +kernel
theorem dX2_barrel_3 : decode cX2_barrel 3 = .ok (.getfield 18, 3) := by decide +kernel
theorem dX2_barrel_6 : decode cX2_barrel 6 = .ok (.invokevirtual 32, 3) := by decide +kernel
theorem dX2_barrel_9 : decode cX2_barrel 9 = .ok (.iconst 1, 1) := by decide +kernel
theorem dX2_barrel_10 : decode cX2_barrel 10 = .ok (.isub, 1) := by decide +kernel
theorem dX2_barrel_11 : decode cX2_barrel 11 = .ok (.invokestatic 68, 3) := by decide +kernel
theorem dX2_barrel_14 : decode cX2_barrel 14 = .ok (.ifCond .ne 13, 3) := by decide +kernel
theorem dX2_barrel_17 : decode cX2_barrel 17 = .ok (.new 171, 3) := by decide +kernel
theorem dX2_barrel_20 : decode cX2_barrel 20 = .ok (.dup, 1) := by decide +kernel
theorem dX2_barrel_21 : decode cX2_barrel 21 = .ok (.ldc 173, 2) := by decide +kernel
theorem dX2_barrel_23 : decode cX2_barrel 23 = .ok (.invokespecial 175, 3) := by decide +kernel
theorem dX2_barrel_26 : decode cX2_barrel 26 = .ok (.athrow, 1) := by decide +kernel
theorem dX2_barrel_27 : decode cX2_barrel 27 = .ok (.iload_n 2, 1) := by decide +kernel
theorem dX2_barrel_28 : decode cX2_barrel 28 = .ok (.iconst 5, 1) := by decide +kernel
theorem dX2_barrel_29 : decode cX2_barrel 29 = .ok (.invokestatic 165, 3) := by decide +kernel
theorem dX2_barrel_32 : decode cX2_barrel 32 = .ok (.aload_n 0, 1) := by decide +kernel
theorem dX2_barrel_33 : decode cX2_barrel 33 = .ok (.aload_n 0, 1) := by decide +kernel
theorem dX2_barrel_34 : decode cX2_barrel 34 = .ok (.getfield 18, 3) := by decide +kernel
theorem dX2_barrel_37 : decode cX2_barrel 37 = .ok (.iload_n 1, 1) := by decide +kernel
theorem dX2_barrel_38 : decode cX2_barrel 38 = .ok (.invokevirtual 89, 3) := by decide +kernel
theorem dX2_barrel_41 : decode cX2_barrel 41 = .ok (.checkcast 9, 3) := by decide +kernel
theorem dX2_barrel_44 : decode cX2_barrel 44 = .ok (.iload_n 2, 1) := by decide +kernel
theorem dX2_barrel_45 : decode cX2_barrel 45 = .ok (.invokevirtual 176, 3) := by decide +kernel
theorem dX2_barrel_48 : decode cX2_barrel 48 = .ok (.ireturn, 1) := by decide +kernel
set_option maxRecDepth 20000 in
theorem ggX2_crane_X2_requireCrane : GoodIn wsX2_crane wsX2_requireCrane := goodIn_ca (goodIn_r _ [7, 8, 9, 1, 10, 11, 12, 13, 14, 15, 16, 17, 6, 18, 61, 62, 63, 64, 65, 66, 67] (by decide +kernel) (by decide +kernel)) (goodIn_sub (fun _ h => List.mem_cons_of_mem _ (List.mem_append_right _ h)) (by decide +kernel))
set_option maxRecDepth 20000 in
theorem gX2_crane_X2_requireCrane : GoodIn wsX2_crane (wsV RX2 86 RX2 yX2_requireCrane wsX2_requireCrane) := goodIn_app (goodIn_of _ (by decide +kernel)) ggX2_crane_X2_requireCrane
set_option maxRecDepth 20000 in
theorem ggX2_crane_X2_requireAnswer : GoodIn wsX2_crane wsX2_requireAnswer := goodIn_ca (goodIn_r _ [21, 8, 9, 16, 17, 6, 18] (by decide +kernel) (by decide +kernel)) (goodIn_sub (fun _ h => List.mem_cons_of_mem _ (List.mem_append_right _ h)) (by decide +kernel))
set_option maxRecDepth 20000 in
theorem gX2_crane_X2_requireAnswer : GoodIn wsX2_crane (va_wsS RX2 165 yX2_requireAnswer wsX2_requireAnswer) := goodIn_app (goodIn_of _ (by decide +kernel)) ggX2_crane_X2_requireAnswer
set_option maxRecDepth 20000 in
theorem ggX2_crane_Jx4a65c_get_915e3 : GoodIn wsX2_crane wsJx4a65c_get_915e3 := goodIn_r _ [25, 15, 26, 27, 28, 29, 30, 31, 32, 33, 34, 35, 36, 13, 37, 38, 65, 66, 67] (by decide +kernel) (by decide +kernel)
set_option maxRecDepth 20000 in
theorem gX2_crane_Jx4a65c_get_915e3 : GoodIn wsX2_crane (wsV RX2 89 RJx4a65c yJx4a65c_get_915e3 wsJx4a65c_get_915e3) := goodIn_app (goodIn_of _ (by decide +kernel)) ggX2_crane_Jx4a65c_get_915e3
set_option maxRecDepth 20000 in
theorem ggX2_crane_X2_craneAnswer : GoodIn wsX2_crane wsX2_craneAnswer := goodIn_r _ [41, 42, 43, 44, 45, 46, 47, 48, 49, 50, 51, 6, 52, 53, 54, 55, 56, 57, 58, 59, 60, 68, 69, 70, 71, 72, 73, 74, 75, 76, 77, 78, 79, 80, 81, 82] (by decide +kernel) (by decide +kernel)
set_option maxRecDepth 20000 in
theorem gX2_crane_X2_craneAnswer : GoodIn wsX2_crane (va_wsS RX2 180 yX2_craneAnswer wsX2_craneAnswer) := goodIn_app (goodIn_of _ (by decide +kernel)) ggX2_crane_X2_craneAnswer
theorem dX2_crane_0 : decode cX2_crane 0 = .ok (.aload_n 0, 1) := by decide +kernel
theorem dX2_crane_1 : decode cX2_crane 1 = .ok (.iload_n 1, 1) := by decide +kernel
theorem dX2_crane_2 : decode cX2_crane 2 = .ok (.invokevirtual 86, 3) := by decide +kernel
theorem dX2_crane_5 : decode cX2_crane 5 = .ok (.iload_n 2, 1) := by decide +kernel
theorem dX2_crane_6 : decode cX2_crane 6 = .ok (.bipush 9, 2) := by decide +kernel
theorem dX2_crane_8 : decode cX2_crane 8 = .ok (.invokestatic 165, 3) := by decide +kernel
theorem dX2_crane_11 : decode cX2_crane 11 = .ok (.aload_n 0, 1) := by decide +kernel
theorem dX2_crane_12 : decode cX2_crane 12 = .ok (.getfield 22, 3) := by decide +kernel
theorem dX2_crane_15 : decode cX2_crane 15 = .ok (.iload_n 1, 1) := by decide +kernel
theorem dX2_crane_16 : decode cX2_crane 16 = .ok (.invokevirtual 89, 3) := by decide +kernel
theorem dX2_crane_19 : decode cX2_crane 19 = .ok (.checkcast 81, 3) := by decide +kernel
theorem dX2_crane_22 : decode cX2_crane 22 = .ok (.iload_n 2, 1) := by decide +kernel
theorem dX2_crane_23 : decode cX2_crane 23 = .ok (.invokestatic 180, 3) := by decide +kernel
theorem dX2_crane_26 : decode cX2_crane 26 = .ok (.ireturn, 1) := by decide +kernel
set_option maxRecDepth 20000 in
theorem ggX2_count_X2_requireAnswer : GoodIn wsX2_count wsX2_requireAnswer := goodIn_ca (goodIn_r _ [4, 5, 6, 7, 8, 3, 9] (by decide +kernel) (by decide +kernel)) (goodIn_sub (fun _ h => List.mem_cons_of_mem _ (List.mem_append_right _ h)) (by decide +kernel))
set_option maxRecDepth 20000 in
theorem gX2_count_X2_requireAnswer : GoodIn wsX2_count (va_wsS RX2 165 yX2_requireAnswer wsX2_requireAnswer) := goodIn_app (goodIn_of _ (by decide +kernel)) ggX2_count_X2_requireAnswer
set_option maxRecDepth 20000 in
theorem ggX2_count_X2_countAnswer : GoodIn wsX2_count wsX2_countAnswer := goodIn_r _ [13, 14, 15, 16, 17, 18, 19, 20, 21, 22, 23, 24, 25, 3, 26, 27, 28, 29, 30, 31, 32, 33, 34, 35, 36, 37, 38, 39, 7, 8, 9, 40, 41, 42, 43, 44, 45, 46, 47, 48, 49, 50, 51, 52, 53, 54, 55, 56, 57, 58, 59, 60, 61, 62, 63, 64, 65, 66, 67, 68, 69, 70, 71, 72, 73, 74, 75, 76, 77, 78, 79, 80, 81, 82, 83, 84, 85, 86, 87, 88, 89, 90, 91, 92, 93, 94, 95] (by decide +kernel) (by decide +kernel)
set_option maxRecDepth 20000 in
theorem gX2_count_X2_countAnswer : GoodIn wsX2_count (wsV RX2 183 RX2 yX2_countAnswer wsX2_countAnswer) := goodIn_app (goodIn_of _ (by decide +kernel)) ggX2_count_X2_countAnswer
theorem dX2_count_0 : decode cX2_count 0 = .ok (.iload_n 1, 1) := by decide +kernel
theorem dX2_count_1 : decode cX2_count 1 = .ok (.bipush 7, 2) := by decide +kernel
theorem dX2_count_3 : decode cX2_count 3 = .ok (.invokestatic 165, 3) := by decide +kernel
theorem dX2_count_6 : decode cX2_count 6 = .ok (.aload_n 0, 1) := by decide +kernel
theorem dX2_count_7 : decode cX2_count 7 = .ok (.iload_n 1, 1) := by decide +kernel
theorem dX2_count_8 : decode cX2_count 8 = .ok (.invokevirtual 183, 3) := by decide +kernel
theorem dX2_count_11 : decode cX2_count 11 = .ok (.ireturn, 1) := by decide +kernel
set_option maxRecDepth 20000 in
theorem ggX2_move_X2_requireCrane : GoodIn wsX2_move wsX2_requireCrane := goodIn_ca (goodIn_r _ [7, 8, 9, 1, 10, 11, 12, 13, 14, 15, 16, 17, 6, 18, 109, 110, 111, 112, 113, 114, 115] (by decide +kernel) (by decide +kernel)) (goodIn_sub (fun _ h => List.mem_cons_of_mem _ (List.mem_append_right _ h)) (by decide +kernel))
set_option maxRecDepth 20000 in
theorem gX2_move_X2_requireCrane : GoodIn wsX2_move (wsV RX2 86 RX2 yX2_requireCrane wsX2_requireCrane) := goodIn_app (goodIn_of _ (by decide +kernel)) ggX2_move_X2_requireCrane
set_option maxRecDepth 20000 in
theorem ggX2_move_X2_requirePlace : GoodIn wsX2_move wsX2_requirePlace := goodIn_ca (goodIn_r _ [21, 8, 9, 22, 23, 6, 24, 16, 17, 18] (by decide +kernel) (by decide +kernel)) (goodIn_sub (fun _ h => List.mem_cons_of_mem _ (List.mem_append_right _ h)) (by decide +kernel))
set_option maxRecDepth 20000 in
theorem gX2_move_X2_requirePlace : GoodIn wsX2_move (va_wsS RX2 25 yX2_requirePlace wsX2_requirePlace) := goodIn_app (goodIn_of _ (by decide +kernel)) ggX2_move_X2_requirePlace
set_option maxRecDepth 20000 in
theorem ggX2_move_Jx4a65c_get_915e3 : GoodIn wsX2_move wsJx4a65c_get_915e3 := goodIn_r _ [28, 15, 29, 30, 31, 32, 33, 34, 35, 36, 37, 38, 39, 13, 40, 41, 113, 114, 115] (by decide +kernel) (by decide +kernel)
set_option maxRecDepth 20000 in
theorem gX2_move_Jx4a65c_get_915e3 : GoodIn wsX2_move (wsV RX2 89 RJx4a65c yJx4a65c_get_915e3 wsJx4a65c_get_915e3) := goodIn_app (goodIn_of _ (by decide +kernel)) ggX2_move_Jx4a65c_get_915e3
set_option maxRecDepth 20000 in
theorem ggX2_move_X2_ticksToMove : GoodIn wsX2_move wsX2_ticksToMove := goodIn_r _ [45, 46, 47, 48, 49, 50, 51, 52, 53, 54, 55, 6, 56, 57, 22, 23, 24, 16, 17, 18, 58, 59, 60, 61, 62, 63, 64, 65, 66, 67, 68, 69, 70, 71, 72, 73, 74, 75, 76, 77, 78, 79, 80, 81, 82, 83, 84, 85, 86, 87, 88, 89, 90, 91, 92, 93, 94, 95, 96, 97, 98, 99, 100, 101, 102, 103, 104, 105, 106, 107, 108, 116, 117, 118, 119, 120, 121, 122, 123, 124, 125, 126, 127, 128, 129, 130, 109, 110, 111, 112] (by decide +kernel) (by decide +kernel)
set_option maxRecDepth 20000 in
theorem gX2_move_X2_ticksToMove : GoodIn wsX2_move (wsV RX2 186 RX2 yX2_ticksToMove wsX2_ticksToMove) := goodIn_app (goodIn_of _ (by decide +kernel)) ggX2_move_X2_ticksToMove
theorem dX2_move_0 : decode cX2_move 0 = .ok (.aload_n 0, 1) := by decide +kernel
theorem dX2_move_1 : decode cX2_move 1 = .ok (.iload_n 1, 1) := by decide +kernel
theorem dX2_move_2 : decode cX2_move 2 = .ok (.invokevirtual 86, 3) := by decide +kernel
theorem dX2_move_5 : decode cX2_move 5 = .ok (.iload_n 2, 1) := by decide +kernel
theorem dX2_move_6 : decode cX2_move 6 = .ok (.invokestatic 25, 3) := by decide +kernel
theorem dX2_move_9 : decode cX2_move 9 = .ok (.iload_n 3, 1) := by decide +kernel
theorem dX2_move_10 : decode cX2_move 10 = .ok (.invokestatic 25, 3) := by decide +kernel
theorem dX2_move_13 : decode cX2_move 13 = .ok (.aload_n 0, 1) := by decide +kernel
theorem dX2_move_14 : decode cX2_move 14 = .ok (.aload_n 0, 1) := by decide +kernel
theorem dX2_move_15 : decode cX2_move 15 = .ok (.getfield 22, 3) := by decide +kernel
theorem dX2_move_18 : decode cX2_move 18 = .ok (.iload_n 1, 1) := by decide +kernel
theorem dX2_move_19 : decode cX2_move 19 = .ok (.invokevirtual 89, 3) := by decide +kernel
theorem dX2_move_22 : decode cX2_move 22 = .ok (.checkcast 81, 3) := by decide +kernel
theorem dX2_move_25 : decode cX2_move 25 = .ok (.iload_n 2, 1) := by decide +kernel
theorem dX2_move_26 : decode cX2_move 26 = .ok (.iload_n 3, 1) := by decide +kernel
theorem dX2_move_27 : decode cX2_move 27 = .ok (.invokevirtual 186, 3) := by decide +kernel
theorem dX2_move_30 : decode cX2_move 30 = .ok (.ireturn, 1) := by decide +kernel
set_option maxRecDepth 20000 in
theorem ggX2_best_X2_requirePlace : GoodIn wsX2_best wsX2_requirePlace := goodIn_ca (goodIn_r _ [6, 7, 8, 9, 10, 5, 11, 12, 13, 14] (by decide +kernel) (by decide +kernel)) (goodIn_sub (fun _ h => List.mem_cons_of_mem _ (List.mem_append_right _ h)) (by decide +kernel))
set_option maxRecDepth 20000 in
theorem gX2_best_X2_requirePlace : GoodIn wsX2_best (va_wsS RX2 25 yX2_requirePlace wsX2_requirePlace) := goodIn_app (goodIn_of _ (by decide +kernel)) ggX2_best_X2_requirePlace
set_option maxRecDepth 20000 in
theorem ggX2_best_Jx4a65c_size_8abf5 : GoodIn wsX2_best wsJx4a65c_size_8abf5 := goodIn_r _ [19, 20, 109, 110, 111] (by decide +kernel) (by decide +kernel)
set_option maxRecDepth 20000 in
theorem gX2_best_Jx4a65c_size_8abf5 : GoodIn wsX2_best (wsV RX2 32 RJx4a65c yJx4a65c_size_8abf5 wsJx4a65c_size_8abf5) := goodIn_app (goodIn_of _ (by decide +kernel)) ggX2_best_Jx4a65c_size_8abf5
set_option maxRecDepth 20000 in
theorem ggX2_best_Jx4a65c_get_915e3 : GoodIn wsX2_best wsJx4a65c_get_915e3 := goodIn_r _ [24, 20, 25, 26, 27, 28, 29, 30, 31, 32, 33, 34, 35, 18, 36, 37, 109, 110, 111] (by decide +kernel) (by decide +kernel)
set_option maxRecDepth 20000 in
theorem gX2_best_Jx4a65c_get_915e3 : GoodIn wsX2_best (wsV RX2 89 RJx4a65c yJx4a65c_get_915e3 wsJx4a65c_get_915e3) := goodIn_app (goodIn_of _ (by decide +kernel)) ggX2_best_Jx4a65c_get_915e3
set_option maxRecDepth 20000 in
theorem ggX2_best_X2_ticksToMove : GoodIn wsX2_best wsX2_ticksToMove := goodIn_r _ [41, 42, 43, 44, 45, 46, 47, 48, 49, 50, 51, 5, 52, 53, 9, 10, 11, 12, 13, 14, 54, 55, 56, 57, 58, 59, 60, 61, 62, 63, 64, 65, 66, 67, 68, 69, 70, 71, 72, 73, 74, 75, 76, 77, 78, 79, 80, 81, 82, 83, 84, 85, 86, 87, 88, 89, 90, 91, 92, 93, 94, 95, 96, 97, 98, 99, 100, 101, 102, 103, 104, 112, 113, 114, 115, 116, 117, 118, 119, 120, 121, 122, 123, 124, 125, 126, 105, 106, 107, 108] (by decide +kernel) (by decide +kernel)
set_option maxRecDepth 20000 in
theorem gX2_best_X2_ticksToMove : GoodIn wsX2_best (wsV RX2 186 RX2 yX2_ticksToMove wsX2_ticksToMove) := goodIn_app (goodIn_of _ (by decide +kernel)) ggX2_best_X2_ticksToMove
theorem dX2_best_0 : decode cX2_best 0 = .ok (.iload_n 1, 1) := by decide +kernel
theorem dX2_best_1 : decode cX2_best 1 = .ok (.invokestatic 25, 3) := by decide +kernel
theorem dX2_best_4 : decode cX2_best 4 = .ok (.iload_n 2, 1) := by decide +kernel
theorem dX2_best_5 : decode cX2_best 5 = .ok (.invokestatic 25, 3) := by decide +kernel
theorem dX2_best_8 : decode cX2_best 8 = .ok (.iconst (-1), 1) := by decide +kernel
theorem dX2_best_9 : decode cX2_best 9 = .ok (.istore_n 3, 1) := by decide +kernel
theorem dX2_best_10 : decode cX2_best 10 = .ok (.iconst (-1), 1) := by decide +kernel
theorem dX2_best_11 : decode cX2_best 11 = .ok (.istore 4, 2) := by decide +kernel
theorem dX2_best_13 : decode cX2_best 13 = .ok (.iconst 0, 1) := by decide +kernel
theorem dX2_best_14 : decode cX2_best 14 = .ok (.istore 5, 2) := by decide +kernel
theorem dX2_best_16 : decode cX2_best 16 = .ok (.iload 5, 2) := by decide +kernel
theorem dX2_best_18 : decode cX2_best 18 = .ok (.aload_n 0, 1) := by decide +kernel
theorem dX2_best_19 : decode cX2_best 19 = .ok (.getfield 22, 3) := by decide +kernel
theorem dX2_best_22 : decode cX2_best 22 = .ok (.invokevirtual 32, 3) := by decide +kernel
theorem dX2_best_25 : decode cX2_best 25 = .ok (.if_icmp .ge 54, 3) := by decide +kernel
theorem dX2_best_28 : decode cX2_best 28 = .ok (.aload_n 0, 1) := by decide +kernel
theorem dX2_best_29 : decode cX2_best 29 = .ok (.aload_n 0, 1) := by decide +kernel
theorem dX2_best_30 : decode cX2_best 30 = .ok (.getfield 22, 3) := by decide +kernel
theorem dX2_best_33 : decode cX2_best 33 = .ok (.iload 5, 2) := by decide +kernel
theorem dX2_best_35 : decode cX2_best 35 = .ok (.invokevirtual 89, 3) := by decide +kernel
theorem dX2_best_38 : decode cX2_best 38 = .ok (.checkcast 81, 3) := by decide +kernel
theorem dX2_best_41 : decode cX2_best 41 = .ok (.iload_n 1, 1) := by decide +kernel
theorem dX2_best_42 : decode cX2_best 42 = .ok (.iload_n 2, 1) := by decide +kernel
theorem dX2_best_43 : decode cX2_best 43 = .ok (.invokevirtual 186, 3) := by decide +kernel
theorem dX2_best_46 : decode cX2_best 46 = .ok (.istore 6, 2) := by decide +kernel
theorem dX2_best_48 : decode cX2_best 48 = .ok (.iload 6, 2) := by decide +kernel
theorem dX2_best_50 : decode cX2_best 50 = .ok (.iconst (-1), 1) := by decide +kernel
theorem dX2_best_51 : decode cX2_best 51 = .ok (.if_icmp .eq 22, 3) := by decide +kernel
theorem dX2_best_54 : decode cX2_best 54 = .ok (.iload_n 3, 1) := by decide +kernel
theorem dX2_best_55 : decode cX2_best 55 = .ok (.iconst (-1), 1) := by decide +kernel
theorem dX2_best_56 : decode cX2_best 56 = .ok (.if_icmp .eq 10, 3) := by decide +kernel
theorem dX2_best_59 : decode cX2_best 59 = .ok (.iload 6, 2) := by decide +kernel
theorem dX2_best_61 : decode cX2_best 61 = .ok (.iload 4, 2) := by decide +kernel
theorem dX2_best_63 : decode cX2_best 63 = .ok (.if_icmp .ge 10, 3) := by decide +kernel
theorem dX2_best_66 : decode cX2_best 66 = .ok (.iload 5, 2) := by decide +kernel
theorem dX2_best_68 : decode cX2_best 68 = .ok (.istore_n 3, 1) := by decide +kernel
theorem dX2_best_69 : decode cX2_best 69 = .ok (.iload 6, 2) := by decide +kernel
theorem dX2_best_71 : decode cX2_best 71 = .ok (.istore 4, 2) := by decide +kernel
theorem dX2_best_73 : decode cX2_best 73 = .ok (.iinc 5 1, 3) := by decide +kernel
theorem dX2_best_76 : decode cX2_best 76 = .ok (.goto (-60), 3) := by decide +kernel
theorem dX2_best_79 : decode cX2_best 79 = .ok (.iload_n 3, 1) := by decide +kernel
theorem dX2_best_80 : decode cX2_best 80 = .ok (.ireturn, 1) := by decide +kernel
set_option maxRecDepth 20000 in
theorem ggX2_lasts_X2_requireCrane : GoodIn wsX2_lasts wsX2_requireCrane := goodIn_ca (goodIn_r _ [8, 9, 10, 1, 11, 12, 13, 14, 15, 16, 17, 18, 7, 19, 45, 46, 47, 48, 57, 58, 59] (by decide +kernel) (by decide +kernel)) (goodIn_sub (fun _ h => List.mem_cons_of_mem _ (List.mem_append_left _ (List.mem_append_right _ h))) (by decide +kernel))
set_option maxRecDepth 20000 in
theorem gX2_lasts_X2_requireCrane : GoodIn wsX2_lasts (wsV RX2 86 RX2 yX2_requireCrane wsX2_requireCrane) := goodIn_app (goodIn_of _ (by decide +kernel)) ggX2_lasts_X2_requireCrane
set_option maxRecDepth 20000 in
theorem ggX2_lasts_X2_requireWeight : GoodIn wsX2_lasts wsX2_requireWeight := goodIn_ca (goodIn_r _ [22, 23, 24, 17, 18, 7, 19] (by decide +kernel) (by decide +kernel)) (goodIn_sub (fun _ h => List.mem_cons_of_mem _ (List.mem_append_right _ h)) (by decide +kernel))
set_option maxRecDepth 20000 in
theorem gX2_lasts_X2_requireWeight : GoodIn wsX2_lasts (va_wsS RX2 29 yX2_requireWeight wsX2_requireWeight) := goodIn_app (goodIn_of _ (by decide +kernel)) ggX2_lasts_X2_requireWeight
set_option maxRecDepth 20000 in
theorem ggX2_lasts_X2_wearInATick : GoodIn wsX2_lasts wsX2_wearInATick := goodIn_r _ [27] (by decide +kernel) (by decide +kernel)
set_option maxRecDepth 20000 in
theorem gX2_lasts_X2_wearInATick : GoodIn wsX2_lasts (va_wsS RX2 190 yX2_wearInATick wsX2_wearInATick) := goodIn_app (goodIn_of _ (by decide +kernel)) ggX2_lasts_X2_wearInATick
set_option maxRecDepth 20000 in
theorem ggX2_lasts_Jx4a65c_get_915e3 : GoodIn wsX2_lasts wsJx4a65c_get_915e3 := goodIn_r _ [31, 16, 32, 33, 34, 35, 36, 37, 38, 39, 40, 41, 42, 14, 43, 44, 57, 58, 59] (by decide +kernel) (by decide +kernel)
set_option maxRecDepth 20000 in
theorem gX2_lasts_Jx4a65c_get_915e3 : GoodIn wsX2_lasts (wsV RX2 89 RJx4a65c yJx4a65c_get_915e3 wsJx4a65c_get_915e3) := goodIn_app (goodIn_of _ (by decide +kernel)) ggX2_lasts_Jx4a65c_get_915e3
theorem dX2_lasts_0 : decode cX2_lasts 0 = .ok (.aload_n 0, 1) := by decide +kernel
theorem dX2_lasts_1 : decode cX2_lasts 1 = .ok (.iload_n 1, 1) := by decide +kernel
theorem dX2_lasts_2 : decode cX2_lasts 2 = .ok (.invokevirtual 86, 3) := by decide +kernel
theorem dX2_lasts_5 : decode cX2_lasts 5 = .ok (.iload_n 2, 1) := by decide +kernel
theorem dX2_lasts_6 : decode cX2_lasts 6 = .ok (.invokestatic 29, 3) := by decide +kernel
theorem dX2_lasts_9 : decode cX2_lasts 9 = .ok (.iload_n 2, 1) := by decide +kernel
theorem dX2_lasts_10 : decode cX2_lasts 10 = .ok (.invokestatic 190, 3) := by decide +kernel
theorem dX2_lasts_13 : decode cX2_lasts 13 = .ok (.istore_n 3, 1) := by decide +kernel
theorem dX2_lasts_14 : decode cX2_lasts 14 = .ok (.iload_n 3, 1) := by decide +kernel
theorem dX2_lasts_15 : decode cX2_lasts 15 = .ok (.iconst 1, 1) := by decide +kernel
theorem dX2_lasts_16 : decode cX2_lasts 16 = .ok (.if_icmp .ge 7, 3) := by decide +kernel
theorem dX2_lasts_19 : decode cX2_lasts 19 = .ok (.iconst 0, 1) := by decide +kernel
theorem dX2_lasts_20 : decode cX2_lasts 20 = .ok (.goto 22, 3) := by decide +kernel
theorem dX2_lasts_23 : decode cX2_lasts 23 = .ok (.bipush 99, 2) := by decide +kernel
theorem dX2_lasts_25 : decode cX2_lasts 25 = .ok (.aload_n 0, 1) := by decide +kernel
theorem dX2_lasts_26 : decode cX2_lasts 26 = .ok (.getfield 22, 3) := by decide +kernel
theorem dX2_lasts_29 : decode cX2_lasts 29 = .ok (.iload_n 1, 1) := by decide +kernel
theorem dX2_lasts_30 : decode cX2_lasts 30 = .ok (.invokevirtual 89, 3) := by decide +kernel
theorem dX2_lasts_33 : decode cX2_lasts 33 = .ok (.checkcast 81, 3) := by decide +kernel
theorem dX2_lasts_36 : decode cX2_lasts 36 = .ok (.getfield 96, 3) := by decide +kernel
theorem dX2_lasts_39 : decode cX2_lasts 39 = .ok (.isub, 1) := by decide +kernel
theorem dX2_lasts_40 : decode cX2_lasts 40 = .ok (.iload_n 3, 1) := by decide +kernel
theorem dX2_lasts_41 : decode cX2_lasts 41 = .ok (.idiv, 1) := by decide +kernel
theorem dX2_lasts_42 : decode cX2_lasts 42 = .ok (.ireturn, 1) := by decide +kernel
set_option maxRecDepth 20000 in
theorem ggX2_within_X2_requireCrane : GoodIn wsX2_within wsX2_requireCrane := goodIn_ca (goodIn_r _ [11, 12, 13, 1, 14, 15, 16, 17, 18, 19, 20, 21, 10, 22, 63, 64, 65, 66, 74, 75, 76] (by decide +kernel) (by decide +kernel)) (goodIn_sub (fun _ h => List.mem_cons_of_mem _ (List.mem_append_right _ h)) (by decide +kernel))
set_option maxRecDepth 20000 in
theorem gX2_within_X2_requireCrane : GoodIn wsX2_within (wsV RX2 86 RX2 yX2_requireCrane wsX2_requireCrane) := goodIn_app (goodIn_of _ (by decide +kernel)) ggX2_within_X2_requireCrane
set_option maxRecDepth 20000 in
theorem ggX2_within_Jx4a65c_get_915e3 : GoodIn wsX2_within wsJx4a65c_get_915e3 := goodIn_r _ [26, 19, 27, 28, 29, 30, 31, 32, 33, 34, 35, 36, 37, 17, 38, 39, 74, 75, 76] (by decide +kernel) (by decide +kernel)
set_option maxRecDepth 20000 in
theorem gX2_within_Jx4a65c_get_915e3 : GoodIn wsX2_within (wsV RX2 89 RJx4a65c yJx4a65c_get_915e3 wsJx4a65c_get_915e3) := goodIn_app (goodIn_of _ (by decide +kernel)) ggX2_within_Jx4a65c_get_915e3
set_option maxRecDepth 20000 in
theorem ggX2_within_Jx4a65c_size_8abf5 : GoodIn wsX2_within wsJx4a65c_size_8abf5 := goodIn_r _ [18, 19, 74, 75, 76] (by decide +kernel) (by decide +kernel)
set_option maxRecDepth 20000 in
theorem gX2_within_Jx4a65c_size_8abf5 : GoodIn wsX2_within (wsV RX2 32 RJx4a65c yJx4a65c_size_8abf5 wsJx4a65c_size_8abf5) := goodIn_app (goodIn_of _ (by decide +kernel)) ggX2_within_Jx4a65c_size_8abf5
set_option maxRecDepth 20000 in
theorem ggX2_within_X1_reaches : GoodIn wsX2_within wsX1_reaches := goodIn_r _ [44, 45, 46, 47, 10, 48, 49, 50, 51, 52, 77, 78, 79, 80, 81, 82, 83, 84] (by decide +kernel) (by decide +kernel)
set_option maxRecDepth 20000 in
theorem gX2_within_X1_reaches : GoodIn wsX2_within (wsV RX2 99 RX1 yX1_reaches wsX1_reaches) := goodIn_app (goodIn_of _ (by decide +kernel)) ggX2_within_X1_reaches
set_option maxRecDepth 20000 in
theorem ggX2_within_X1_canLift : GoodIn wsX2_within wsX1_canLift := goodIn_r _ [56, 57, 58, 59, 43, 60, 61, 62, 77, 78, 79, 80, 81, 82, 83, 84] (by decide +kernel) (by decide +kernel)
set_option maxRecDepth 20000 in
theorem gX2_within_X1_canLift : GoodIn wsX2_within (wsV RX2 137 RX1 yX1_canLift wsX1_canLift) := goodIn_app (goodIn_of _ (by decide +kernel)) ggX2_within_X1_canLift
theorem dX2_within_0 : decode cX2_within 0 = .ok (.aload_n 0, 1) := by decide +kernel
theorem dX2_within_1 : decode cX2_within 1 = .ok (.iload_n 1, 1) := by decide +kernel
theorem dX2_within_2 : decode cX2_within 2 = .ok (.invokevirtual 86, 3) := by decide +kernel
theorem dX2_within_5 : decode cX2_within 5 = .ok (.aload_n 0, 1) := by decide +kernel
theorem dX2_within_6 : decode cX2_within 6 = .ok (.getfield 22, 3) := by decide +kernel
theorem dX2_within_9 : decode cX2_within 9 = .ok (.iload_n 1, 1) := by decide +kernel
theorem dX2_within_10 : decode cX2_within 10 = .ok (.invokevirtual 89, 3) := by decide +kernel
theorem dX2_within_13 : decode cX2_within 13 = .ok (.checkcast 81, 3) := by decide +kernel
theorem dX2_within_16 : decode cX2_within 16 = .ok (.astore_n 2, 1) := by decide +kernel
theorem dX2_within_17 : decode cX2_within 17 = .ok (.iconst 0, 1) := by decide +kernel
theorem dX2_within_18 : decode cX2_within 18 = .ok (.istore_n 3, 1) := by decide +kernel
theorem dX2_within_19 : decode cX2_within 19 = .ok (.iconst 0, 1) := by decide +kernel
theorem dX2_within_20 : decode cX2_within 20 = .ok (.istore 4, 2) := by decide +kernel
theorem dX2_within_22 : decode cX2_within 22 = .ok (.iload 4, 2) := by decide +kernel
theorem dX2_within_24 : decode cX2_within 24 = .ok (.aload_n 0, 1) := by decide +kernel
theorem dX2_within_25 : decode cX2_within 25 = .ok (.getfield 18, 3) := by decide +kernel
theorem dX2_within_28 : decode cX2_within 28 = .ok (.invokevirtual 32, 3) := by decide +kernel
theorem dX2_within_31 : decode cX2_within 31 = .ok (.if_icmp .ge 59, 3) := by decide +kernel
theorem dX2_within_34 : decode cX2_within 34 = .ok (.aload_n 0, 1) := by decide +kernel
theorem dX2_within_35 : decode cX2_within 35 = .ok (.getfield 18, 3) := by decide +kernel
theorem dX2_within_38 : decode cX2_within 38 = .ok (.iload 4, 2) := by decide +kernel
theorem dX2_within_40 : decode cX2_within 40 = .ok (.invokevirtual 89, 3) := by decide +kernel
theorem dX2_within_43 : decode cX2_within 43 = .ok (.checkcast 9, 3) := by decide +kernel
theorem dX2_within_46 : decode cX2_within 46 = .ok (.astore 5, 2) := by decide +kernel
theorem dX2_within_48 : decode cX2_within 48 = .ok (.aload 5, 2) := by decide +kernel
theorem dX2_within_50 : decode cX2_within 50 = .ok (.getfield 193, 3) := by decide +kernel
theorem dX2_within_53 : decode cX2_within 53 = .ok (.iconst (-1), 1) := by decide +kernel
theorem dX2_within_54 : decode cX2_within 54 = .ok (.if_icmp .eq 30, 3) := by decide +kernel
theorem dX2_within_57 : decode cX2_within 57 = .ok (.aload_n 2, 1) := by decide +kernel
theorem dX2_within_58 : decode cX2_within 58 = .ok (.aload 5, 2) := by decide +kernel
theorem dX2_within_60 : decode cX2_within 60 = .ok (.getfield 193, 3) := by decide +kernel
theorem dX2_within_63 : decode cX2_within 63 = .ok (.invokevirtual 99, 3) := by decide +kernel
theorem dX2_within_66 : decode cX2_within 66 = .ok (.ifCond .eq 18, 3) := by decide +kernel
theorem dX2_within_69 : decode cX2_within 69 = .ok (.aload_n 2, 1) := by decide +kernel
theorem dX2_within_70 : decode cX2_within 70 = .ok (.aload 5, 2) := by decide +kernel
theorem dX2_within_72 : decode cX2_within 72 = .ok (.getfield 134, 3) := by decide +kernel
theorem dX2_within_75 : decode cX2_within 75 = .ok (.invokevirtual 137, 3) := by decide +kernel
theorem dX2_within_78 : decode cX2_within 78 = .ok (.ifCond .eq 6, 3) := by decide +kernel
theorem dX2_within_81 : decode cX2_within 81 = .ok (.iinc 3 1, 3) := by decide +kernel
theorem dX2_within_84 : decode cX2_within 84 = .ok (.iinc 4 1, 3) := by decide +kernel
theorem dX2_within_87 : decode cX2_within 87 = .ok (.goto (-65), 3) := by decide +kernel
theorem dX2_within_90 : decode cX2_within 90 = .ok (.iload_n 3, 1) := by decide +kernel
theorem dX2_within_91 : decode cX2_within 91 = .ok (.ireturn, 1) := by decide +kernel
set_option maxRecDepth 20000 in
theorem ggX2_mean_Jx4a65c_size_8abf5 : GoodIn wsX2_mean wsJx4a65c_size_8abf5 := goodIn_r _ [9, 10, 39, 40, 41] (by decide +kernel) (by decide +kernel)
set_option maxRecDepth 20000 in
theorem gX2_mean_Jx4a65c_size_8abf5 : GoodIn wsX2_mean (wsV RX2 32 RJx4a65c yJx4a65c_size_8abf5 wsJx4a65c_size_8abf5) := goodIn_app (goodIn_of _ (by decide +kernel)) ggX2_mean_Jx4a65c_size_8abf5
set_option maxRecDepth 20000 in
theorem ggX2_mean_Jx4a65c_get_915e3 : GoodIn wsX2_mean wsJx4a65c_get_915e3 := goodIn_r _ [14, 10, 15, 16, 17, 18, 19, 20, 21, 22, 23, 24, 25, 8, 26, 27, 39, 40, 41] (by decide +kernel) (by decide +kernel)
set_option maxRecDepth 20000 in
theorem gX2_mean_Jx4a65c_get_915e3 : GoodIn wsX2_mean (wsV RX2 89 RJx4a65c yJx4a65c_get_915e3 wsJx4a65c_get_915e3) := goodIn_app (goodIn_of _ (by decide +kernel)) ggX2_mean_Jx4a65c_get_915e3
theorem dX2_mean_0 : decode cX2_mean 0 = .ok (.iconst 0, 1) := by decide +kernel
theorem dX2_mean_1 : decode cX2_mean 1 = .ok (.istore_n 1, 1) := by decide +kernel
theorem dX2_mean_2 : decode cX2_mean 2 = .ok (.iconst 0, 1) := by decide +kernel
theorem dX2_mean_3 : decode cX2_mean 3 = .ok (.istore_n 2, 1) := by decide +kernel
theorem dX2_mean_4 : decode cX2_mean 4 = .ok (.iconst 0, 1) := by decide +kernel
theorem dX2_mean_5 : decode cX2_mean 5 = .ok (.istore_n 3, 1) := by decide +kernel
theorem dX2_mean_6 : decode cX2_mean 6 = .ok (.iload_n 3, 1) := by decide +kernel
theorem dX2_mean_7 : decode cX2_mean 7 = .ok (.aload_n 0, 1) := by decide +kernel
theorem dX2_mean_8 : decode cX2_mean 8 = .ok (.getfield 18, 3) := by decide +kernel
theorem dX2_mean_11 : decode cX2_mean 11 = .ok (.invokevirtual 32, 3) := by decide +kernel
theorem dX2_mean_14 : decode cX2_mean 14 = .ok (.if_icmp .ge 41, 3) := by decide +kernel
theorem dX2_mean_17 : decode cX2_mean 17 = .ok (.aload_n 0, 1) := by decide +kernel
theorem dX2_mean_18 : decode cX2_mean 18 = .ok (.getfield 18, 3) := by decide +kernel
theorem dX2_mean_21 : decode cX2_mean 21 = .ok (.iload_n 3, 1) := by decide +kernel
theorem dX2_mean_22 : decode cX2_mean 22 = .ok (.invokevirtual 89, 3) := by decide +kernel
theorem dX2_mean_25 : decode cX2_mean 25 = .ok (.checkcast 9, 3) := by decide +kernel
theorem dX2_mean_28 : decode cX2_mean 28 = .ok (.astore 4, 2) := by decide +kernel
theorem dX2_mean_30 : decode cX2_mean 30 = .ok (.aload 4, 2) := by decide +kernel
theorem dX2_mean_32 : decode cX2_mean 32 = .ok (.getfield 196, 3) := by decide +kernel
theorem dX2_mean_35 : decode cX2_mean 35 = .ok (.ifCond .ne 14, 3) := by decide +kernel
theorem dX2_mean_38 : decode cX2_mean 38 = .ok (.iload_n 1, 1) := by decide +kernel
theorem dX2_mean_39 : decode cX2_mean 39 = .ok (.aload 4, 2) := by decide +kernel
theorem dX2_mean_41 : decode cX2_mean 41 = .ok (.getfield 134, 3) := by decide +kernel
theorem dX2_mean_44 : decode cX2_mean 44 = .ok (.iadd, 1) := by decide +kernel
theorem dX2_mean_45 : decode cX2_mean 45 = .ok (.istore_n 1, 1) := by decide +kernel
theorem dX2_mean_46 : decode cX2_mean 46 = .ok (.iinc 2 1, 3) := by decide +kernel
theorem dX2_mean_49 : decode cX2_mean 49 = .ok (.iinc 3 1, 3) := by decide +kernel
theorem dX2_mean_52 : decode cX2_mean 52 = .ok (.goto (-46), 3) := by decide +kernel
theorem dX2_mean_55 : decode cX2_mean 55 = .ok (.iload_n 2, 1) := by decide +kernel
theorem dX2_mean_56 : decode cX2_mean 56 = .ok (.ifCond .ne 7, 3) := by decide +kernel
theorem dX2_mean_59 : decode cX2_mean 59 = .ok (.dconst 0, 1) := by decide +kernel
theorem dX2_mean_60 : decode cX2_mean 60 = .ok (.goto 8, 3) := by decide +kernel
theorem dX2_mean_63 : decode cX2_mean 63 = .ok (.iload_n 1, 1) := by decide +kernel
theorem dX2_mean_64 : decode cX2_mean 64 = .ok (.i2d, 1) := by decide +kernel
theorem dX2_mean_65 : decode cX2_mean 65 = .ok (.iload_n 2, 1) := by decide +kernel
theorem dX2_mean_66 : decode cX2_mean 66 = .ok (.i2d, 1) := by decide +kernel
theorem dX2_mean_67 : decode cX2_mean 67 = .ok (.ddiv, 1) := by decide +kernel
theorem dX2_mean_68 : decode cX2_mean 68 = .ok (.dreturn, 1) := by decide +kernel
set_option maxRecDepth 20000 in
theorem ggX2_digest_X2_countAnswer : GoodIn wsX2_digest wsX2_countAnswer := goodIn_r _ [11, 12, 3, 5, 13, 14, 15, 16, 17, 18, 19, 20, 21, 10, 22, 23, 24, 25, 26, 27, 28, 29, 30, 31, 32, 33, 34, 35, 36, 37, 38, 39, 40, 41, 42, 6, 43, 44, 45, 46, 47, 48, 49, 50, 51, 52, 53, 54, 55, 56, 57, 58, 59, 60, 61, 62, 63, 64, 65, 66, 67, 68, 69, 70, 71, 114, 115, 116, 117, 118, 119, 120, 121, 122, 123, 124, 125, 126, 127, 128, 129, 130, 131, 132, 133, 134, 135] (by decide +kernel) (by decide +kernel)
set_option maxRecDepth 20000 in
theorem gX2_digest_X2_countAnswer : GoodIn wsX2_digest (wsV RX2 183 RX2 yX2_countAnswer wsX2_countAnswer) := goodIn_app (goodIn_of _ (by decide +kernel)) ggX2_digest_X2_countAnswer
set_option maxRecDepth 20000 in
theorem ggX2_digest_X2_placeAnswer : GoodIn wsX2_digest wsX2_placeAnswer := goodIn_r _ [75, 23, 24, 25, 10, 26, 27, 28, 29, 30, 31, 32, 33, 34, 35, 36, 37, 38, 76, 77, 78, 79, 80, 81, 82, 83, 84, 85, 86, 87, 88, 89, 5, 6, 90, 13, 14, 15, 16, 17, 18, 44, 45, 46, 47, 48, 49, 50, 51, 52, 53, 54, 55, 56, 57, 58, 59, 60, 121, 122, 123, 124, 125, 126, 127, 114, 115, 116, 117, 128, 129, 130, 131, 132, 133, 134, 135, 118, 119, 120] (by decide +kernel) (by decide +kernel)
set_option maxRecDepth 20000 in
theorem gX2_digest_X2_placeAnswer : GoodIn wsX2_digest (wsV RX2 168 RX2 yX2_placeAnswer wsX2_placeAnswer) := goodIn_app (goodIn_of _ (by decide +kernel)) ggX2_digest_X2_placeAnswer
set_option maxRecDepth 20000 in
theorem ggX2_digest_Jx4a65c_size_8abf5 : GoodIn wsX2_digest wsJx4a65c_size_8abf5 := goodIn_r _ [17, 18, 118, 119, 120] (by decide +kernel) (by decide +kernel)
set_option maxRecDepth 20000 in
theorem gX2_digest_Jx4a65c_size_8abf5 : GoodIn wsX2_digest (wsV RX2 32 RJx4a65c yJx4a65c_size_8abf5 wsJx4a65c_size_8abf5) := goodIn_app (goodIn_of _ (by decide +kernel)) ggX2_digest_Jx4a65c_size_8abf5
set_option maxRecDepth 20000 in
theorem ggX2_digest_Jx4a65c_get_915e3 : GoodIn wsX2_digest wsJx4a65c_get_915e3 := goodIn_r _ [47, 18, 48, 49, 50, 51, 52, 53, 54, 55, 56, 57, 58, 16, 59, 60, 118, 119, 120] (by decide +kernel) (by decide +kernel)
set_option maxRecDepth 20000 in
theorem gX2_digest_Jx4a65c_get_915e3 : GoodIn wsX2_digest (wsV RX2 89 RJx4a65c yJx4a65c_get_915e3 wsJx4a65c_get_915e3) := goodIn_app (goodIn_of _ (by decide +kernel)) ggX2_digest_Jx4a65c_get_915e3
set_option maxRecDepth 20000 in
theorem ggX2_digest_X2_barrelAnswer : GoodIn wsX2_digest wsX2_barrelAnswer := goodIn_r _ [94, 84, 95, 27, 96, 97, 23, 24, 25, 10, 26, 28, 29, 30, 31, 32, 33, 34, 35, 36, 37, 38, 121, 122, 123, 124, 125, 126, 127, 114, 115, 116, 117] (by decide +kernel) (by decide +kernel)
set_option maxRecDepth 20000 in
theorem gX2_digest_X2_barrelAnswer : GoodIn wsX2_digest (wsV RX2 176 RX2 yX2_barrelAnswer wsX2_barrelAnswer) := goodIn_app (goodIn_of _ (by decide +kernel)) ggX2_digest_X2_barrelAnswer
set_option maxRecDepth 20000 in
theorem ggX2_digest_X2_craneAnswer : GoodIn wsX2_digest wsX2_craneAnswer := goodIn_r _ [100, 101, 102, 103, 104, 105, 90, 106, 43, 76, 77, 10, 78, 79, 107, 108, 109, 110, 111, 112, 113, 128, 129, 130, 131, 132, 133, 134, 135, 121, 122, 123, 124, 125, 126, 127] (by decide +kernel) (by decide +kernel)
set_option maxRecDepth 20000 in
theorem gX2_digest_X2_craneAnswer : GoodIn wsX2_digest (va_wsS RX2 180 yX2_craneAnswer wsX2_craneAnswer) := goodIn_app (goodIn_of _ (by decide +kernel)) ggX2_digest_X2_craneAnswer
theorem dX2_digest_0 : decode cX2_digest 0 = .ok (.ldc2_w 200, 3) := by decide +kernel
theorem dX2_digest_3 : decode cX2_digest 3 = .ok (.lstore_n 1, 1) := by decide +kernel
theorem dX2_digest_4 : decode cX2_digest 4 = .ok (.iconst 0, 1) := by decide +kernel
theorem dX2_digest_5 : decode cX2_digest 5 = .ok (.istore_n 3, 1) := by decide +kernel
theorem dX2_digest_6 : decode cX2_digest 6 = .ok (.iload_n 3, 1) := by decide +kernel
theorem dX2_digest_7 : decode cX2_digest 7 = .ok (.bipush 7, 2) := by decide +kernel
theorem dX2_digest_9 : decode cX2_digest 9 = .ok (.if_icmp .ge 22, 3) := by decide +kernel
theorem dX2_digest_12 : decode cX2_digest 12 = .ok (.lload_n 1, 1) := by decide +kernel
theorem dX2_digest_13 : decode cX2_digest 13 = .ok (.ldc2_w 202, 3) := by decide +kernel
theorem dX2_digest_16 : decode cX2_digest 16 = .ok (.lmul, 1) := by decide +kernel
theorem dX2_digest_17 : decode cX2_digest 17 = .ok (.aload_n 0, 1) := by decide +kernel
theorem dX2_digest_18 : decode cX2_digest 18 = .ok (.iload_n 3, 1) := by decide +kernel
theorem dX2_digest_19 : decode cX2_digest 19 = .ok (.invokevirtual 183, 3) := by decide +kernel
theorem dX2_digest_22 : decode cX2_digest 22 = .ok (.i2l, 1) := by decide +kernel
theorem dX2_digest_23 : decode cX2_digest 23 = .ok (.ladd, 1) := by decide +kernel
theorem dX2_digest_24 : decode cX2_digest 24 = .ok (.lstore_n 1, 1) := by decide +kernel
theorem dX2_digest_25 : decode cX2_digest 25 = .ok (.iinc 3 1, 3) := by decide +kernel
theorem dX2_digest_28 : decode cX2_digest 28 = .ok (.goto (-22), 3) := by decide +kernel
theorem dX2_digest_31 : decode cX2_digest 31 = .ok (.iconst 0, 1) := by decide +kernel
theorem dX2_digest_32 : decode cX2_digest 32 = .ok (.istore_n 3, 1) := by decide +kernel
theorem dX2_digest_33 : decode cX2_digest 33 = .ok (.iload_n 3, 1) := by decide +kernel
theorem dX2_digest_34 : decode cX2_digest 34 = .ok (.bipush 16, 2) := by decide +kernel
theorem dX2_digest_36 : decode cX2_digest 36 = .ok (.if_icmp .ge 39, 3) := by decide +kernel
theorem dX2_digest_39 : decode cX2_digest 39 = .ok (.iconst 0, 1) := by decide +kernel
theorem dX2_digest_40 : decode cX2_digest 40 = .ok (.istore 4, 2) := by decide +kernel
theorem dX2_digest_42 : decode cX2_digest 42 = .ok (.iload 4, 2) := by decide +kernel
theorem dX2_digest_44 : decode cX2_digest 44 = .ok (.iconst 4, 1) := by decide +kernel
theorem dX2_digest_45 : decode cX2_digest 45 = .ok (.if_icmp .ge 24, 3) := by decide +kernel
theorem dX2_digest_48 : decode cX2_digest 48 = .ok (.lload_n 1, 1) := by decide +kernel
theorem dX2_digest_49 : decode cX2_digest 49 = .ok (.ldc2_w 202, 3) := by decide +kernel
theorem dX2_digest_52 : decode cX2_digest 52 = .ok (.lmul, 1) := by decide +kernel
theorem dX2_digest_53 : decode cX2_digest 53 = .ok (.aload_n 0, 1) := by decide +kernel
theorem dX2_digest_54 : decode cX2_digest 54 = .ok (.iload_n 3, 1) := by decide +kernel
theorem dX2_digest_55 : decode cX2_digest 55 = .ok (.iload 4, 2) := by decide +kernel
theorem dX2_digest_57 : decode cX2_digest 57 = .ok (.invokevirtual 168, 3) := by decide +kernel
theorem dX2_digest_60 : decode cX2_digest 60 = .ok (.i2l, 1) := by decide +kernel
theorem dX2_digest_61 : decode cX2_digest 61 = .ok (.ladd, 1) := by decide +kernel
theorem dX2_digest_62 : decode cX2_digest 62 = .ok (.lstore_n 1, 1) := by decide +kernel
theorem dX2_digest_63 : decode cX2_digest 63 = .ok (.iinc 4 1, 3) := by decide +kernel
theorem dX2_digest_66 : decode cX2_digest 66 = .ok (.goto (-24), 3) := by decide +kernel
theorem dX2_digest_69 : decode cX2_digest 69 = .ok (.iinc 3 1, 3) := by decide +kernel
theorem dX2_digest_72 : decode cX2_digest 72 = .ok (.goto (-39), 3) := by decide +kernel
theorem dX2_digest_75 : decode cX2_digest 75 = .ok (.iconst 0, 1) := by decide +kernel
theorem dX2_digest_76 : decode cX2_digest 76 = .ok (.istore_n 3, 1) := by decide +kernel
theorem dX2_digest_77 : decode cX2_digest 77 = .ok (.iload_n 3, 1) := by decide +kernel
theorem dX2_digest_78 : decode cX2_digest 78 = .ok (.aload_n 0, 1) := by decide +kernel
theorem dX2_digest_79 : decode cX2_digest 79 = .ok (.getfield 18, 3) := by decide +kernel
theorem dX2_digest_82 : decode cX2_digest 82 = .ok (.invokevirtual 32, 3) := by decide +kernel
theorem dX2_digest_85 : decode cX2_digest 85 = .ok (.if_icmp .ge 49, 3) := by decide +kernel
theorem dX2_digest_88 : decode cX2_digest 88 = .ok (.iconst 0, 1) := by decide +kernel
theorem dX2_digest_89 : decode cX2_digest 89 = .ok (.istore 4, 2) := by decide +kernel
theorem dX2_digest_91 : decode cX2_digest 91 = .ok (.iload 4, 2) := by decide +kernel
theorem dX2_digest_93 : decode cX2_digest 93 = .ok (.iconst 5, 1) := by decide +kernel
theorem dX2_digest_94 : decode cX2_digest 94 = .ok (.if_icmp .ge 34, 3) := by decide +kernel
theorem dX2_digest_97 : decode cX2_digest 97 = .ok (.lload_n 1, 1) := by decide +kernel
theorem dX2_digest_98 : decode cX2_digest 98 = .ok (.ldc2_w 202, 3) := by decide +kernel
theorem dX2_digest_101 : decode cX2_digest 101 = .ok (.lmul, 1) := by decide +kernel
theorem dX2_digest_102 : decode cX2_digest 102 = .ok (.aload_n 0, 1) := by decide +kernel
theorem dX2_digest_103 : decode cX2_digest 103 = .ok (.aload_n 0, 1) := by decide +kernel
theorem dX2_digest_104 : decode cX2_digest 104 = .ok (.getfield 18, 3) := by decide +kernel
theorem dX2_digest_107 : decode cX2_digest 107 = .ok (.iload_n 3, 1) := by decide +kernel
theorem dX2_digest_108 : decode cX2_digest 108 = .ok (.invokevirtual 89, 3) := by decide +kernel
theorem dX2_digest_111 : decode cX2_digest 111 = .ok (.checkcast 9, 3) := by decide +kernel
theorem dX2_digest_114 : decode cX2_digest 114 = .ok (.iload 4, 2) := by decide +kernel
theorem dX2_digest_116 : decode cX2_digest 116 = .ok (.invokevirtual 176, 3) := by decide +kernel
theorem dX2_digest_119 : decode cX2_digest 119 = .ok (.i2l, 1) := by decide +kernel
theorem dX2_digest_120 : decode cX2_digest 120 = .ok (.ladd, 1) := by decide +kernel
theorem dX2_digest_121 : decode cX2_digest 121 = .ok (.lstore_n 1, 1) := by decide +kernel
theorem dX2_digest_122 : decode cX2_digest 122 = .ok (.iinc 4 1, 3) := by decide +kernel
theorem dX2_digest_125 : decode cX2_digest 125 = .ok (.goto (-34), 3) := by decide +kernel
theorem dX2_digest_128 : decode cX2_digest 128 = .ok (.iinc 3 1, 3) := by decide +kernel
theorem dX2_digest_131 : decode cX2_digest 131 = .ok (.goto (-54), 3) := by decide +kernel
theorem dX2_digest_134 : decode cX2_digest 134 = .ok (.iconst 0, 1) := by decide +kernel
theorem dX2_digest_135 : decode cX2_digest 135 = .ok (.istore_n 3, 1) := by decide +kernel
theorem dX2_digest_136 : decode cX2_digest 136 = .ok (.iload_n 3, 1) := by decide +kernel
theorem dX2_digest_137 : decode cX2_digest 137 = .ok (.aload_n 0, 1) := by decide +kernel
theorem dX2_digest_138 : decode cX2_digest 138 = .ok (.getfield 22, 3) := by decide +kernel
theorem dX2_digest_141 : decode cX2_digest 141 = .ok (.invokevirtual 32, 3) := by decide +kernel
theorem dX2_digest_144 : decode cX2_digest 144 = .ok (.if_icmp .ge 49, 3) := by decide +kernel
theorem dX2_digest_147 : decode cX2_digest 147 = .ok (.iconst 0, 1) := by decide +kernel
theorem dX2_digest_148 : decode cX2_digest 148 = .ok (.istore 4, 2) := by decide +kernel
theorem dX2_digest_150 : decode cX2_digest 150 = .ok (.iload 4, 2) := by decide +kernel
theorem dX2_digest_152 : decode cX2_digest 152 = .ok (.bipush 9, 2) := by decide +kernel
theorem dX2_digest_154 : decode cX2_digest 154 = .ok (.if_icmp .ge 33, 3) := by decide +kernel
theorem dX2_digest_157 : decode cX2_digest 157 = .ok (.lload_n 1, 1) := by decide +kernel
theorem dX2_digest_158 : decode cX2_digest 158 = .ok (.ldc2_w 202, 3) := by decide +kernel
theorem dX2_digest_161 : decode cX2_digest 161 = .ok (.lmul, 1) := by decide +kernel
theorem dX2_digest_162 : decode cX2_digest 162 = .ok (.aload_n 0, 1) := by decide +kernel
theorem dX2_digest_163 : decode cX2_digest 163 = .ok (.getfield 22, 3) := by decide +kernel
theorem dX2_digest_166 : decode cX2_digest 166 = .ok (.iload_n 3, 1) := by decide +kernel
theorem dX2_digest_167 : decode cX2_digest 167 = .ok (.invokevirtual 89, 3) := by decide +kernel
theorem dX2_digest_170 : decode cX2_digest 170 = .ok (.checkcast 81, 3) := by decide +kernel
theorem dX2_digest_173 : decode cX2_digest 173 = .ok (.iload 4, 2) := by decide +kernel
theorem dX2_digest_175 : decode cX2_digest 175 = .ok (.invokestatic 180, 3) := by decide +kernel
theorem dX2_digest_178 : decode cX2_digest 178 = .ok (.i2l, 1) := by decide +kernel
theorem dX2_digest_179 : decode cX2_digest 179 = .ok (.ladd, 1) := by decide +kernel
theorem dX2_digest_180 : decode cX2_digest 180 = .ok (.lstore_n 1, 1) := by decide +kernel
theorem dX2_digest_181 : decode cX2_digest 181 = .ok (.iinc 4 1, 3) := by decide +kernel
theorem dX2_digest_184 : decode cX2_digest 184 = .ok (.goto (-34), 3) := by decide +kernel
theorem dX2_digest_187 : decode cX2_digest 187 = .ok (.iinc 3 1, 3) := by decide +kernel
theorem dX2_digest_190 : decode cX2_digest 190 = .ok (.goto (-54), 3) := by decide +kernel
theorem dX2_digest_193 : decode cX2_digest 193 = .ok (.lload_n 1, 1) := by decide +kernel
theorem dX2_digest_194 : decode cX2_digest 194 = .ok (.lreturn, 1) := by decide +kernel
theorem dX2_isBetween_0 : decode cX2_isBetween 0 = .ok (.iload_n 0, 1) := by decide +kernel
theorem dX2_isBetween_1 : decode cX2_isBetween 1 = .ok (.iload_n 1, 1) := by decide +kernel
theorem dX2_isBetween_2 : decode cX2_isBetween 2 = .ok (.if_icmp .lt 12, 3) := by decide +kernel
theorem dX2_isBetween_5 : decode cX2_isBetween 5 = .ok (.iload_n 0, 1) := by decide +kernel
theorem dX2_isBetween_6 : decode cX2_isBetween 6 = .ok (.iload_n 2, 1) := by decide +kernel
theorem dX2_isBetween_7 : decode cX2_isBetween 7 = .ok (.if_icmp .gt 7, 3) := by decide +kernel
theorem dX2_isBetween_10 : decode cX2_isBetween 10 = .ok (.iconst 1, 1) := by decide +kernel
theorem dX2_isBetween_11 : decode cX2_isBetween 11 = .ok (.goto 4, 3) := by decide +kernel
theorem dX2_isBetween_14 : decode cX2_isBetween 14 = .ok (.iconst 0, 1) := by decide +kernel
theorem dX2_isBetween_15 : decode cX2_isBetween 15 = .ok (.ireturn, 1) := by decide +kernel
set_option maxRecDepth 20000 in
theorem ggX2_isPlace_X2_isBetween : GoodIn wsX2_isPlace wsX2_isBetween := goodIn_r _ [4] (by decide +kernel) (by decide +kernel)
set_option maxRecDepth 20000 in
theorem gX2_isPlace_X2_isBetween : GoodIn wsX2_isPlace (va_wsS RX2 68 yX2_isBetween wsX2_isBetween) := goodIn_app (goodIn_of _ (by decide +kernel)) ggX2_isPlace_X2_isBetween
theorem dX2_isPlace_0 : decode cX2_isPlace 0 = .ok (.iload_n 0, 1) := by decide +kernel
theorem dX2_isPlace_1 : decode cX2_isPlace 1 = .ok (.iconst 0, 1) := by decide +kernel
theorem dX2_isPlace_2 : decode cX2_isPlace 2 = .ok (.bipush 15, 2) := by decide +kernel
theorem dX2_isPlace_4 : decode cX2_isPlace 4 = .ok (.invokestatic 68, 3) := by decide +kernel
theorem dX2_isPlace_7 : decode cX2_isPlace 7 = .ok (.ireturn, 1) := by decide +kernel
set_option maxRecDepth 20000 in
theorem ggX2_requirePlace_X2_isPlace : GoodIn wsX2_requirePlace wsX2_isPlace := goodIn_r _ [6, 7, 8, 5, 9] (by decide +kernel) (by decide +kernel)
set_option maxRecDepth 20000 in
theorem gX2_requirePlace_X2_isPlace : GoodIn wsX2_requirePlace (va_wsS RX2 204 yX2_isPlace wsX2_isPlace) := goodIn_app (goodIn_of _ (by decide +kernel)) ggX2_requirePlace_X2_isPlace
theorem dX2_requirePlace_0 : decode cX2_requirePlace 0 = .ok (.iload_n 0, 1) := by decide +kernel
theorem dX2_requirePlace_1 : decode cX2_requirePlace 1 = .ok (.invokestatic 204, 3) := by decide +kernel
theorem dX2_requirePlace_4 : decode cX2_requirePlace 4 = .ok (.ifCond .ne 13, 3) := by decide +kernel
theorem dX2_requirePlace_7 : decode cX2_requirePlace 7 = .ok (.new 171, 3) := by decide +kernel
theorem dX2_requirePlace_10 : decode cX2_requirePlace 10 = .ok (.dup, 1) := by decide +kernel
theorem dX2_requirePlace_11 : decode cX2_requirePlace 11 = .ok (.ldc 207, 2) := by decide +kernel
theorem dX2_requirePlace_13 : decode cX2_requirePlace 13 = .ok (.invokespecial 175, 3) := by decide +kernel
theorem dX2_requirePlace_16 : decode cX2_requirePlace 16 = .ok (.athrow, 1) := by decide +kernel
theorem dX2_requirePlace_17 : decode cX2_requirePlace 17 = .ok (.return_, 1) := by decide +kernel
set_option maxRecDepth 20000 in
theorem ggX2_requireCrane_Jx4a65c_size_8abf5 : GoodIn wsX2_requireCrane wsJx4a65c_size_8abf5 := goodIn_r _ [8, 9, 18, 19, 20] (by decide +kernel) (by decide +kernel)
set_option maxRecDepth 20000 in
theorem gX2_requireCrane_Jx4a65c_size_8abf5 : GoodIn wsX2_requireCrane (wsV RX2 32 RJx4a65c yJx4a65c_size_8abf5 wsJx4a65c_size_8abf5) := goodIn_app (goodIn_of _ (by decide +kernel)) ggX2_requireCrane_Jx4a65c_size_8abf5
set_option maxRecDepth 20000 in
theorem ggX2_requireCrane_X2_isBetween : GoodIn wsX2_requireCrane wsX2_isBetween := goodIn_r _ [13] (by decide +kernel) (by decide +kernel)
set_option maxRecDepth 20000 in
theorem gX2_requireCrane_X2_isBetween : GoodIn wsX2_requireCrane (va_wsS RX2 68 yX2_isBetween wsX2_isBetween) := goodIn_app (goodIn_of _ (by decide +kernel)) ggX2_requireCrane_X2_isBetween
theorem dX2_requireCrane_0 : decode cX2_requireCrane 0 = .ok (.iload_n 1, 1) := by decide +kernel
theorem dX2_requireCrane_1 : decode cX2_requireCrane 1 = .ok (.iconst 0, 1) := by decide +kernel
theorem dX2_requireCrane_2 : decode cX2_requireCrane 2 = .ok (.aload_n 0, 1) := by decide +kernel
theorem dX2_requireCrane_3 : decode cX2_requireCrane 3 = .ok (.getfield 22, 3) := by decide +kernel
theorem dX2_requireCrane_6 : decode cX2_requireCrane 6 = .ok (.invokevirtual 32, 3) := by decide +kernel
theorem dX2_requireCrane_9 : decode cX2_requireCrane 9 = .ok (.iconst 1, 1) := by decide +kernel
theorem dX2_requireCrane_10 : decode cX2_requireCrane 10 = .ok (.isub, 1) := by decide +kernel
theorem dX2_requireCrane_11 : decode cX2_requireCrane 11 = .ok (.invokestatic 68, 3) := by decide +kernel
theorem dX2_requireCrane_14 : decode cX2_requireCrane 14 = .ok (.ifCond .ne 13, 3) := by decide +kernel
theorem dX2_requireCrane_17 : decode cX2_requireCrane 17 = .ok (.new 171, 3) := by decide +kernel
theorem dX2_requireCrane_20 : decode cX2_requireCrane 20 = .ok (.dup, 1) := by decide +kernel
theorem dX2_requireCrane_21 : decode cX2_requireCrane 21 = .ok (.ldc 209, 2) := by decide +kernel
theorem dX2_requireCrane_23 : decode cX2_requireCrane 23 = .ok (.invokespecial 175, 3) := by decide +kernel
theorem dX2_requireCrane_26 : decode cX2_requireCrane 26 = .ok (.athrow, 1) := by decide +kernel
theorem dX2_requireCrane_27 : decode cX2_requireCrane 27 = .ok (.return_, 1) := by decide +kernel
set_option maxRecDepth 20000 in
theorem ggX2_requireAnswer_X2_isBetween : GoodIn wsX2_requireAnswer wsX2_isBetween := goodIn_r _ [6] (by decide +kernel) (by decide +kernel)
set_option maxRecDepth 20000 in
theorem gX2_requireAnswer_X2_isBetween : GoodIn wsX2_requireAnswer (va_wsS RX2 68 yX2_isBetween wsX2_isBetween) := goodIn_app (goodIn_of _ (by decide +kernel)) ggX2_requireAnswer_X2_isBetween
theorem dX2_requireAnswer_0 : decode cX2_requireAnswer 0 = .ok (.iload_n 0, 1) := by decide +kernel
theorem dX2_requireAnswer_1 : decode cX2_requireAnswer 1 = .ok (.iconst 0, 1) := by decide +kernel
theorem dX2_requireAnswer_2 : decode cX2_requireAnswer 2 = .ok (.iload_n 1, 1) := by decide +kernel
theorem dX2_requireAnswer_3 : decode cX2_requireAnswer 3 = .ok (.iconst 1, 1) := by decide +kernel
theorem dX2_requireAnswer_4 : decode cX2_requireAnswer 4 = .ok (.isub, 1) := by decide +kernel
theorem dX2_requireAnswer_5 : decode cX2_requireAnswer 5 = .ok (.invokestatic 68, 3) := by decide +kernel
theorem dX2_requireAnswer_8 : decode cX2_requireAnswer 8 = .ok (.ifCond .ne 13, 3) := by decide +kernel
theorem dX2_requireAnswer_11 : decode cX2_requireAnswer 11 = .ok (.new 171, 3) := by decide +kernel
theorem dX2_requireAnswer_14 : decode cX2_requireAnswer 14 = .ok (.dup, 1) := by decide +kernel
theorem dX2_requireAnswer_15 : decode cX2_requireAnswer 15 = .ok (.ldc 211, 2) := by decide +kernel
theorem dX2_requireAnswer_17 : decode cX2_requireAnswer 17 = .ok (.invokespecial 175, 3) := by decide +kernel
theorem dX2_requireAnswer_20 : decode cX2_requireAnswer 20 = .ok (.athrow, 1) := by decide +kernel
theorem dX2_requireAnswer_21 : decode cX2_requireAnswer 21 = .ok (.return_, 1) := by decide +kernel
set_option maxRecDepth 20000 in
theorem ggX2_requireWeight_X2_isBetween : GoodIn wsX2_requireWeight wsX2_isBetween := goodIn_r _ [6] (by decide +kernel) (by decide +kernel)
set_option maxRecDepth 20000 in
theorem gX2_requireWeight_X2_isBetween : GoodIn wsX2_requireWeight (va_wsS RX2 68 yX2_isBetween wsX2_isBetween) := goodIn_app (goodIn_of _ (by decide +kernel)) ggX2_requireWeight_X2_isBetween
theorem dX2_requireWeight_0 : decode cX2_requireWeight 0 = .ok (.iload_n 0, 1) := by decide +kernel
theorem dX2_requireWeight_1 : decode cX2_requireWeight 1 = .ok (.iconst 1, 1) := by decide +kernel
theorem dX2_requireWeight_2 : decode cX2_requireWeight 2 = .ok (.bipush 60, 2) := by decide +kernel
theorem dX2_requireWeight_4 : decode cX2_requireWeight 4 = .ok (.invokestatic 68, 3) := by decide +kernel
theorem dX2_requireWeight_7 : decode cX2_requireWeight 7 = .ok (.ifCond .ne 13, 3) := by decide +kernel
theorem dX2_requireWeight_10 : decode cX2_requireWeight 10 = .ok (.new 71, 3) := by decide +kernel
theorem dX2_requireWeight_13 : decode cX2_requireWeight 13 = .ok (.dup, 1) := by decide +kernel
theorem dX2_requireWeight_14 : decode cX2_requireWeight 14 = .ok (.ldc 213, 2) := by decide +kernel
theorem dX2_requireWeight_16 : decode cX2_requireWeight 16 = .ok (.invokespecial 75, 3) := by decide +kernel
theorem dX2_requireWeight_19 : decode cX2_requireWeight 19 = .ok (.athrow, 1) := by decide +kernel
theorem dX2_requireWeight_20 : decode cX2_requireWeight 20 = .ok (.return_, 1) := by decide +kernel
set_option maxRecDepth 20000 in
theorem ggX2_requireWalkers_X2_isBetween : GoodIn wsX2_requireWalkers wsX2_isBetween := goodIn_r _ [6] (by decide +kernel) (by decide +kernel)
set_option maxRecDepth 20000 in
theorem gX2_requireWalkers_X2_isBetween : GoodIn wsX2_requireWalkers (va_wsS RX2 68 yX2_isBetween wsX2_isBetween) := goodIn_app (goodIn_of _ (by decide +kernel)) ggX2_requireWalkers_X2_isBetween
theorem dX2_requireWalkers_0 : decode cX2_requireWalkers 0 = .ok (.iload_n 0, 1) := by decide +kernel
theorem dX2_requireWalkers_1 : decode cX2_requireWalkers 1 = .ok (.iconst 0, 1) := by decide +kernel
theorem dX2_requireWalkers_2 : decode cX2_requireWalkers 2 = .ok (.bipush 8, 2) := by decide +kernel
theorem dX2_requireWalkers_4 : decode cX2_requireWalkers 4 = .ok (.invokestatic 68, 3) := by decide +kernel
theorem dX2_requireWalkers_7 : decode cX2_requireWalkers 7 = .ok (.ifCond .ne 13, 3) := by decide +kernel
theorem dX2_requireWalkers_10 : decode cX2_requireWalkers 10 = .ok (.new 71, 3) := by decide +kernel
theorem dX2_requireWalkers_13 : decode cX2_requireWalkers 13 = .ok (.dup, 1) := by decide +kernel
theorem dX2_requireWalkers_14 : decode cX2_requireWalkers 14 = .ok (.ldc 215, 2) := by decide +kernel
theorem dX2_requireWalkers_16 : decode cX2_requireWalkers 16 = .ok (.invokespecial 75, 3) := by decide +kernel
theorem dX2_requireWalkers_19 : decode cX2_requireWalkers 19 = .ok (.athrow, 1) := by decide +kernel
theorem dX2_requireWalkers_20 : decode cX2_requireWalkers 20 = .ok (.return_, 1) := by decide +kernel
theorem dX2_distance_0 : decode cX2_distance 0 = .ok (.iload_n 0, 1) := by decide +kernel
theorem dX2_distance_1 : decode cX2_distance 1 = .ok (.iload_n 1, 1) := by decide +kernel
theorem dX2_distance_2 : decode cX2_distance 2 = .ok (.isub, 1) := by decide +kernel
theorem dX2_distance_3 : decode cX2_distance 3 = .ok (.invokestatic 217, 3) := by decide +kernel
theorem dX2_distance_6 : decode cX2_distance 6 = .ok (.ireturn, 1) := by decide +kernel
set_option maxRecDepth 20000 in
theorem ggX2_uppermostAt_X2_isPlace : GoodIn wsX2_uppermostAt wsX2_isPlace := goodIn_r _ [5, 6, 7, 4, 8] (by decide +kernel) (by decide +kernel)
set_option maxRecDepth 20000 in
theorem gX2_uppermostAt_X2_isPlace : GoodIn wsX2_uppermostAt (va_wsS RX2 204 yX2_isPlace wsX2_isPlace) := goodIn_app (goodIn_of _ (by decide +kernel)) ggX2_uppermostAt_X2_isPlace
theorem dX2_uppermostAt_0 : decode cX2_uppermostAt 0 = .ok (.iload_n 1, 1) := by decide +kernel
theorem dX2_uppermostAt_1 : decode cX2_uppermostAt 1 = .ok (.invokestatic 204, 3) := by decide +kernel
theorem dX2_uppermostAt_4 : decode cX2_uppermostAt 4 = .ok (.ifCond .eq 12, 3) := by decide +kernel
theorem dX2_uppermostAt_7 : decode cX2_uppermostAt 7 = .ok (.aload_n 0, 1) := by decide +kernel
theorem dX2_uppermostAt_8 : decode cX2_uppermostAt 8 = .ok (.getfield 11, 3) := by decide +kernel
theorem dX2_uppermostAt_11 : decode cX2_uppermostAt 11 = .ok (.iload_n 1, 1) := by decide +kernel
theorem dX2_uppermostAt_12 : decode cX2_uppermostAt 12 = .ok (.aaload, 1) := by decide +kernel
theorem dX2_uppermostAt_13 : decode cX2_uppermostAt 13 = .ok (.goto 4, 3) := by decide +kernel
theorem dX2_uppermostAt_16 : decode cX2_uppermostAt 16 = .ok (.aconst_null, 1) := by decide +kernel
theorem dX2_uppermostAt_17 : decode cX2_uppermostAt 17 = .ok (.areturn, 1) := by decide +kernel
set_option maxRecDepth 20000 in
theorem ggX2_heightOf_X2_uppermostAt : GoodIn wsX2_heightOf wsX2_uppermostAt := goodIn_r _ [6, 7, 8, 9, 5, 10, 11, 12, 13, 21, 22, 23, 24] (by decide +kernel) (by decide +kernel)
set_option maxRecDepth 20000 in
theorem gX2_heightOf_X2_uppermostAt : GoodIn wsX2_heightOf (wsV RX2 149 RX2 yX2_uppermostAt wsX2_uppermostAt) := goodIn_app (goodIn_of _ (by decide +kernel)) ggX2_heightOf_X2_uppermostAt
theorem dX2_heightOf_0 : decode cX2_heightOf 0 = .ok (.aload_n 0, 1) := by decide +kernel
theorem dX2_heightOf_1 : decode cX2_heightOf 1 = .ok (.iload_n 1, 1) := by decide +kernel
theorem dX2_heightOf_2 : decode cX2_heightOf 2 = .ok (.invokevirtual 149, 3) := by decide +kernel
theorem dX2_heightOf_5 : decode cX2_heightOf 5 = .ok (.astore_n 2, 1) := by decide +kernel
theorem dX2_heightOf_6 : decode cX2_heightOf 6 = .ok (.aload_n 2, 1) := by decide +kernel
theorem dX2_heightOf_7 : decode cX2_heightOf 7 = .ok (.ifnonnull 7, 3) := by decide +kernel
theorem dX2_heightOf_10 : decode cX2_heightOf 10 = .ok (.iconst 0, 1) := by decide +kernel
theorem dX2_heightOf_11 : decode cX2_heightOf 11 = .ok (.goto 9, 3) := by decide +kernel
theorem dX2_heightOf_14 : decode cX2_heightOf 14 = .ok (.aload_n 2, 1) := by decide +kernel
theorem dX2_heightOf_15 : decode cX2_heightOf 15 = .ok (.getfield 222, 3) := by decide +kernel
theorem dX2_heightOf_18 : decode cX2_heightOf 18 = .ok (.iconst 1, 1) := by decide +kernel
theorem dX2_heightOf_19 : decode cX2_heightOf 19 = .ok (.iadd, 1) := by decide +kernel
theorem dX2_heightOf_20 : decode cX2_heightOf 20 = .ok (.ireturn, 1) := by decide +kernel
set_option maxRecDepth 20000 in
theorem ggX2_highestBetween_X2_isBetween : GoodIn wsX2_highestBetween wsX2_isBetween := goodIn_r _ [11] (by decide +kernel) (by decide +kernel)
set_option maxRecDepth 20000 in
theorem gX2_highestBetween_X2_isBetween : GoodIn wsX2_highestBetween (va_wsS RX2 68 yX2_isBetween wsX2_isBetween) := goodIn_app (goodIn_of _ (by decide +kernel)) ggX2_highestBetween_X2_isBetween
set_option maxRecDepth 20000 in
theorem ggX2_highestBetween_X2_heightOf : GoodIn wsX2_highestBetween wsX2_heightOf := goodIn_r _ [15, 16, 17, 18, 19, 10, 20, 21, 22, 23, 24, 8, 9, 11, 25, 26, 27, 28, 29, 30, 31, 32, 33, 34, 35] (by decide +kernel) (by decide +kernel)
set_option maxRecDepth 20000 in
theorem gX2_highestBetween_X2_heightOf : GoodIn wsX2_highestBetween (wsV RX2 36 RX2 yX2_heightOf wsX2_heightOf) := goodIn_app (goodIn_of _ (by decide +kernel)) ggX2_highestBetween_X2_heightOf
theorem dX2_highestBetween_0 : decode cX2_highestBetween 0 = .ok (.iconst 0, 1) := by decide +kernel
theorem dX2_highestBetween_1 : decode cX2_highestBetween 1 = .ok (.istore_n 3, 1) := by decide +kernel
theorem dX2_highestBetween_2 : decode cX2_highestBetween 2 = .ok (.iconst 0, 1) := by decide +kernel
theorem dX2_highestBetween_3 : decode cX2_highestBetween 3 = .ok (.istore 4, 2) := by decide +kernel
theorem dX2_highestBetween_5 : decode cX2_highestBetween 5 = .ok (.iload 4, 2) := by decide +kernel
theorem dX2_highestBetween_7 : decode cX2_highestBetween 7 = .ok (.bipush 16, 2) := by decide +kernel
theorem dX2_highestBetween_9 : decode cX2_highestBetween 9 = .ok (.if_icmp .ge 38, 3) := by decide +kernel
theorem dX2_highestBetween_12 : decode cX2_highestBetween 12 = .ok (.iload 4, 2) := by decide +kernel
theorem dX2_highestBetween_14 : decode cX2_highestBetween 14 = .ok (.iload_n 1, 1) := by decide +kernel
theorem dX2_highestBetween_15 : decode cX2_highestBetween 15 = .ok (.iload_n 2, 1) := by decide +kernel
theorem dX2_highestBetween_16 : decode cX2_highestBetween 16 = .ok (.invokestatic 225, 3) := by decide +kernel
theorem dX2_highestBetween_19 : decode cX2_highestBetween 19 = .ok (.iload_n 1, 1) := by decide +kernel
theorem dX2_highestBetween_20 : decode cX2_highestBetween 20 = .ok (.iload_n 2, 1) := by decide +kernel
theorem dX2_highestBetween_21 : decode cX2_highestBetween 21 = .ok (.invokestatic 228, 3) := by decide +kernel
theorem dX2_highestBetween_24 : decode cX2_highestBetween 24 = .ok (.invokestatic 68, 3) := by decide +kernel
theorem dX2_highestBetween_27 : decode cX2_highestBetween 27 = .ok (.ifCond .eq 14, 3) := by decide +kernel
theorem dX2_highestBetween_30 : decode cX2_highestBetween 30 = .ok (.iload_n 3, 1) := by decide +kernel
theorem dX2_highestBetween_31 : decode cX2_highestBetween 31 = .ok (.aload_n 0, 1) := by decide +kernel
theorem dX2_highestBetween_32 : decode cX2_highestBetween 32 = .ok (.iload 4, 2) := by decide +kernel
theorem dX2_highestBetween_34 : decode cX2_highestBetween 34 = .ok (.invokevirtual 36, 3) := by decide +kernel
theorem dX2_highestBetween_37 : decode cX2_highestBetween 37 = .ok (.invokestatic 228, 3) := by decide +kernel
theorem dX2_highestBetween_40 : decode cX2_highestBetween 40 = .ok (.istore_n 3, 1) := by decide +kernel
theorem dX2_highestBetween_41 : decode cX2_highestBetween 41 = .ok (.iinc 4 1, 3) := by decide +kernel
theorem dX2_highestBetween_44 : decode cX2_highestBetween 44 = .ok (.goto (-39), 3) := by decide +kernel
theorem dX2_highestBetween_47 : decode cX2_highestBetween 47 = .ok (.iload_n 3, 1) := by decide +kernel
theorem dX2_highestBetween_48 : decode cX2_highestBetween 48 = .ok (.ireturn, 1) := by decide +kernel
set_option maxRecDepth 20000 in
theorem ggX2_putUpon_X2_isPlace : GoodIn wsX2_putUpon wsX2_isPlace := goodIn_r _ [8, 9, 10, 7, 11] (by decide +kernel) (by decide +kernel)
set_option maxRecDepth 20000 in
theorem gX2_putUpon_X2_isPlace : GoodIn wsX2_putUpon (va_wsS RX2 204 yX2_isPlace wsX2_isPlace) := goodIn_app (goodIn_of _ (by decide +kernel)) ggX2_putUpon_X2_isPlace
set_option maxRecDepth 20000 in
theorem ggX2_putUpon_X2_heightOf : GoodIn wsX2_putUpon wsX2_heightOf := goodIn_r _ [15, 2, 16, 17, 18, 7, 19, 3, 5, 6, 8, 9, 10, 11, 20, 21, 22, 23, 24, 25, 26, 27, 28, 29, 30] (by decide +kernel) (by decide +kernel)
set_option maxRecDepth 20000 in
theorem gX2_putUpon_X2_heightOf : GoodIn wsX2_putUpon (wsV RX2 36 RX2 yX2_heightOf wsX2_heightOf) := goodIn_app (goodIn_of _ (by decide +kernel)) ggX2_putUpon_X2_heightOf
theorem dX2_putUpon_0 : decode cX2_putUpon 0 = .ok (.iload_n 1, 1) := by decide +kernel
theorem dX2_putUpon_1 : decode cX2_putUpon 1 = .ok (.invokestatic 204, 3) := by decide +kernel
theorem dX2_putUpon_4 : decode cX2_putUpon 4 = .ok (.ifCond .eq 34, 3) := by decide +kernel
theorem dX2_putUpon_7 : decode cX2_putUpon 7 = .ok (.aload_n 2, 1) := by decide +kernel
theorem dX2_putUpon_8 : decode cX2_putUpon 8 = .ok (.iload_n 1, 1) := by decide +kernel
theorem dX2_putUpon_9 : decode cX2_putUpon 9 = .ok (.putfield 193, 3) := by decide +kernel
theorem dX2_putUpon_12 : decode cX2_putUpon 12 = .ok (.aload_n 2, 1) := by decide +kernel
theorem dX2_putUpon_13 : decode cX2_putUpon 13 = .ok (.aload_n 0, 1) := by decide +kernel
theorem dX2_putUpon_14 : decode cX2_putUpon 14 = .ok (.iload_n 1, 1) := by decide +kernel
theorem dX2_putUpon_15 : decode cX2_putUpon 15 = .ok (.invokevirtual 36, 3) := by decide +kernel
theorem dX2_putUpon_18 : decode cX2_putUpon 18 = .ok (.putfield 222, 3) := by decide +kernel
theorem dX2_putUpon_21 : decode cX2_putUpon 21 = .ok (.aload_n 2, 1) := by decide +kernel
theorem dX2_putUpon_22 : decode cX2_putUpon 22 = .ok (.aload_n 0, 1) := by decide +kernel
theorem dX2_putUpon_23 : decode cX2_putUpon 23 = .ok (.getfield 11, 3) := by decide +kernel
theorem dX2_putUpon_26 : decode cX2_putUpon 26 = .ok (.iload_n 1, 1) := by decide +kernel
theorem dX2_putUpon_27 : decode cX2_putUpon 27 = .ok (.aaload, 1) := by decide +kernel
theorem dX2_putUpon_28 : decode cX2_putUpon 28 = .ok (.putfield 231, 3) := by decide +kernel
theorem dX2_putUpon_31 : decode cX2_putUpon 31 = .ok (.aload_n 0, 1) := by decide +kernel
theorem dX2_putUpon_32 : decode cX2_putUpon 32 = .ok (.getfield 11, 3) := by decide +kernel
theorem dX2_putUpon_35 : decode cX2_putUpon 35 = .ok (.iload_n 1, 1) := by decide +kernel
theorem dX2_putUpon_36 : decode cX2_putUpon 36 = .ok (.aload_n 2, 1) := by decide +kernel
theorem dX2_putUpon_37 : decode cX2_putUpon 37 = .ok (.aastore, 1) := by decide +kernel
theorem dX2_putUpon_38 : decode cX2_putUpon 38 = .ok (.return_, 1) := by decide +kernel
set_option maxRecDepth 20000 in
theorem ggX2_removeUppermost_X2_uppermostAt : GoodIn wsX2_removeUppermost wsX2_uppermostAt := goodIn_r _ [8, 1, 9, 10, 7, 11, 12, 13, 14, 15, 16, 17, 18] (by decide +kernel) (by decide +kernel)
set_option maxRecDepth 20000 in
theorem gX2_removeUppermost_X2_uppermostAt : GoodIn wsX2_removeUppermost (wsV RX2 149 RX2 yX2_uppermostAt wsX2_uppermostAt) := goodIn_app (goodIn_of _ (by decide +kernel)) ggX2_removeUppermost_X2_uppermostAt
set_option maxRecDepth 20000 in
theorem ggX2_removeUppermost_X2_isPlace : GoodIn wsX2_removeUppermost wsX2_isPlace := goodIn_r _ [11, 12, 13, 7, 14] (by decide +kernel) (by decide +kernel)
set_option maxRecDepth 20000 in
theorem gX2_removeUppermost_X2_isPlace : GoodIn wsX2_removeUppermost (va_wsS RX2 204 yX2_isPlace wsX2_isPlace) := goodIn_app (goodIn_of _ (by decide +kernel)) ggX2_removeUppermost_X2_isPlace
theorem dX2_removeUppermost_0 : decode cX2_removeUppermost 0 = .ok (.aload_n 0, 1) := by decide +kernel
theorem dX2_removeUppermost_1 : decode cX2_removeUppermost 1 = .ok (.iload_n 1, 1) := by decide +kernel
theorem dX2_removeUppermost_2 : decode cX2_removeUppermost 2 = .ok (.invokevirtual 149, 3) := by decide +kernel
theorem dX2_removeUppermost_5 : decode cX2_removeUppermost 5 = .ok (.astore_n 2, 1) := by decide +kernel
theorem dX2_removeUppermost_6 : decode cX2_removeUppermost 6 = .ok (.aload_n 2, 1) := by decide +kernel
theorem dX2_removeUppermost_7 : decode cX2_removeUppermost 7 = .ok (.ifnull 25, 3) := by decide +kernel
theorem dX2_removeUppermost_10 : decode cX2_removeUppermost 10 = .ok (.iload_n 1, 1) := by decide +kernel
theorem dX2_removeUppermost_11 : decode cX2_removeUppermost 11 = .ok (.invokestatic 204, 3) := by decide +kernel
theorem dX2_removeUppermost_14 : decode cX2_removeUppermost 14 = .ok (.ifCond .eq 18, 3) := by decide +kernel
theorem dX2_removeUppermost_17 : decode cX2_removeUppermost 17 = .ok (.aload_n 0, 1) := by decide +kernel
theorem dX2_removeUppermost_18 : decode cX2_removeUppermost 18 = .ok (.getfield 11, 3) := by decide +kernel
theorem dX2_removeUppermost_21 : decode cX2_removeUppermost 21 = .ok (.iload_n 1, 1) := by decide +kernel
theorem dX2_removeUppermost_22 : decode cX2_removeUppermost 22 = .ok (.aload_n 2, 1) := by decide +kernel
theorem dX2_removeUppermost_23 : decode cX2_removeUppermost 23 = .ok (.getfield 231, 3) := by decide +kernel
theorem dX2_removeUppermost_26 : decode cX2_removeUppermost 26 = .ok (.aastore, 1) := by decide +kernel
theorem dX2_removeUppermost_27 : decode cX2_removeUppermost 27 = .ok (.aload_n 2, 1) := by decide +kernel
theorem dX2_removeUppermost_28 : decode cX2_removeUppermost 28 = .ok (.iconst (-1), 1) := by decide +kernel
theorem dX2_removeUppermost_29 : decode cX2_removeUppermost 29 = .ok (.putfield 193, 3) := by decide +kernel
theorem dX2_removeUppermost_32 : decode cX2_removeUppermost 32 = .ok (.return_, 1) := by decide +kernel
set_option maxRecDepth 20000 in
theorem ggX2_hooksAllow_Jx4a65c_size_8abf5 : GoodIn wsX2_hooksAllow wsJx4a65c_size_8abf5 := goodIn_r _ [9, 10, 46, 47, 48] (by decide +kernel) (by decide +kernel)
set_option maxRecDepth 20000 in
theorem gX2_hooksAllow_Jx4a65c_size_8abf5 : GoodIn wsX2_hooksAllow (wsV RX2 32 RJx4a65c yJx4a65c_size_8abf5 wsJx4a65c_size_8abf5) := goodIn_app (goodIn_of _ (by decide +kernel)) ggX2_hooksAllow_Jx4a65c_size_8abf5
set_option maxRecDepth 20000 in
theorem ggX2_hooksAllow_Jx4a65c_get_915e3 : GoodIn wsX2_hooksAllow wsJx4a65c_get_915e3 := goodIn_r _ [14, 10, 15, 16, 17, 18, 19, 20, 21, 22, 23, 24, 25, 8, 26, 27, 46, 47, 48] (by decide +kernel) (by decide +kernel)
set_option maxRecDepth 20000 in
theorem gX2_hooksAllow_Jx4a65c_get_915e3 : GoodIn wsX2_hooksAllow (wsV RX2 89 RJx4a65c yJx4a65c_get_915e3 wsJx4a65c_get_915e3) := goodIn_app (goodIn_of _ (by decide +kernel)) ggX2_hooksAllow_Jx4a65c_get_915e3
set_option maxRecDepth 20000 in
theorem ggX2_hooksAllow_X1_lowestHook : GoodIn wsX2_hooksAllow wsX1_lowestHook := goodIn_r _ [32, 33, 38, 39, 40, 41, 42, 43, 44, 45] (by decide +kernel) (by decide +kernel)
set_option maxRecDepth 20000 in
theorem gX2_hooksAllow_X1_lowestHook : GoodIn wsX2_hooksAllow (wsV RX2 115 RX1 yX1_lowestHook wsX1_lowestHook) := goodIn_app (goodIn_of _ (by decide +kernel)) ggX2_hooksAllow_X1_lowestHook
theorem dX2_hooksAllow_0 : decode cX2_hooksAllow 0 = .ok (.iconst 0, 1) := by decide +kernel
theorem dX2_hooksAllow_1 : decode cX2_hooksAllow 1 = .ok (.istore 4, 2) := by decide +kernel
theorem dX2_hooksAllow_3 : decode cX2_hooksAllow 3 = .ok (.iload 4, 2) := by decide +kernel
theorem dX2_hooksAllow_5 : decode cX2_hooksAllow 5 = .ok (.aload_n 0, 1) := by decide +kernel
theorem dX2_hooksAllow_6 : decode cX2_hooksAllow 6 = .ok (.getfield 22, 3) := by decide +kernel
theorem dX2_hooksAllow_9 : decode cX2_hooksAllow 9 = .ok (.invokevirtual 32, 3) := by decide +kernel
theorem dX2_hooksAllow_12 : decode cX2_hooksAllow 12 = .ok (.if_icmp .ge 54, 3) := by decide +kernel
theorem dX2_hooksAllow_15 : decode cX2_hooksAllow 15 = .ok (.aload_n 0, 1) := by decide +kernel
theorem dX2_hooksAllow_16 : decode cX2_hooksAllow 16 = .ok (.getfield 22, 3) := by decide +kernel
theorem dX2_hooksAllow_19 : decode cX2_hooksAllow 19 = .ok (.iload 4, 2) := by decide +kernel
theorem dX2_hooksAllow_21 : decode cX2_hooksAllow 21 = .ok (.invokevirtual 89, 3) := by decide +kernel
theorem dX2_hooksAllow_24 : decode cX2_hooksAllow 24 = .ok (.checkcast 81, 3) := by decide +kernel
theorem dX2_hooksAllow_27 : decode cX2_hooksAllow 27 = .ok (.astore 5, 2) := by decide +kernel
theorem dX2_hooksAllow_29 : decode cX2_hooksAllow 29 = .ok (.iload 4, 2) := by decide +kernel
theorem dX2_hooksAllow_31 : decode cX2_hooksAllow 31 = .ok (.iload_n 3, 1) := by decide +kernel
theorem dX2_hooksAllow_32 : decode cX2_hooksAllow 32 = .ok (.if_icmp .eq 28, 3) := by decide +kernel
theorem dX2_hooksAllow_35 : decode cX2_hooksAllow 35 = .ok (.aload 5, 2) := by decide +kernel
theorem dX2_hooksAllow_37 : decode cX2_hooksAllow 37 = .ok (.getfield 108, 3) := by decide +kernel
theorem dX2_hooksAllow_40 : decode cX2_hooksAllow 40 = .ok (.iload_n 1, 1) := by decide +kernel
theorem dX2_hooksAllow_41 : decode cX2_hooksAllow 41 = .ok (.if_icmp .ne 19, 3) := by decide +kernel
theorem dX2_hooksAllow_44 : decode cX2_hooksAllow 44 = .ok (.aload 5, 2) := by decide +kernel
theorem dX2_hooksAllow_46 : decode cX2_hooksAllow 46 = .ok (.getfield 105, 3) := by decide +kernel
theorem dX2_hooksAllow_49 : decode cX2_hooksAllow 49 = .ok (.aload 5, 2) := by decide +kernel
theorem dX2_hooksAllow_51 : decode cX2_hooksAllow 51 = .ok (.iload_n 2, 1) := by decide +kernel
theorem dX2_hooksAllow_52 : decode cX2_hooksAllow 52 = .ok (.invokevirtual 115, 3) := by decide +kernel
theorem dX2_hooksAllow_55 : decode cX2_hooksAllow 55 = .ok (.if_icmp .ge 5, 3) := by decide +kernel
theorem dX2_hooksAllow_58 : decode cX2_hooksAllow 58 = .ok (.iconst 0, 1) := by decide +kernel
theorem dX2_hooksAllow_59 : decode cX2_hooksAllow 59 = .ok (.ireturn, 1) := by decide +kernel
theorem dX2_hooksAllow_60 : decode cX2_hooksAllow 60 = .ok (.iinc 4 1, 3) := by decide +kernel
theorem dX2_hooksAllow_63 : decode cX2_hooksAllow 63 = .ok (.goto (-60), 3) := by decide +kernel
theorem dX2_hooksAllow_66 : decode cX2_hooksAllow 66 = .ok (.iconst 1, 1) := by decide +kernel
theorem dX2_hooksAllow_67 : decode cX2_hooksAllow 67 = .ok (.ireturn, 1) := by decide +kernel
theorem dX2_wearInATick_0 : decode cX2_wearInATick 0 = .ok (.iload_n 0, 1) := by decide +kernel
theorem dX2_wearInATick_1 : decode cX2_wearInATick 1 = .ok (.bipush 20, 2) := by decide +kernel
theorem dX2_wearInATick_3 : decode cX2_wearInATick 3 = .ok (.idiv, 1) := by decide +kernel
theorem dX2_wearInATick_4 : decode cX2_wearInATick 4 = .ok (.iconst 1, 1) := by decide +kernel
theorem dX2_wearInATick_5 : decode cX2_wearInATick 5 = .ok (.iadd, 1) := by decide +kernel
theorem dX2_wearInATick_6 : decode cX2_wearInATick 6 = .ok (.ireturn, 1) := by decide +kernel
set_option maxRecDepth 20000 in
theorem ggX2_raiseHook_X1_ticksToWind : GoodIn wsX2_raiseHook wsX1_ticksToWind := goodIn_r _ [7, 8, 9, 10, 11, 12, 13, 14, 15, 16] (by decide +kernel) (by decide +kernel)
set_option maxRecDepth 20000 in
theorem gX2_raiseHook_X1_ticksToWind : GoodIn wsX2_raiseHook (wsV RX2 234 RX1 yX1_ticksToWind wsX1_ticksToWind) := goodIn_app (goodIn_of _ (by decide +kernel)) ggX2_raiseHook_X1_ticksToWind
theorem dX2_raiseHook_0 : decode cX2_raiseHook 0 = .ok (.aload_n 1, 1) := by decide +kernel
theorem dX2_raiseHook_1 : decode cX2_raiseHook 1 = .ok (.iload_n 2, 1) := by decide +kernel
theorem dX2_raiseHook_2 : decode cX2_raiseHook 2 = .ok (.aload_n 1, 1) := by decide +kernel
theorem dX2_raiseHook_3 : decode cX2_raiseHook 3 = .ok (.getfield 105, 3) := by decide +kernel
theorem dX2_raiseHook_6 : decode cX2_raiseHook 6 = .ok (.isub, 1) := by decide +kernel
theorem dX2_raiseHook_7 : decode cX2_raiseHook 7 = .ok (.invokevirtual 234, 3) := by decide +kernel
theorem dX2_raiseHook_10 : decode cX2_raiseHook 10 = .ok (.istore_n 3, 1) := by decide +kernel
theorem dX2_raiseHook_11 : decode cX2_raiseHook 11 = .ok (.aload_n 1, 1) := by decide +kernel
theorem dX2_raiseHook_12 : decode cX2_raiseHook 12 = .ok (.iload_n 2, 1) := by decide +kernel
theorem dX2_raiseHook_13 : decode cX2_raiseHook 13 = .ok (.putfield 105, 3) := by decide +kernel
theorem dX2_raiseHook_16 : decode cX2_raiseHook 16 = .ok (.aload_n 0, 1) := by decide +kernel
theorem dX2_raiseHook_17 : decode cX2_raiseHook 17 = .ok (.dup, 1) := by decide +kernel
theorem dX2_raiseHook_18 : decode cX2_raiseHook 18 = .ok (.getfield 123, 3) := by decide +kernel
theorem dX2_raiseHook_21 : decode cX2_raiseHook 21 = .ok (.iload_n 3, 1) := by decide +kernel
theorem dX2_raiseHook_22 : decode cX2_raiseHook 22 = .ok (.iadd, 1) := by decide +kernel
theorem dX2_raiseHook_23 : decode cX2_raiseHook 23 = .ok (.putfield 123, 3) := by decide +kernel
theorem dX2_raiseHook_26 : decode cX2_raiseHook 26 = .ok (.iload_n 3, 1) := by decide +kernel
theorem dX2_raiseHook_27 : decode cX2_raiseHook 27 = .ok (.ireturn, 1) := by decide +kernel
set_option maxRecDepth 20000 in
theorem ggX2_lowerHook_X1_ticksToWind : GoodIn wsX2_lowerHook wsX1_ticksToWind := goodIn_r _ [10, 11, 25, 26, 27, 28, 29, 30, 31, 32] (by decide +kernel) (by decide +kernel)
set_option maxRecDepth 20000 in
theorem gX2_lowerHook_X1_ticksToWind : GoodIn wsX2_lowerHook (wsV RX2 234 RX1 yX1_ticksToWind wsX1_ticksToWind) := goodIn_app (goodIn_of _ (by decide +kernel)) ggX2_lowerHook_X1_ticksToWind
set_option maxRecDepth 20000 in
theorem ggX2_lowerHook_X1_wornAfterLowering : GoodIn wsX2_lowerHook wsX1_wornAfterLowering := goodIn_r _ [15, 16, 17, 18, 19, 25, 26, 27, 28, 29, 30, 31, 32] (by decide +kernel) (by decide +kernel)
set_option maxRecDepth 20000 in
theorem gX2_lowerHook_X1_wornAfterLowering : GoodIn wsX2_lowerHook (wsV RX2 237 RX1 yX1_wornAfterLowering wsX1_wornAfterLowering) := goodIn_app (goodIn_of _ (by decide +kernel)) ggX2_lowerHook_X1_wornAfterLowering
set_option maxRecDepth 20000 in
theorem ggX2_lowerHook_X2_dropLoad : GoodIn wsX2_lowerHook wsX2_dropLoad := goodIn_r _ [22, 2, 23, 24, 4, 25, 26, 27, 28, 29, 30, 31, 32, 33, 34, 35, 36, 37, 38, 39] (by decide +kernel) (by decide +kernel)
set_option maxRecDepth 20000 in
theorem gX2_lowerHook_X2_dropLoad : GoodIn wsX2_lowerHook (va_wsS RX2 240 yX2_dropLoad wsX2_dropLoad) := goodIn_app (goodIn_of _ (by decide +kernel)) ggX2_lowerHook_X2_dropLoad
theorem dX2_lowerHook_0 : decode cX2_lowerHook 0 = .ok (.aload_n 1, 1) := by decide +kernel
theorem dX2_lowerHook_1 : decode cX2_lowerHook 1 = .ok (.aload_n 1, 1) := by decide +kernel
theorem dX2_lowerHook_2 : decode cX2_lowerHook 2 = .ok (.getfield 105, 3) := by decide +kernel
theorem dX2_lowerHook_5 : decode cX2_lowerHook 5 = .ok (.iload_n 2, 1) := by decide +kernel
theorem dX2_lowerHook_6 : decode cX2_lowerHook 6 = .ok (.isub, 1) := by decide +kernel
theorem dX2_lowerHook_7 : decode cX2_lowerHook 7 = .ok (.invokevirtual 234, 3) := by decide +kernel
theorem dX2_lowerHook_10 : decode cX2_lowerHook 10 = .ok (.istore_n 3, 1) := by decide +kernel
theorem dX2_lowerHook_11 : decode cX2_lowerHook 11 = .ok (.aload_n 1, 1) := by decide +kernel
theorem dX2_lowerHook_12 : decode cX2_lowerHook 12 = .ok (.getfield 130, 3) := by decide +kernel
theorem dX2_lowerHook_15 : decode cX2_lowerHook 15 = .ok (.astore 4, 2) := by decide +kernel
theorem dX2_lowerHook_17 : decode cX2_lowerHook 17 = .ok (.aload 4, 2) := by decide +kernel
theorem dX2_lowerHook_19 : decode cX2_lowerHook 19 = .ok (.ifnull 34, 3) := by decide +kernel
theorem dX2_lowerHook_22 : decode cX2_lowerHook 22 = .ok (.aload_n 1, 1) := by decide +kernel
theorem dX2_lowerHook_23 : decode cX2_lowerHook 23 = .ok (.aload 4, 2) := by decide +kernel
theorem dX2_lowerHook_25 : decode cX2_lowerHook 25 = .ok (.getfield 134, 3) := by decide +kernel
theorem dX2_lowerHook_28 : decode cX2_lowerHook 28 = .ok (.iload_n 3, 1) := by decide +kernel
theorem dX2_lowerHook_29 : decode cX2_lowerHook 29 = .ok (.invokevirtual 237, 3) := by decide +kernel
theorem dX2_lowerHook_32 : decode cX2_lowerHook 32 = .ok (.istore 5, 2) := by decide +kernel
theorem dX2_lowerHook_34 : decode cX2_lowerHook 34 = .ok (.iload 5, 2) := by decide +kernel
theorem dX2_lowerHook_36 : decode cX2_lowerHook 36 = .ok (.bipush 99, 2) := by decide +kernel
theorem dX2_lowerHook_38 : decode cX2_lowerHook 38 = .ok (.if_icmp .le 9, 3) := by decide +kernel
theorem dX2_lowerHook_41 : decode cX2_lowerHook 41 = .ok (.aload_n 1, 1) := by decide +kernel
theorem dX2_lowerHook_42 : decode cX2_lowerHook 42 = .ok (.invokestatic 240, 3) := by decide +kernel
theorem dX2_lowerHook_45 : decode cX2_lowerHook 45 = .ok (.iconst (-1), 1) := by decide +kernel
theorem dX2_lowerHook_46 : decode cX2_lowerHook 46 = .ok (.ireturn, 1) := by decide +kernel
theorem dX2_lowerHook_47 : decode cX2_lowerHook 47 = .ok (.aload_n 1, 1) := by decide +kernel
theorem dX2_lowerHook_48 : decode cX2_lowerHook 48 = .ok (.iload 5, 2) := by decide +kernel
theorem dX2_lowerHook_50 : decode cX2_lowerHook 50 = .ok (.putfield 96, 3) := by decide +kernel
theorem dX2_lowerHook_53 : decode cX2_lowerHook 53 = .ok (.aload_n 1, 1) := by decide +kernel
theorem dX2_lowerHook_54 : decode cX2_lowerHook 54 = .ok (.iload_n 2, 1) := by decide +kernel
theorem dX2_lowerHook_55 : decode cX2_lowerHook 55 = .ok (.putfield 105, 3) := by decide +kernel
theorem dX2_lowerHook_58 : decode cX2_lowerHook 58 = .ok (.aload_n 0, 1) := by decide +kernel
theorem dX2_lowerHook_59 : decode cX2_lowerHook 59 = .ok (.dup, 1) := by decide +kernel
theorem dX2_lowerHook_60 : decode cX2_lowerHook 60 = .ok (.getfield 123, 3) := by decide +kernel
theorem dX2_lowerHook_63 : decode cX2_lowerHook 63 = .ok (.iload_n 3, 1) := by decide +kernel
theorem dX2_lowerHook_64 : decode cX2_lowerHook 64 = .ok (.iadd, 1) := by decide +kernel
theorem dX2_lowerHook_65 : decode cX2_lowerHook 65 = .ok (.putfield 123, 3) := by decide +kernel
theorem dX2_lowerHook_68 : decode cX2_lowerHook 68 = .ok (.iload_n 3, 1) := by decide +kernel
theorem dX2_lowerHook_69 : decode cX2_lowerHook 69 = .ok (.ireturn, 1) := by decide +kernel
theorem dX2_dropLoad_0 : decode cX2_dropLoad 0 = .ok (.aload_n 0, 1) := by decide +kernel
theorem dX2_dropLoad_1 : decode cX2_dropLoad 1 = .ok (.getfield 130, 3) := by decide +kernel
theorem dX2_dropLoad_4 : decode cX2_dropLoad 4 = .ok (.astore_n 1, 1) := by decide +kernel
theorem dX2_dropLoad_5 : decode cX2_dropLoad 5 = .ok (.aload_n 1, 1) := by decide +kernel
theorem dX2_dropLoad_6 : decode cX2_dropLoad 6 = .ok (.ifnull 13, 3) := by decide +kernel
theorem dX2_dropLoad_9 : decode cX2_dropLoad 9 = .ok (.aload_n 1, 1) := by decide +kernel
theorem dX2_dropLoad_10 : decode cX2_dropLoad 10 = .ok (.iconst (-1), 1) := by decide +kernel
theorem dX2_dropLoad_11 : decode cX2_dropLoad 11 = .ok (.putfield 158, 3) := by decide +kernel
theorem dX2_dropLoad_14 : decode cX2_dropLoad 14 = .ok (.aload_n 1, 1) := by decide +kernel
theorem dX2_dropLoad_15 : decode cX2_dropLoad 15 = .ok (.iconst 1, 1) := by decide +kernel
theorem dX2_dropLoad_16 : decode cX2_dropLoad 16 = .ok (.putfield 196, 3) := by decide +kernel
theorem dX2_dropLoad_19 : decode cX2_dropLoad 19 = .ok (.aload_n 0, 1) := by decide +kernel
theorem dX2_dropLoad_20 : decode cX2_dropLoad 20 = .ok (.aconst_null, 1) := by decide +kernel
theorem dX2_dropLoad_21 : decode cX2_dropLoad 21 = .ok (.putfield 130, 3) := by decide +kernel
theorem dX2_dropLoad_24 : decode cX2_dropLoad 24 = .ok (.aload_n 0, 1) := by decide +kernel
theorem dX2_dropLoad_25 : decode cX2_dropLoad 25 = .ok (.bipush 99, 2) := by decide +kernel
theorem dX2_dropLoad_27 : decode cX2_dropLoad 27 = .ok (.putfield 96, 3) := by decide +kernel
theorem dX2_dropLoad_30 : decode cX2_dropLoad 30 = .ok (.return_, 1) := by decide +kernel
set_option maxRecDepth 20000 in
theorem ggX2_isFreeToMove_X1_reaches : GoodIn wsX2_isFreeToMove wsX1_reaches := goodIn_r _ [6, 7, 8, 9, 10, 11, 12, 13, 14, 15, 32, 33, 34, 35, 36, 37, 38, 39] (by decide +kernel) (by decide +kernel)
set_option maxRecDepth 20000 in
theorem gX2_isFreeToMove_X1_reaches : GoodIn wsX2_isFreeToMove (wsV RX2 99 RX1 yX1_reaches wsX1_reaches) := goodIn_app (goodIn_of _ (by decide +kernel)) ggX2_isFreeToMove_X1_reaches
set_option maxRecDepth 20000 in
theorem ggX2_isFreeToMove_X2_heightOf : GoodIn wsX2_isFreeToMove wsX2_heightOf := goodIn_r _ [19, 20, 21, 22, 23, 10, 24, 25, 26, 27, 28, 29, 30, 31, 40, 41, 42, 43, 44, 45, 46, 47, 48, 49, 50] (by decide +kernel) (by decide +kernel)
set_option maxRecDepth 20000 in
theorem gX2_isFreeToMove_X2_heightOf : GoodIn wsX2_isFreeToMove (wsV RX2 36 RX2 yX2_heightOf wsX2_heightOf) := goodIn_app (goodIn_of _ (by decide +kernel)) ggX2_isFreeToMove_X2_heightOf
theorem dX2_isFreeToMove_0 : decode cX2_isFreeToMove 0 = .ok (.aload_n 1, 1) := by decide +kernel
theorem dX2_isFreeToMove_1 : decode cX2_isFreeToMove 1 = .ok (.getfield 130, 3) := by decide +kernel
theorem dX2_isFreeToMove_4 : decode cX2_isFreeToMove 4 = .ok (.ifnonnull 38, 3) := by decide +kernel
theorem dX2_isFreeToMove_7 : decode cX2_isFreeToMove 7 = .ok (.iload_n 2, 1) := by decide +kernel
theorem dX2_isFreeToMove_8 : decode cX2_isFreeToMove 8 = .ok (.iload_n 3, 1) := by decide +kernel
theorem dX2_isFreeToMove_9 : decode cX2_isFreeToMove 9 = .ok (.if_icmp .eq 33, 3) := by decide +kernel
theorem dX2_isFreeToMove_12 : decode cX2_isFreeToMove 12 = .ok (.aload_n 1, 1) := by decide +kernel
theorem dX2_isFreeToMove_13 : decode cX2_isFreeToMove 13 = .ok (.iload_n 2, 1) := by decide +kernel
theorem dX2_isFreeToMove_14 : decode cX2_isFreeToMove 14 = .ok (.invokevirtual 99, 3) := by decide +kernel
theorem dX2_isFreeToMove_17 : decode cX2_isFreeToMove 17 = .ok (.ifCond .eq 25, 3) := by decide +kernel
theorem dX2_isFreeToMove_20 : decode cX2_isFreeToMove 20 = .ok (.aload_n 1, 1) := by decide +kernel
theorem dX2_isFreeToMove_21 : decode cX2_isFreeToMove 21 = .ok (.iload_n 3, 1) := by decide +kernel
theorem dX2_isFreeToMove_22 : decode cX2_isFreeToMove 22 = .ok (.invokevirtual 99, 3) := by decide +kernel
theorem dX2_isFreeToMove_25 : decode cX2_isFreeToMove 25 = .ok (.ifCond .eq 17, 3) := by decide +kernel
theorem dX2_isFreeToMove_28 : decode cX2_isFreeToMove 28 = .ok (.aload_n 0, 1) := by decide +kernel
theorem dX2_isFreeToMove_29 : decode cX2_isFreeToMove 29 = .ok (.iload_n 3, 1) := by decide +kernel
theorem dX2_isFreeToMove_30 : decode cX2_isFreeToMove 30 = .ok (.invokevirtual 36, 3) := by decide +kernel
theorem dX2_isFreeToMove_33 : decode cX2_isFreeToMove 33 = .ok (.bipush 8, 2) := by decide +kernel
theorem dX2_isFreeToMove_35 : decode cX2_isFreeToMove 35 = .ok (.if_icmp .ge 7, 3) := by decide +kernel
theorem dX2_isFreeToMove_38 : decode cX2_isFreeToMove 38 = .ok (.iconst 1, 1) := by decide +kernel
theorem dX2_isFreeToMove_39 : decode cX2_isFreeToMove 39 = .ok (.goto 4, 3) := by decide +kernel
theorem dX2_isFreeToMove_42 : decode cX2_isFreeToMove 42 = .ok (.iconst 0, 1) := by decide +kernel
theorem dX2_isFreeToMove_43 : decode cX2_isFreeToMove 43 = .ok (.ireturn, 1) := by decide +kernel
set_option maxRecDepth 20000 in
theorem ggX2_ticksToMove_X2_uppermostAt : GoodIn wsX2_ticksToMove wsX2_uppermostAt := goodIn_r _ [12, 13, 14, 15, 11, 16, 17, 18, 19, 86, 87, 88, 89] (by decide +kernel) (by decide +kernel)
set_option maxRecDepth 20000 in
theorem gX2_ticksToMove_X2_uppermostAt : GoodIn wsX2_ticksToMove (wsV RX2 149 RX2 yX2_uppermostAt wsX2_uppermostAt) := goodIn_app (goodIn_of _ (by decide +kernel)) ggX2_ticksToMove_X2_uppermostAt
set_option maxRecDepth 20000 in
theorem ggX2_ticksToMove_X1_canLift : GoodIn wsX2_ticksToMove wsX1_canLift := goodIn_r _ [24, 25, 26, 27, 23, 28, 29, 30, 78, 79, 80, 81, 82, 83, 84, 85] (by decide +kernel) (by decide +kernel)
set_option maxRecDepth 20000 in
theorem gX2_ticksToMove_X1_canLift : GoodIn wsX2_ticksToMove (wsV RX2 137 RX1 yX1_canLift wsX1_canLift) := goodIn_app (goodIn_of _ (by decide +kernel)) ggX2_ticksToMove_X1_canLift
set_option maxRecDepth 20000 in
theorem ggX2_ticksToMove_X2_isFreeToMove : GoodIn wsX2_ticksToMove wsX2_isFreeToMove := goodIn_r _ [34, 35, 36, 37, 38, 23, 39, 40, 41, 42, 11, 43, 44, 45, 6, 46, 47, 48, 49, 50, 51, 8, 9, 10, 12, 13, 14, 15, 16, 17, 18, 19, 78, 79, 80, 81, 82, 83, 84, 85, 71, 72, 73, 74, 75, 76, 77, 86, 87, 88, 89] (by decide +kernel) (by decide +kernel)
set_option maxRecDepth 20000 in
theorem gX2_ticksToMove_X2_isFreeToMove : GoodIn wsX2_ticksToMove (wsV RX2 244 RX2 yX2_isFreeToMove wsX2_isFreeToMove) := goodIn_app (goodIn_of _ (by decide +kernel)) ggX2_ticksToMove_X2_isFreeToMove
set_option maxRecDepth 20000 in
theorem ggX2_ticksToMove_X2_heightOf : GoodIn wsX2_ticksToMove wsX2_heightOf := goodIn_r _ [50, 51, 8, 9, 10, 11, 12, 13, 14, 15, 16, 17, 18, 19, 71, 72, 73, 74, 75, 76, 77, 86, 87, 88, 89] (by decide +kernel) (by decide +kernel)
set_option maxRecDepth 20000 in
theorem gX2_ticksToMove_X2_heightOf : GoodIn wsX2_ticksToMove (wsV RX2 36 RX2 yX2_heightOf wsX2_heightOf) := goodIn_app (goodIn_of _ (by decide +kernel)) ggX2_ticksToMove_X2_heightOf
set_option maxRecDepth 20000 in
theorem ggX2_ticksToMove_X2_highestBetween : GoodIn wsX2_ticksToMove wsX2_highestBetween := goodIn_r _ [55, 56, 57, 6, 58, 4, 5, 7, 17, 18, 11, 19, 47, 48, 49, 50, 51, 8, 9, 10, 12, 13, 14, 15, 16, 71, 72, 73, 74, 75, 76, 77, 86, 87, 88, 89] (by decide +kernel) (by decide +kernel)
set_option maxRecDepth 20000 in
theorem gX2_ticksToMove_X2_highestBetween : GoodIn wsX2_ticksToMove (wsV RX2 111 RX2 yX2_highestBetween wsX2_highestBetween) := goodIn_app (goodIn_of _ (by decide +kernel)) ggX2_ticksToMove_X2_highestBetween
set_option maxRecDepth 20000 in
theorem ggX2_ticksToMove_X1_ticksToWind : GoodIn wsX2_ticksToMove wsX1_ticksToWind := goodIn_r _ [62, 29, 78, 79, 80, 81, 82, 83, 84, 85] (by decide +kernel) (by decide +kernel)
set_option maxRecDepth 20000 in
theorem gX2_ticksToMove_X1_ticksToWind : GoodIn wsX2_ticksToMove (wsV RX2 234 RX1 yX1_ticksToWind wsX1_ticksToWind) := goodIn_app (goodIn_of _ (by decide +kernel)) ggX2_ticksToMove_X1_ticksToWind
set_option maxRecDepth 20000 in
theorem ggX2_ticksToMove_X1_wornAfterLowering : GoodIn wsX2_ticksToMove wsX1_wornAfterLowering := goodIn_r _ [66, 67, 68, 11, 69, 78, 79, 80, 81, 82, 83, 84, 85] (by decide +kernel) (by decide +kernel)
set_option maxRecDepth 20000 in
theorem gX2_ticksToMove_X1_wornAfterLowering : GoodIn wsX2_ticksToMove (wsV RX2 237 RX1 yX1_wornAfterLowering wsX1_wornAfterLowering) := goodIn_app (goodIn_of _ (by decide +kernel)) ggX2_ticksToMove_X1_wornAfterLowering
set_option maxRecDepth 20000 in
theorem ggX2_ticksToMove_X2_distance : GoodIn wsX2_ticksToMove wsX2_distance := goodIn_r _ [43, 44, 45, 6, 46] (by decide +kernel) (by decide +kernel)
set_option maxRecDepth 20000 in
theorem gX2_ticksToMove_X2_distance : GoodIn wsX2_ticksToMove (va_wsS RX2 120 yX2_distance wsX2_distance) := goodIn_app (goodIn_of _ (by decide +kernel)) ggX2_ticksToMove_X2_distance
theorem dX2_ticksToMove_0 : decode cX2_ticksToMove 0 = .ok (.aload_n 0, 1) := by decide +kernel
theorem dX2_ticksToMove_1 : decode cX2_ticksToMove 1 = .ok (.iload_n 2, 1) := by decide +kernel
theorem dX2_ticksToMove_2 : decode cX2_ticksToMove 2 = .ok (.invokevirtual 149, 3) := by decide +kernel
theorem dX2_ticksToMove_5 : decode cX2_ticksToMove 5 = .ok (.astore 4, 2) := by decide +kernel
theorem dX2_ticksToMove_7 : decode cX2_ticksToMove 7 = .ok (.aload 4, 2) := by decide +kernel
theorem dX2_ticksToMove_9 : decode cX2_ticksToMove 9 = .ok (.ifnull 25, 3) := by decide +kernel
theorem dX2_ticksToMove_12 : decode cX2_ticksToMove 12 = .ok (.aload_n 1, 1) := by decide +kernel
theorem dX2_ticksToMove_13 : decode cX2_ticksToMove 13 = .ok (.aload 4, 2) := by decide +kernel
theorem dX2_ticksToMove_15 : decode cX2_ticksToMove 15 = .ok (.getfield 134, 3) := by decide +kernel
theorem dX2_ticksToMove_18 : decode cX2_ticksToMove 18 = .ok (.invokevirtual 137, 3) := by decide +kernel
theorem dX2_ticksToMove_21 : decode cX2_ticksToMove 21 = .ok (.ifCond .eq 13, 3) := by decide +kernel
theorem dX2_ticksToMove_24 : decode cX2_ticksToMove 24 = .ok (.aload_n 0, 1) := by decide +kernel
theorem dX2_ticksToMove_25 : decode cX2_ticksToMove 25 = .ok (.aload_n 1, 1) := by decide +kernel
theorem dX2_ticksToMove_26 : decode cX2_ticksToMove 26 = .ok (.iload_n 2, 1) := by decide +kernel
theorem dX2_ticksToMove_27 : decode cX2_ticksToMove 27 = .ok (.iload_n 3, 1) := by decide +kernel
theorem dX2_ticksToMove_28 : decode cX2_ticksToMove 28 = .ok (.invokevirtual 244, 3) := by decide +kernel
theorem dX2_ticksToMove_31 : decode cX2_ticksToMove 31 = .ok (.ifCond .ne 5, 3) := by decide +kernel
theorem dX2_ticksToMove_34 : decode cX2_ticksToMove 34 = .ok (.iconst (-1), 1) := by decide +kernel
theorem dX2_ticksToMove_35 : decode cX2_ticksToMove 35 = .ok (.ireturn, 1) := by decide +kernel
theorem dX2_ticksToMove_36 : decode cX2_ticksToMove 36 = .ok (.aload_n 0, 1) := by decide +kernel
theorem dX2_ticksToMove_37 : decode cX2_ticksToMove 37 = .ok (.iload_n 2, 1) := by decide +kernel
theorem dX2_ticksToMove_38 : decode cX2_ticksToMove 38 = .ok (.invokevirtual 36, 3) := by decide +kernel
theorem dX2_ticksToMove_41 : decode cX2_ticksToMove 41 = .ok (.istore 5, 2) := by decide +kernel
theorem dX2_ticksToMove_43 : decode cX2_ticksToMove 43 = .ok (.aload_n 0, 1) := by decide +kernel
theorem dX2_ticksToMove_44 : decode cX2_ticksToMove 44 = .ok (.iload_n 3, 1) := by decide +kernel
theorem dX2_ticksToMove_45 : decode cX2_ticksToMove 45 = .ok (.invokevirtual 36, 3) := by decide +kernel
theorem dX2_ticksToMove_48 : decode cX2_ticksToMove 48 = .ok (.iconst 1, 1) := by decide +kernel
theorem dX2_ticksToMove_49 : decode cX2_ticksToMove 49 = .ok (.iadd, 1) := by decide +kernel
theorem dX2_ticksToMove_50 : decode cX2_ticksToMove 50 = .ok (.istore 6, 2) := by decide +kernel
theorem dX2_ticksToMove_52 : decode cX2_ticksToMove 52 = .ok (.aload_n 1, 1) := by decide +kernel
theorem dX2_ticksToMove_53 : decode cX2_ticksToMove 53 = .ok (.getfield 105, 3) := by decide +kernel
theorem dX2_ticksToMove_56 : decode cX2_ticksToMove 56 = .ok (.aload_n 0, 1) := by decide +kernel
theorem dX2_ticksToMove_57 : decode cX2_ticksToMove 57 = .ok (.aload_n 1, 1) := by decide +kernel
theorem dX2_ticksToMove_58 : decode cX2_ticksToMove 58 = .ok (.getfield 108, 3) := by decide +kernel
theorem dX2_ticksToMove_61 : decode cX2_ticksToMove 61 = .ok (.iload_n 2, 1) := by decide +kernel
theorem dX2_ticksToMove_62 : decode cX2_ticksToMove 62 = .ok (.invokevirtual 111, 3) := by decide +kernel
theorem dX2_ticksToMove_65 : decode cX2_ticksToMove 65 = .ok (.invokestatic 228, 3) := by decide +kernel
theorem dX2_ticksToMove_68 : decode cX2_ticksToMove 68 = .ok (.istore 7, 2) := by decide +kernel
theorem dX2_ticksToMove_70 : decode cX2_ticksToMove 70 = .ok (.iload_n 2, 1) := by decide +kernel
theorem dX2_ticksToMove_71 : decode cX2_ticksToMove 71 = .ok (.iload_n 3, 1) := by decide +kernel
theorem dX2_ticksToMove_72 : decode cX2_ticksToMove 72 = .ok (.if_icmp .ge 9, 3) := by decide +kernel
theorem dX2_ticksToMove_75 : decode cX2_ticksToMove 75 = .ok (.iload_n 2, 1) := by decide +kernel
theorem dX2_ticksToMove_76 : decode cX2_ticksToMove 76 = .ok (.iconst 1, 1) := by decide +kernel
theorem dX2_ticksToMove_77 : decode cX2_ticksToMove 77 = .ok (.iadd, 1) := by decide +kernel
theorem dX2_ticksToMove_78 : decode cX2_ticksToMove 78 = .ok (.goto 6, 3) := by decide +kernel
theorem dX2_ticksToMove_81 : decode cX2_ticksToMove 81 = .ok (.iload_n 2, 1) := by decide +kernel
theorem dX2_ticksToMove_82 : decode cX2_ticksToMove 82 = .ok (.iconst 1, 1) := by decide +kernel
theorem dX2_ticksToMove_83 : decode cX2_ticksToMove 83 = .ok (.isub, 1) := by decide +kernel
theorem dX2_ticksToMove_84 : decode cX2_ticksToMove 84 = .ok (.istore 8, 2) := by decide +kernel
theorem dX2_ticksToMove_86 : decode cX2_ticksToMove 86 = .ok (.iload 5, 2) := by decide +kernel
theorem dX2_ticksToMove_88 : decode cX2_ticksToMove 88 = .ok (.aload_n 0, 1) := by decide +kernel
theorem dX2_ticksToMove_89 : decode cX2_ticksToMove 89 = .ok (.iload 8, 2) := by decide +kernel
theorem dX2_ticksToMove_91 : decode cX2_ticksToMove 91 = .ok (.iload_n 3, 1) := by decide +kernel
theorem dX2_ticksToMove_92 : decode cX2_ticksToMove 92 = .ok (.invokevirtual 111, 3) := by decide +kernel
theorem dX2_ticksToMove_95 : decode cX2_ticksToMove 95 = .ok (.iconst 1, 1) := by decide +kernel
theorem dX2_ticksToMove_96 : decode cX2_ticksToMove 96 = .ok (.iadd, 1) := by decide +kernel
theorem dX2_ticksToMove_97 : decode cX2_ticksToMove 97 = .ok (.invokestatic 228, 3) := by decide +kernel
theorem dX2_ticksToMove_100 : decode cX2_ticksToMove 100 = .ok (.istore 9, 2) := by decide +kernel
theorem dX2_ticksToMove_102 : decode cX2_ticksToMove 102 = .ok (.aload_n 1, 1) := by decide +kernel
theorem dX2_ticksToMove_103 : decode cX2_ticksToMove 103 = .ok (.iload 9, 2) := by decide +kernel
theorem dX2_ticksToMove_105 : decode cX2_ticksToMove 105 = .ok (.iload 6, 2) := by decide +kernel
theorem dX2_ticksToMove_107 : decode cX2_ticksToMove 107 = .ok (.isub, 1) := by decide +kernel
theorem dX2_ticksToMove_108 : decode cX2_ticksToMove 108 = .ok (.invokevirtual 234, 3) := by decide +kernel
theorem dX2_ticksToMove_111 : decode cX2_ticksToMove 111 = .ok (.istore 10, 2) := by decide +kernel
theorem dX2_ticksToMove_113 : decode cX2_ticksToMove 113 = .ok (.aload_n 1, 1) := by decide +kernel
theorem dX2_ticksToMove_114 : decode cX2_ticksToMove 114 = .ok (.aload 4, 2) := by decide +kernel
theorem dX2_ticksToMove_116 : decode cX2_ticksToMove 116 = .ok (.getfield 134, 3) := by decide +kernel
theorem dX2_ticksToMove_119 : decode cX2_ticksToMove 119 = .ok (.iload 10, 2) := by decide +kernel
theorem dX2_ticksToMove_121 : decode cX2_ticksToMove 121 = .ok (.invokevirtual 237, 3) := by decide +kernel
theorem dX2_ticksToMove_124 : decode cX2_ticksToMove 124 = .ok (.bipush 99, 2) := by decide +kernel
theorem dX2_ticksToMove_126 : decode cX2_ticksToMove 126 = .ok (.if_icmp .le 5, 3) := by decide +kernel
theorem dX2_ticksToMove_129 : decode cX2_ticksToMove 129 = .ok (.iconst (-1), 1) := by decide +kernel
theorem dX2_ticksToMove_130 : decode cX2_ticksToMove 130 = .ok (.ireturn, 1) := by decide +kernel
theorem dX2_ticksToMove_131 : decode cX2_ticksToMove 131 = .ok (.aload_n 1, 1) := by decide +kernel
theorem dX2_ticksToMove_132 : decode cX2_ticksToMove 132 = .ok (.iload 7, 2) := by decide +kernel
theorem dX2_ticksToMove_134 : decode cX2_ticksToMove 134 = .ok (.aload_n 1, 1) := by decide +kernel
theorem dX2_ticksToMove_135 : decode cX2_ticksToMove 135 = .ok (.getfield 105, 3) := by decide +kernel
theorem dX2_ticksToMove_138 : decode cX2_ticksToMove 138 = .ok (.isub, 1) := by decide +kernel
theorem dX2_ticksToMove_139 : decode cX2_ticksToMove 139 = .ok (.invokevirtual 234, 3) := by decide +kernel
theorem dX2_ticksToMove_142 : decode cX2_ticksToMove 142 = .ok (.aload_n 1, 1) := by decide +kernel
theorem dX2_ticksToMove_143 : decode cX2_ticksToMove 143 = .ok (.getfield 108, 3) := by decide +kernel
theorem dX2_ticksToMove_146 : decode cX2_ticksToMove 146 = .ok (.iload_n 2, 1) := by decide +kernel
theorem dX2_ticksToMove_147 : decode cX2_ticksToMove 147 = .ok (.invokestatic 120, 3) := by decide +kernel
theorem dX2_ticksToMove_150 : decode cX2_ticksToMove 150 = .ok (.iadd, 1) := by decide +kernel
theorem dX2_ticksToMove_151 : decode cX2_ticksToMove 151 = .ok (.aload_n 1, 1) := by decide +kernel
theorem dX2_ticksToMove_152 : decode cX2_ticksToMove 152 = .ok (.iload 7, 2) := by decide +kernel
theorem dX2_ticksToMove_154 : decode cX2_ticksToMove 154 = .ok (.iload 5, 2) := by decide +kernel
theorem dX2_ticksToMove_156 : decode cX2_ticksToMove 156 = .ok (.isub, 1) := by decide +kernel
theorem dX2_ticksToMove_157 : decode cX2_ticksToMove 157 = .ok (.invokevirtual 234, 3) := by decide +kernel
theorem dX2_ticksToMove_160 : decode cX2_ticksToMove 160 = .ok (.iadd, 1) := by decide +kernel
theorem dX2_ticksToMove_161 : decode cX2_ticksToMove 161 = .ok (.aload_n 1, 1) := by decide +kernel
theorem dX2_ticksToMove_162 : decode cX2_ticksToMove 162 = .ok (.iload 9, 2) := by decide +kernel
theorem dX2_ticksToMove_164 : decode cX2_ticksToMove 164 = .ok (.iload 5, 2) := by decide +kernel
theorem dX2_ticksToMove_166 : decode cX2_ticksToMove 166 = .ok (.isub, 1) := by decide +kernel
theorem dX2_ticksToMove_167 : decode cX2_ticksToMove 167 = .ok (.invokevirtual 234, 3) := by decide +kernel
theorem dX2_ticksToMove_170 : decode cX2_ticksToMove 170 = .ok (.iadd, 1) := by decide +kernel
theorem dX2_ticksToMove_171 : decode cX2_ticksToMove 171 = .ok (.iload_n 2, 1) := by decide +kernel
theorem dX2_ticksToMove_172 : decode cX2_ticksToMove 172 = .ok (.iload_n 3, 1) := by decide +kernel
theorem dX2_ticksToMove_173 : decode cX2_ticksToMove 173 = .ok (.invokestatic 120, 3) := by decide +kernel
theorem dX2_ticksToMove_176 : decode cX2_ticksToMove 176 = .ok (.iadd, 1) := by decide +kernel
theorem dX2_ticksToMove_177 : decode cX2_ticksToMove 177 = .ok (.iload 10, 2) := by decide +kernel
theorem dX2_ticksToMove_179 : decode cX2_ticksToMove 179 = .ok (.iadd, 1) := by decide +kernel
theorem dX2_ticksToMove_180 : decode cX2_ticksToMove 180 = .ok (.ireturn, 1) := by decide +kernel
set_option maxRecDepth 20000 in
theorem ggX2_placeAnswer_X2_heightOf : GoodIn wsX2_placeAnswer wsX2_heightOf := goodIn_r _ [5, 6, 7, 8, 9, 4, 10, 11, 12, 13, 14, 15, 16, 17, 58, 59, 60, 61, 62, 63, 64, 65, 66, 67, 68] (by decide +kernel) (by decide +kernel)
set_option maxRecDepth 20000 in
theorem gX2_placeAnswer_X2_heightOf : GoodIn wsX2_placeAnswer (wsV RX2 36 RX2 yX2_heightOf wsX2_heightOf) := goodIn_app (goodIn_of _ (by decide +kernel)) ggX2_placeAnswer_X2_heightOf
set_option maxRecDepth 20000 in
theorem ggX2_placeAnswer_X2_uppermostAt : GoodIn wsX2_placeAnswer wsX2_uppermostAt := goodIn_r _ [10, 11, 12, 13, 4, 14, 15, 16, 17, 65, 66, 67, 68] (by decide +kernel) (by decide +kernel)
set_option maxRecDepth 20000 in
theorem gX2_placeAnswer_X2_uppermostAt : GoodIn wsX2_placeAnswer (wsV RX2 149 RX2 yX2_uppermostAt wsX2_uppermostAt) := goodIn_app (goodIn_of _ (by decide +kernel)) ggX2_placeAnswer_X2_uppermostAt
set_option maxRecDepth 20000 in
theorem ggX2_placeAnswer_X2_numberOf : GoodIn wsX2_placeAnswer wsX2_numberOf := goodIn_r _ [20, 21, 58, 59, 60, 61, 62, 63, 64] (by decide +kernel) (by decide +kernel)
set_option maxRecDepth 20000 in
theorem gX2_placeAnswer_X2_numberOf : GoodIn wsX2_placeAnswer (va_wsS RX2 248 yX2_numberOf wsX2_numberOf) := goodIn_app (goodIn_of _ (by decide +kernel)) ggX2_placeAnswer_X2_numberOf
set_option maxRecDepth 20000 in
theorem ggX2_placeAnswer_X2_weightsAt : GoodIn wsX2_placeAnswer wsX2_weightsAt := goodIn_r _ [25, 26, 27, 7, 8, 9, 4, 10, 11, 12, 13, 14, 15, 16, 17, 58, 59, 60, 61, 62, 63, 64, 65, 66, 67, 68] (by decide +kernel) (by decide +kernel)
set_option maxRecDepth 20000 in
theorem gX2_placeAnswer_X2_weightsAt : GoodIn wsX2_placeAnswer (wsV RX2 252 RX2 yX2_weightsAt wsX2_weightsAt) := goodIn_app (goodIn_of _ (by decide +kernel)) ggX2_placeAnswer_X2_weightsAt
set_option maxRecDepth 20000 in
theorem ggX2_placeAnswer_X2_hooksOver : GoodIn wsX2_placeAnswer wsX2_hooksOver := goodIn_r _ [31, 32, 33, 34, 35, 36, 37, 38, 39, 40, 41, 42, 43, 44, 45, 46, 47, 48, 49, 50, 51, 52, 53, 54, 55, 56, 57, 65, 66, 67, 68, 69, 70, 71, 72, 73, 74, 75, 76, 77, 78, 79] (by decide +kernel) (by decide +kernel)
set_option maxRecDepth 20000 in
theorem gX2_placeAnswer_X2_hooksOver : GoodIn wsX2_placeAnswer (wsV RX2 255 RX2 yX2_hooksOver wsX2_hooksOver) := goodIn_app (goodIn_of _ (by decide +kernel)) ggX2_placeAnswer_X2_hooksOver
theorem dX2_placeAnswer_0 : decode cX2_placeAnswer 0 = .ok (.iload_n 2, 1) := by decide +kernel
theorem dX2_placeAnswer_1 : decode cX2_placeAnswer 1 = .ok (.tableswitch 48 0 2 #[27, 33, 42], 27) := by decide +kernel
theorem dX2_placeAnswer_28 : decode cX2_placeAnswer 28 = .ok (.aload_n 0, 1) := by decide +kernel
theorem dX2_placeAnswer_29 : decode cX2_placeAnswer 29 = .ok (.iload_n 1, 1) := by decide +kernel
theorem dX2_placeAnswer_30 : decode cX2_placeAnswer 30 = .ok (.invokevirtual 36, 3) := by decide +kernel
theorem dX2_placeAnswer_33 : decode cX2_placeAnswer 33 = .ok (.ireturn, 1) := by decide +kernel
theorem dX2_placeAnswer_34 : decode cX2_placeAnswer 34 = .ok (.aload_n 0, 1) := by decide +kernel
theorem dX2_placeAnswer_35 : decode cX2_placeAnswer 35 = .ok (.iload_n 1, 1) := by decide +kernel
theorem dX2_placeAnswer_36 : decode cX2_placeAnswer 36 = .ok (.invokevirtual 149, 3) := by decide +kernel
theorem dX2_placeAnswer_39 : decode cX2_placeAnswer 39 = .ok (.invokestatic 248, 3) := by decide +kernel
theorem dX2_placeAnswer_42 : decode cX2_placeAnswer 42 = .ok (.ireturn, 1) := by decide +kernel
theorem dX2_placeAnswer_43 : decode cX2_placeAnswer 43 = .ok (.aload_n 0, 1) := by decide +kernel
theorem dX2_placeAnswer_44 : decode cX2_placeAnswer 44 = .ok (.iload_n 1, 1) := by decide +kernel
theorem dX2_placeAnswer_45 : decode cX2_placeAnswer 45 = .ok (.invokevirtual 252, 3) := by decide +kernel
theorem dX2_placeAnswer_48 : decode cX2_placeAnswer 48 = .ok (.ireturn, 1) := by decide +kernel
theorem dX2_placeAnswer_49 : decode cX2_placeAnswer 49 = .ok (.aload_n 0, 1) := by decide +kernel
theorem dX2_placeAnswer_50 : decode cX2_placeAnswer 50 = .ok (.iload_n 1, 1) := by decide +kernel
theorem dX2_placeAnswer_51 : decode cX2_placeAnswer 51 = .ok (.invokevirtual 255, 3) := by decide +kernel
theorem dX2_placeAnswer_54 : decode cX2_placeAnswer 54 = .ok (.ireturn, 1) := by decide +kernel
set_option maxRecDepth 20000 in
theorem ggX2_barrelAnswer_X2_heightOf : GoodIn wsX2_barrelAnswer wsX2_heightOf := goodIn_r _ [10, 3, 11, 12, 13, 9, 14, 15, 16, 17, 18, 19, 20, 21, 22, 23, 24, 25, 26, 27, 28, 29, 30, 31, 32] (by decide +kernel) (by decide +kernel)
set_option maxRecDepth 20000 in
theorem gX2_barrelAnswer_X2_heightOf : GoodIn wsX2_barrelAnswer (wsV RX2 36 RX2 yX2_heightOf wsX2_heightOf) := goodIn_app (goodIn_of _ (by decide +kernel)) ggX2_barrelAnswer_X2_heightOf
theorem dX2_barrelAnswer_0 : decode cX2_barrelAnswer 0 = .ok (.iload_n 2, 1) := by decide +kernel
theorem dX2_barrelAnswer_1 : decode cX2_barrelAnswer 1 = .ok (.tableswitch 74 0 3 #[31, 36, 41, 69], 31) := by decide +kernel
theorem dX2_barrelAnswer_32 : decode cX2_barrelAnswer 32 = .ok (.aload_n 1, 1) := by decide +kernel
theorem dX2_barrelAnswer_33 : decode cX2_barrelAnswer 33 = .ok (.getfield 134, 3) := by decide +kernel
theorem dX2_barrelAnswer_36 : decode cX2_barrelAnswer 36 = .ok (.ireturn, 1) := by decide +kernel
theorem dX2_barrelAnswer_37 : decode cX2_barrelAnswer 37 = .ok (.aload_n 1, 1) := by decide +kernel
theorem dX2_barrelAnswer_38 : decode cX2_barrelAnswer 38 = .ok (.getfield 193, 3) := by decide +kernel
theorem dX2_barrelAnswer_41 : decode cX2_barrelAnswer 41 = .ok (.ireturn, 1) := by decide +kernel
theorem dX2_barrelAnswer_42 : decode cX2_barrelAnswer 42 = .ok (.aload_n 1, 1) := by decide +kernel
theorem dX2_barrelAnswer_43 : decode cX2_barrelAnswer 43 = .ok (.getfield 193, 3) := by decide +kernel
theorem dX2_barrelAnswer_46 : decode cX2_barrelAnswer 46 = .ok (.iconst (-1), 1) := by decide +kernel
theorem dX2_barrelAnswer_47 : decode cX2_barrelAnswer 47 = .ok (.if_icmp .ne 7, 3) := by decide +kernel
theorem dX2_barrelAnswer_50 : decode cX2_barrelAnswer 50 = .ok (.iconst 0, 1) := by decide +kernel
theorem dX2_barrelAnswer_51 : decode cX2_barrelAnswer 51 = .ok (.goto 18, 3) := by decide +kernel
theorem dX2_barrelAnswer_54 : decode cX2_barrelAnswer 54 = .ok (.aload_n 0, 1) := by decide +kernel
theorem dX2_barrelAnswer_55 : decode cX2_barrelAnswer 55 = .ok (.aload_n 1, 1) := by decide +kernel
theorem dX2_barrelAnswer_56 : decode cX2_barrelAnswer 56 = .ok (.getfield 193, 3) := by decide +kernel
theorem dX2_barrelAnswer_59 : decode cX2_barrelAnswer 59 = .ok (.invokevirtual 36, 3) := by decide +kernel
theorem dX2_barrelAnswer_62 : decode cX2_barrelAnswer 62 = .ok (.aload_n 1, 1) := by decide +kernel
theorem dX2_barrelAnswer_63 : decode cX2_barrelAnswer 63 = .ok (.getfield 222, 3) := by decide +kernel
theorem dX2_barrelAnswer_66 : decode cX2_barrelAnswer 66 = .ok (.isub, 1) := by decide +kernel
theorem dX2_barrelAnswer_67 : decode cX2_barrelAnswer 67 = .ok (.iconst 1, 1) := by decide +kernel
theorem dX2_barrelAnswer_68 : decode cX2_barrelAnswer 68 = .ok (.isub, 1) := by decide +kernel
theorem dX2_barrelAnswer_69 : decode cX2_barrelAnswer 69 = .ok (.ireturn, 1) := by decide +kernel
theorem dX2_barrelAnswer_70 : decode cX2_barrelAnswer 70 = .ok (.aload_n 1, 1) := by decide +kernel
theorem dX2_barrelAnswer_71 : decode cX2_barrelAnswer 71 = .ok (.getfield 158, 3) := by decide +kernel
theorem dX2_barrelAnswer_74 : decode cX2_barrelAnswer 74 = .ok (.ireturn, 1) := by decide +kernel
theorem dX2_barrelAnswer_75 : decode cX2_barrelAnswer 75 = .ok (.aload_n 1, 1) := by decide +kernel
theorem dX2_barrelAnswer_76 : decode cX2_barrelAnswer 76 = .ok (.getfield 196, 3) := by decide +kernel
theorem dX2_barrelAnswer_79 : decode cX2_barrelAnswer 79 = .ok (.ifCond .eq 7, 3) := by decide +kernel
theorem dX2_barrelAnswer_82 : decode cX2_barrelAnswer 82 = .ok (.iconst 1, 1) := by decide +kernel
theorem dX2_barrelAnswer_83 : decode cX2_barrelAnswer 83 = .ok (.goto 4, 3) := by decide +kernel
theorem dX2_barrelAnswer_86 : decode cX2_barrelAnswer 86 = .ok (.iconst 0, 1) := by decide +kernel
theorem dX2_barrelAnswer_87 : decode cX2_barrelAnswer 87 = .ok (.ireturn, 1) := by decide +kernel
set_option maxRecDepth 20000 in
theorem ggX2_craneAnswer_X2_numberOf : GoodIn wsX2_craneAnswer wsX2_numberOf := goodIn_r _ [12, 13, 29, 30, 31, 32, 33, 34, 35] (by decide +kernel) (by decide +kernel)
set_option maxRecDepth 20000 in
theorem gX2_craneAnswer_X2_numberOf : GoodIn wsX2_craneAnswer (va_wsS RX2 248 yX2_numberOf wsX2_numberOf) := goodIn_app (goodIn_of _ (by decide +kernel)) ggX2_craneAnswer_X2_numberOf
set_option maxRecDepth 20000 in
theorem ggX2_craneAnswer_X1_strength : GoodIn wsX2_craneAnswer wsX1_strength := goodIn_r _ [18, 19, 20, 21, 22, 23, 24, 25, 26, 27, 28] (by decide +kernel) (by decide +kernel)
set_option maxRecDepth 20000 in
theorem gX2_craneAnswer_X1_strength : GoodIn wsX2_craneAnswer (wsV RX2 265 RX1 yX1_strength wsX1_strength) := goodIn_app (goodIn_of _ (by decide +kernel)) ggX2_craneAnswer_X1_strength
theorem dX2_craneAnswer_0 : decode cX2_craneAnswer 0 = .ok (.iload_n 1, 1) := by decide +kernel
theorem dX2_craneAnswer_1 : decode cX2_craneAnswer 1 = .ok (.tableswitch 90 0 7 #[47, 52, 57, 62, 67, 72, 77, 82], 47) := by decide +kernel
theorem dX2_craneAnswer_48 : decode cX2_craneAnswer 48 = .ok (.aload_n 0, 1) := by decide +kernel
theorem dX2_craneAnswer_49 : decode cX2_craneAnswer 49 = .ok (.getfield 258, 3) := by decide +kernel
theorem dX2_craneAnswer_52 : decode cX2_craneAnswer 52 = .ok (.ireturn, 1) := by decide +kernel
theorem dX2_craneAnswer_53 : decode cX2_craneAnswer 53 = .ok (.aload_n 0, 1) := by decide +kernel
theorem dX2_craneAnswer_54 : decode cX2_craneAnswer 54 = .ok (.getfield 259, 3) := by decide +kernel
theorem dX2_craneAnswer_57 : decode cX2_craneAnswer 57 = .ok (.ireturn, 1) := by decide +kernel
theorem dX2_craneAnswer_58 : decode cX2_craneAnswer 58 = .ok (.aload_n 0, 1) := by decide +kernel
theorem dX2_craneAnswer_59 : decode cX2_craneAnswer 59 = .ok (.getfield 262, 3) := by decide +kernel
theorem dX2_craneAnswer_62 : decode cX2_craneAnswer 62 = .ok (.ireturn, 1) := by decide +kernel
theorem dX2_craneAnswer_63 : decode cX2_craneAnswer 63 = .ok (.aload_n 0, 1) := by decide +kernel
theorem dX2_craneAnswer_64 : decode cX2_craneAnswer 64 = .ok (.getfield 93, 3) := by decide +kernel
theorem dX2_craneAnswer_67 : decode cX2_craneAnswer 67 = .ok (.ireturn, 1) := by decide +kernel
theorem dX2_craneAnswer_68 : decode cX2_craneAnswer 68 = .ok (.aload_n 0, 1) := by decide +kernel
theorem dX2_craneAnswer_69 : decode cX2_craneAnswer 69 = .ok (.getfield 96, 3) := by decide +kernel
theorem dX2_craneAnswer_72 : decode cX2_craneAnswer 72 = .ok (.ireturn, 1) := by decide +kernel
theorem dX2_craneAnswer_73 : decode cX2_craneAnswer 73 = .ok (.aload_n 0, 1) := by decide +kernel
theorem dX2_craneAnswer_74 : decode cX2_craneAnswer 74 = .ok (.getfield 108, 3) := by decide +kernel
theorem dX2_craneAnswer_77 : decode cX2_craneAnswer 77 = .ok (.ireturn, 1) := by decide +kernel
theorem dX2_craneAnswer_78 : decode cX2_craneAnswer 78 = .ok (.aload_n 0, 1) := by decide +kernel
theorem dX2_craneAnswer_79 : decode cX2_craneAnswer 79 = .ok (.getfield 105, 3) := by decide +kernel
theorem dX2_craneAnswer_82 : decode cX2_craneAnswer 82 = .ok (.ireturn, 1) := by decide +kernel
theorem dX2_craneAnswer_83 : decode cX2_craneAnswer 83 = .ok (.aload_n 0, 1) := by decide +kernel
theorem dX2_craneAnswer_84 : decode cX2_craneAnswer 84 = .ok (.getfield 130, 3) := by decide +kernel
theorem dX2_craneAnswer_87 : decode cX2_craneAnswer 87 = .ok (.invokestatic 248, 3) := by decide +kernel
theorem dX2_craneAnswer_90 : decode cX2_craneAnswer 90 = .ok (.ireturn, 1) := by decide +kernel
theorem dX2_craneAnswer_91 : decode cX2_craneAnswer 91 = .ok (.aload_n 0, 1) := by decide +kernel
theorem dX2_craneAnswer_92 : decode cX2_craneAnswer 92 = .ok (.invokevirtual 265, 3) := by decide +kernel
theorem dX2_craneAnswer_95 : decode cX2_craneAnswer 95 = .ok (.ireturn, 1) := by decide +kernel
set_option maxRecDepth 20000 in
theorem ggX2_countAnswer_Jx4a65c_size_8abf5 : GoodIn wsX2_countAnswer wsJx4a65c_size_8abf5 := goodIn_r _ [8, 9, 69, 70, 71] (by decide +kernel) (by decide +kernel)
set_option maxRecDepth 20000 in
theorem gX2_countAnswer_Jx4a65c_size_8abf5 : GoodIn wsX2_countAnswer (wsV RX2 32 RJx4a65c yJx4a65c_size_8abf5 wsJx4a65c_size_8abf5) := goodIn_app (goodIn_of _ (by decide +kernel)) ggX2_countAnswer_Jx4a65c_size_8abf5
set_option maxRecDepth 20000 in
theorem ggX2_countAnswer_X2_standing : GoodIn wsX2_countAnswer wsX2_standing := goodIn_r _ [14, 15, 16, 17, 13, 18, 19, 20, 21, 22, 23, 24, 25, 26, 27, 28, 29, 30, 72, 73, 74, 75, 76, 77, 78, 65, 66, 67, 68] (by decide +kernel) (by decide +kernel)
set_option maxRecDepth 20000 in
theorem gX2_countAnswer_X2_standing : GoodIn wsX2_countAnswer (wsV RX2 268 RX2 yX2_standing wsX2_standing) := goodIn_app (goodIn_of _ (by decide +kernel)) ggX2_countAnswer_X2_standing
set_option maxRecDepth 20000 in
theorem ggX2_countAnswer_X2_hanging : GoodIn wsX2_countAnswer wsX2_hanging := goodIn_r _ [34, 3, 35, 36, 4, 5, 6, 7, 8, 9, 37, 38, 39, 40, 41, 42, 43, 44, 45, 46, 47, 48, 49, 50, 51, 52, 53, 65, 66, 67, 68, 79, 80, 81, 82, 83, 84, 85, 86, 69, 70, 71] (by decide +kernel) (by decide +kernel)
set_option maxRecDepth 20000 in
theorem gX2_countAnswer_X2_hanging : GoodIn wsX2_countAnswer (wsV RX2 271 RX2 yX2_hanging wsX2_hanging) := goodIn_app (goodIn_of _ (by decide +kernel)) ggX2_countAnswer_X2_hanging
set_option maxRecDepth 20000 in
end
section
theorem ggX2_countAnswer_X2_highestBetween : GoodIn wsX2_countAnswer wsX2_highestBetween := goodIn_r _ [57, 58, 59, 60, 61, 62, 63, 64, 28, 29, 13, 30, 15, 16, 17, 18, 19, 20, 21, 22, 23, 24, 25, 26, 27, 72, 73, 74, 75, 76, 77, 78, 65, 66, 67, 68] (by decide +kernel) (by decide +kernel)
set_option maxRecDepth 20000 in
theorem gX2_countAnswer_X2_highestBetween : GoodIn wsX2_countAnswer (wsV RX2 111 RX2 yX2_highestBetween wsX2_highestBetween) := goodIn_app (goodIn_of _ (by decide +kernel)) ggX2_countAnswer_X2_highestBetween
theorem dX2_countAnswer_0 : decode cX2_countAnswer 0 = .ok (.iload_n 1, 1) := by decide +kernel
theorem dX2_countAnswer_1 : decode cX2_countAnswer 1 = .ok (.tableswitch 88 0 5 #[39, 44, 52, 57, 62, 80], 39) := by decide +kernel
theorem dX2_countAnswer_40 : decode cX2_countAnswer 40 = .ok (.aload_n 0, 1) := by decide +kernel
theorem dX2_countAnswer_41 : decode cX2_countAnswer 41 = .ok (.getfield 123, 3) := by decide +kernel
theorem dX2_countAnswer_44 : decode cX2_countAnswer 44 = .ok (.ireturn, 1) := by decide +kernel
theorem dX2_countAnswer_45 : decode cX2_countAnswer 45 = .ok (.aload_n 0, 1) := by decide +kernel
theorem dX2_countAnswer_46 : decode cX2_countAnswer 46 = .ok (.getfield 18, 3) := by decide +kernel
theorem dX2_countAnswer_49 : decode cX2_countAnswer 49 = .ok (.invokevirtual 32, 3) := by decide +kernel
theorem dX2_countAnswer_52 : decode cX2_countAnswer 52 = .ok (.ireturn, 1) := by decide +kernel
theorem dX2_countAnswer_53 : decode cX2_countAnswer 53 = .ok (.aload_n 0, 1) := by decide +kernel
theorem dX2_countAnswer_54 : decode cX2_countAnswer 54 = .ok (.invokevirtual 268, 3) := by decide +kernel
theorem dX2_countAnswer_57 : decode cX2_countAnswer 57 = .ok (.ireturn, 1) := by decide +kernel
theorem dX2_countAnswer_58 : decode cX2_countAnswer 58 = .ok (.aload_n 0, 1) := by decide +kernel
theorem dX2_countAnswer_59 : decode cX2_countAnswer 59 = .ok (.invokevirtual 271, 3) := by decide +kernel
theorem dX2_countAnswer_62 : decode cX2_countAnswer 62 = .ok (.ireturn, 1) := by decide +kernel
theorem dX2_countAnswer_63 : decode cX2_countAnswer 63 = .ok (.aload_n 0, 1) := by decide +kernel
theorem dX2_countAnswer_64 : decode cX2_countAnswer 64 = .ok (.getfield 18, 3) := by decide +kernel
theorem dX2_countAnswer_67 : decode cX2_countAnswer 67 = .ok (.invokevirtual 32, 3) := by decide +kernel
theorem dX2_countAnswer_70 : decode cX2_countAnswer 70 = .ok (.aload_n 0, 1) := by decide +kernel
theorem dX2_countAnswer_71 : decode cX2_countAnswer 71 = .ok (.invokevirtual 268, 3) := by decide +kernel
theorem dX2_countAnswer_74 : decode cX2_countAnswer 74 = .ok (.isub, 1) := by decide +kernel
theorem dX2_countAnswer_75 : decode cX2_countAnswer 75 = .ok (.aload_n 0, 1) := by decide +kernel
theorem dX2_countAnswer_76 : decode cX2_countAnswer 76 = .ok (.invokevirtual 271, 3) := by decide +kernel
theorem dX2_countAnswer_79 : decode cX2_countAnswer 79 = .ok (.isub, 1) := by decide +kernel
theorem dX2_countAnswer_80 : decode cX2_countAnswer 80 = .ok (.ireturn, 1) := by decide +kernel
theorem dX2_countAnswer_81 : decode cX2_countAnswer 81 = .ok (.aload_n 0, 1) := by decide +kernel
theorem dX2_countAnswer_82 : decode cX2_countAnswer 82 = .ok (.getfield 22, 3) := by decide +kernel
theorem dX2_countAnswer_85 : decode cX2_countAnswer 85 = .ok (.invokevirtual 32, 3) := by decide +kernel
theorem dX2_countAnswer_88 : decode cX2_countAnswer 88 = .ok (.ireturn, 1) := by decide +kernel
theorem dX2_countAnswer_89 : decode cX2_countAnswer 89 = .ok (.aload_n 0, 1) := by decide +kernel
theorem dX2_countAnswer_90 : decode cX2_countAnswer 90 = .ok (.iconst 0, 1) := by decide +kernel
theorem dX2_countAnswer_91 : decode cX2_countAnswer 91 = .ok (.bipush 15, 2) := by decide +kernel
theorem dX2_countAnswer_93 : decode cX2_countAnswer 93 = .ok (.invokevirtual 111, 3) := by decide +kernel
theorem dX2_countAnswer_96 : decode cX2_countAnswer 96 = .ok (.ireturn, 1) := by decide +kernel
theorem dX2_numberOf_0 : decode cX2_numberOf 0 = .ok (.aload_n 0, 1) := by decide +kernel
theorem dX2_numberOf_1 : decode cX2_numberOf 1 = .ok (.ifnonnull 7, 3) := by decide +kernel
theorem dX2_numberOf_4 : decode cX2_numberOf 4 = .ok (.iconst (-1), 1) := by decide +kernel
theorem dX2_numberOf_5 : decode cX2_numberOf 5 = .ok (.goto 7, 3) := by decide +kernel
theorem dX2_numberOf_8 : decode cX2_numberOf 8 = .ok (.aload_n 0, 1) := by decide +kernel
theorem dX2_numberOf_9 : decode cX2_numberOf 9 = .ok (.getfield 64, 3) := by decide +kernel
theorem dX2_numberOf_12 : decode cX2_numberOf 12 = .ok (.ireturn, 1) := by decide +kernel
set_option maxRecDepth 20000 in
theorem ggX2_weightsAt_X2_uppermostAt : GoodIn wsX2_weightsAt wsX2_uppermostAt := goodIn_r _ [7, 8, 9, 10, 6, 11, 12, 13, 14, 22, 23, 24, 25] (by decide +kernel) (by decide +kernel)
set_option maxRecDepth 20000 in
theorem gX2_weightsAt_X2_uppermostAt : GoodIn wsX2_weightsAt (wsV RX2 149 RX2 yX2_uppermostAt wsX2_uppermostAt) := goodIn_app (goodIn_of _ (by decide +kernel)) ggX2_weightsAt_X2_uppermostAt
theorem dX2_weightsAt_0 : decode cX2_weightsAt 0 = .ok (.iconst 0, 1) := by decide +kernel
theorem dX2_weightsAt_1 : decode cX2_weightsAt 1 = .ok (.istore_n 2, 1) := by decide +kernel
theorem dX2_weightsAt_2 : decode cX2_weightsAt 2 = .ok (.aload_n 0, 1) := by decide +kernel
theorem dX2_weightsAt_3 : decode cX2_weightsAt 3 = .ok (.iload_n 1, 1) := by decide +kernel
theorem dX2_weightsAt_4 : decode cX2_weightsAt 4 = .ok (.invokevirtual 149, 3) := by decide +kernel
theorem dX2_weightsAt_7 : decode cX2_weightsAt 7 = .ok (.astore_n 3, 1) := by decide +kernel
theorem dX2_weightsAt_8 : decode cX2_weightsAt 8 = .ok (.aload_n 3, 1) := by decide +kernel
theorem dX2_weightsAt_9 : decode cX2_weightsAt 9 = .ok (.ifnull 18, 3) := by decide +kernel
theorem dX2_weightsAt_12 : decode cX2_weightsAt 12 = .ok (.iload_n 2, 1) := by decide +kernel
theorem dX2_weightsAt_13 : decode cX2_weightsAt 13 = .ok (.aload_n 3, 1) := by decide +kernel
theorem dX2_weightsAt_14 : decode cX2_weightsAt 14 = .ok (.getfield 134, 3) := by decide +kernel
theorem dX2_weightsAt_17 : decode cX2_weightsAt 17 = .ok (.iadd, 1) := by decide +kernel
theorem dX2_weightsAt_18 : decode cX2_weightsAt 18 = .ok (.istore_n 2, 1) := by decide +kernel
theorem dX2_weightsAt_19 : decode cX2_weightsAt 19 = .ok (.aload_n 3, 1) := by decide +kernel
theorem dX2_weightsAt_20 : decode cX2_weightsAt 20 = .ok (.getfield 231, 3) := by decide +kernel
theorem dX2_weightsAt_23 : decode cX2_weightsAt 23 = .ok (.astore_n 3, 1) := by decide +kernel
theorem dX2_weightsAt_24 : decode cX2_weightsAt 24 = .ok (.goto (-16), 3) := by decide +kernel
theorem dX2_weightsAt_27 : decode cX2_weightsAt 27 = .ok (.iload_n 2, 1) := by decide +kernel
theorem dX2_weightsAt_28 : decode cX2_weightsAt 28 = .ok (.ireturn, 1) := by decide +kernel
set_option maxRecDepth 20000 in
theorem ggX2_hooksOver_Jx4a65c_size_8abf5 : GoodIn wsX2_hooksOver wsJx4a65c_size_8abf5 := goodIn_r _ [8, 9, 39, 40, 41] (by decide +kernel) (by decide +kernel)
set_option maxRecDepth 20000 in
theorem gX2_hooksOver_Jx4a65c_size_8abf5 : GoodIn wsX2_hooksOver (wsV RX2 32 RJx4a65c yJx4a65c_size_8abf5 wsJx4a65c_size_8abf5) := goodIn_app (goodIn_of _ (by decide +kernel)) ggX2_hooksOver_Jx4a65c_size_8abf5
set_option maxRecDepth 20000 in
theorem ggX2_hooksOver_Jx4a65c_get_915e3 : GoodIn wsX2_hooksOver wsJx4a65c_get_915e3 := goodIn_r _ [13, 9, 14, 15, 16, 17, 18, 19, 20, 21, 22, 23, 24, 7, 25, 26, 39, 40, 41] (by decide +kernel) (by decide +kernel)
set_option maxRecDepth 20000 in
theorem gX2_hooksOver_Jx4a65c_get_915e3 : GoodIn wsX2_hooksOver (wsV RX2 89 RJx4a65c yJx4a65c_get_915e3 wsJx4a65c_get_915e3) := goodIn_app (goodIn_of _ (by decide +kernel)) ggX2_hooksOver_Jx4a65c_get_915e3
theorem dX2_hooksOver_0 : decode cX2_hooksOver 0 = .ok (.iconst 0, 1) := by decide +kernel
theorem dX2_hooksOver_1 : decode cX2_hooksOver 1 = .ok (.istore_n 2, 1) := by decide +kernel
theorem dX2_hooksOver_2 : decode cX2_hooksOver 2 = .ok (.iconst 0, 1) := by decide +kernel
theorem dX2_hooksOver_3 : decode cX2_hooksOver 3 = .ok (.istore_n 3, 1) := by decide +kernel
theorem dX2_hooksOver_4 : decode cX2_hooksOver 4 = .ok (.iload_n 3, 1) := by decide +kernel
theorem dX2_hooksOver_5 : decode cX2_hooksOver 5 = .ok (.aload_n 0, 1) := by decide +kernel
theorem dX2_hooksOver_6 : decode cX2_hooksOver 6 = .ok (.getfield 22, 3) := by decide +kernel
theorem dX2_hooksOver_9 : decode cX2_hooksOver 9 = .ok (.invokevirtual 32, 3) := by decide +kernel
theorem dX2_hooksOver_12 : decode cX2_hooksOver 12 = .ok (.if_icmp .ge 30, 3) := by decide +kernel
theorem dX2_hooksOver_15 : decode cX2_hooksOver 15 = .ok (.aload_n 0, 1) := by decide +kernel
theorem dX2_hooksOver_16 : decode cX2_hooksOver 16 = .ok (.getfield 22, 3) := by decide +kernel
theorem dX2_hooksOver_19 : decode cX2_hooksOver 19 = .ok (.iload_n 3, 1) := by decide +kernel
theorem dX2_hooksOver_20 : decode cX2_hooksOver 20 = .ok (.invokevirtual 89, 3) := by decide +kernel
theorem dX2_hooksOver_23 : decode cX2_hooksOver 23 = .ok (.checkcast 81, 3) := by decide +kernel
theorem dX2_hooksOver_26 : decode cX2_hooksOver 26 = .ok (.getfield 108, 3) := by decide +kernel
theorem dX2_hooksOver_29 : decode cX2_hooksOver 29 = .ok (.iload_n 1, 1) := by decide +kernel
theorem dX2_hooksOver_30 : decode cX2_hooksOver 30 = .ok (.if_icmp .ne 6, 3) := by decide +kernel
theorem dX2_hooksOver_33 : decode cX2_hooksOver 33 = .ok (.iinc 2 1, 3) := by decide +kernel
theorem dX2_hooksOver_36 : decode cX2_hooksOver 36 = .ok (.iinc 3 1, 3) := by decide +kernel
theorem dX2_hooksOver_39 : decode cX2_hooksOver 39 = .ok (.goto (-35), 3) := by decide +kernel
theorem dX2_hooksOver_42 : decode cX2_hooksOver 42 = .ok (.iload_n 2, 1) := by decide +kernel
theorem dX2_hooksOver_43 : decode cX2_hooksOver 43 = .ok (.ireturn, 1) := by decide +kernel
set_option maxRecDepth 20000 in
theorem ggX2_standing_X2_heightOf : GoodIn wsX2_standing wsX2_heightOf := goodIn_r _ [5, 6, 7, 8, 9, 4, 10, 11, 12, 13, 14, 15, 16, 17, 18, 19, 20, 21, 22, 23, 24, 25, 26, 27, 28] (by decide +kernel) (by decide +kernel)
set_option maxRecDepth 20000 in
theorem gX2_standing_X2_heightOf : GoodIn wsX2_standing (wsV RX2 36 RX2 yX2_heightOf wsX2_heightOf) := goodIn_app (goodIn_of _ (by decide +kernel)) ggX2_standing_X2_heightOf
theorem dX2_standing_0 : decode cX2_standing 0 = .ok (.iconst 0, 1) := by decide +kernel
theorem dX2_standing_1 : decode cX2_standing 1 = .ok (.istore_n 1, 1) := by decide +kernel
theorem dX2_standing_2 : decode cX2_standing 2 = .ok (.iconst 0, 1) := by decide +kernel
theorem dX2_standing_3 : decode cX2_standing 3 = .ok (.istore_n 2, 1) := by decide +kernel
theorem dX2_standing_4 : decode cX2_standing 4 = .ok (.iload_n 2, 1) := by decide +kernel
theorem dX2_standing_5 : decode cX2_standing 5 = .ok (.bipush 16, 2) := by decide +kernel
theorem dX2_standing_7 : decode cX2_standing 7 = .ok (.if_icmp .ge 17, 3) := by decide +kernel
theorem dX2_standing_10 : decode cX2_standing 10 = .ok (.iload_n 1, 1) := by decide +kernel
theorem dX2_standing_11 : decode cX2_standing 11 = .ok (.aload_n 0, 1) := by decide +kernel
theorem dX2_standing_12 : decode cX2_standing 12 = .ok (.iload_n 2, 1) := by decide +kernel
theorem dX2_standing_13 : decode cX2_standing 13 = .ok (.invokevirtual 36, 3) := by decide +kernel
theorem dX2_standing_16 : decode cX2_standing 16 = .ok (.iadd, 1) := by decide +kernel
theorem dX2_standing_17 : decode cX2_standing 17 = .ok (.istore_n 1, 1) := by decide +kernel
theorem dX2_standing_18 : decode cX2_standing 18 = .ok (.iinc 2 1, 3) := by decide +kernel
theorem dX2_standing_21 : decode cX2_standing 21 = .ok (.goto (-17), 3) := by decide +kernel
theorem dX2_standing_24 : decode cX2_standing 24 = .ok (.iload_n 1, 1) := by decide +kernel
theorem dX2_standing_25 : decode cX2_standing 25 = .ok (.ireturn, 1) := by decide +kernel
set_option maxRecDepth 20000 in
theorem ggX2_hanging_Jx4a65c_size_8abf5 : GoodIn wsX2_hanging wsJx4a65c_size_8abf5 := goodIn_r _ [8, 9, 39, 40, 41] (by decide +kernel) (by decide +kernel)
set_option maxRecDepth 20000 in
theorem gX2_hanging_Jx4a65c_size_8abf5 : GoodIn wsX2_hanging (wsV RX2 32 RJx4a65c yJx4a65c_size_8abf5 wsJx4a65c_size_8abf5) := goodIn_app (goodIn_of _ (by decide +kernel)) ggX2_hanging_Jx4a65c_size_8abf5
set_option maxRecDepth 20000 in
theorem ggX2_hanging_Jx4a65c_get_915e3 : GoodIn wsX2_hanging wsJx4a65c_get_915e3 := goodIn_r _ [13, 9, 14, 15, 16, 17, 18, 19, 20, 21, 22, 23, 24, 7, 25, 26, 39, 40, 41] (by decide +kernel) (by decide +kernel)
set_option maxRecDepth 20000 in
theorem gX2_hanging_Jx4a65c_get_915e3 : GoodIn wsX2_hanging (wsV RX2 89 RJx4a65c yJx4a65c_get_915e3 wsJx4a65c_get_915e3) := goodIn_app (goodIn_of _ (by decide +kernel)) ggX2_hanging_Jx4a65c_get_915e3
theorem dX2_hanging_0 : decode cX2_hanging 0 = .ok (.iconst 0, 1) := by decide +kernel
theorem dX2_hanging_1 : decode cX2_hanging 1 = .ok (.istore_n 1, 1) := by decide +kernel
theorem dX2_hanging_2 : decode cX2_hanging 2 = .ok (.iconst 0, 1) := by decide +kernel
theorem dX2_hanging_3 : decode cX2_hanging 3 = .ok (.istore_n 2, 1) := by decide +kernel
theorem dX2_hanging_4 : decode cX2_hanging 4 = .ok (.iload_n 2, 1) := by decide +kernel
theorem dX2_hanging_5 : decode cX2_hanging 5 = .ok (.aload_n 0, 1) := by decide +kernel
theorem dX2_hanging_6 : decode cX2_hanging 6 = .ok (.getfield 22, 3) := by decide +kernel
theorem dX2_hanging_9 : decode cX2_hanging 9 = .ok (.invokevirtual 32, 3) := by decide +kernel
theorem dX2_hanging_12 : decode cX2_hanging 12 = .ok (.if_icmp .ge 29, 3) := by decide +kernel
theorem dX2_hanging_15 : decode cX2_hanging 15 = .ok (.aload_n 0, 1) := by decide +kernel
theorem dX2_hanging_16 : decode cX2_hanging 16 = .ok (.getfield 22, 3) := by decide +kernel
theorem dX2_hanging_19 : decode cX2_hanging 19 = .ok (.iload_n 2, 1) := by decide +kernel
theorem dX2_hanging_20 : decode cX2_hanging 20 = .ok (.invokevirtual 89, 3) := by decide +kernel
theorem dX2_hanging_23 : decode cX2_hanging 23 = .ok (.checkcast 81, 3) := by decide +kernel
theorem dX2_hanging_26 : decode cX2_hanging 26 = .ok (.getfield 130, 3) := by decide +kernel
theorem dX2_hanging_29 : decode cX2_hanging 29 = .ok (.ifnull 6, 3) := by decide +kernel
theorem dX2_hanging_32 : decode cX2_hanging 32 = .ok (.iinc 1 1, 3) := by decide +kernel
theorem dX2_hanging_35 : decode cX2_hanging 35 = .ok (.iinc 2 1, 3) := by decide +kernel
theorem dX2_hanging_38 : decode cX2_hanging 38 = .ok (.goto (-34), 3) := by decide +kernel
theorem dX2_hanging_41 : decode cX2_hanging 41 = .ok (.iload_n 1, 1) := by decide +kernel
theorem dX2_hanging_42 : decode cX2_hanging 42 = .ok (.ireturn, 1) := by decide +kernel
theorem dX3_init_0 : decode cX3_init 0 = .ok (.aload_n 0, 1) := by decide +kernel
theorem dX3_init_1 : decode cX3_init 1 = .ok (.invokespecial 1, 3) := by decide +kernel
theorem dX3_init_4 : decode cX3_init 4 = .ok (.aload_n 0, 1) := by decide +kernel
theorem dX3_init_5 : decode cX3_init 5 = .ok (.bipush 40, 2) := by decide +kernel
theorem dX3_init_7 : decode cX3_init 7 = .ok (.newarray .int, 2) := by decide +kernel
theorem dX3_init_9 : decode cX3_init 9 = .ok (.putfield 9, 3) := by decide +kernel
theorem dX3_init_12 : decode cX3_init 12 = .ok (.aload_n 0, 1) := by decide +kernel
theorem dX3_init_13 : decode cX3_init 13 = .ok (.bipush 40, 2) := by decide +kernel
theorem dX3_init_15 : decode cX3_init 15 = .ok (.newarray .int, 2) := by decide +kernel
theorem dX3_init_17 : decode cX3_init 17 = .ok (.putfield 13, 3) := by decide +kernel
theorem dX3_init_20 : decode cX3_init 20 = .ok (.aload_n 0, 1) := by decide +kernel
theorem dX3_init_21 : decode cX3_init 21 = .ok (.bipush 40, 2) := by decide +kernel
theorem dX3_init_23 : decode cX3_init 23 = .ok (.newarray .int, 2) := by decide +kernel
theorem dX3_init_25 : decode cX3_init 25 = .ok (.putfield 16, 3) := by decide +kernel
theorem dX3_init_28 : decode cX3_init 28 = .ok (.aload_n 0, 1) := by decide +kernel
theorem dX3_init_29 : decode cX3_init 29 = .ok (.iconst 5, 1) := by decide +kernel
theorem dX3_init_30 : decode cX3_init 30 = .ok (.newarray .int, 2) := by decide +kernel
theorem dX3_init_32 : decode cX3_init 32 = .ok (.putfield 19, 3) := by decide +kernel
theorem dX3_init_35 : decode cX3_init 35 = .ok (.aload_n 0, 1) := by decide +kernel
theorem dX3_init_36 : decode cX3_init 36 = .ok (.iconst 5, 1) := by decide +kernel
theorem dX3_init_37 : decode cX3_init 37 = .ok (.newarray .int, 2) := by decide +kernel
theorem dX3_init_39 : decode cX3_init 39 = .ok (.putfield 22, 3) := by decide +kernel
theorem dX3_init_42 : decode cX3_init 42 = .ok (.aload_n 0, 1) := by decide +kernel
theorem dX3_init_43 : decode cX3_init 43 = .ok (.iconst 5, 1) := by decide +kernel
theorem dX3_init_44 : decode cX3_init 44 = .ok (.newarray .int, 2) := by decide +kernel
theorem dX3_init_46 : decode cX3_init 46 = .ok (.putfield 25, 3) := by decide +kernel
theorem dX3_init_49 : decode cX3_init 49 = .ok (.aload_n 0, 1) := by decide +kernel
theorem dX3_init_50 : decode cX3_init 50 = .ok (.iconst 5, 1) := by decide +kernel
theorem dX3_init_51 : decode cX3_init 51 = .ok (.newarray .int, 2) := by decide +kernel
theorem dX3_init_53 : decode cX3_init 53 = .ok (.putfield 28, 3) := by decide +kernel
theorem dX3_init_56 : decode cX3_init 56 = .ok (.aload_n 0, 1) := by decide +kernel
theorem dX3_init_57 : decode cX3_init 57 = .ok (.iconst 5, 1) := by decide +kernel
theorem dX3_init_58 : decode cX3_init 58 = .ok (.newarray .int, 2) := by decide +kernel
theorem dX3_init_60 : decode cX3_init 60 = .ok (.putfield 31, 3) := by decide +kernel
theorem dX3_init_63 : decode cX3_init 63 = .ok (.aload_n 0, 1) := by decide +kernel
theorem dX3_init_64 : decode cX3_init 64 = .ok (.iconst 5, 1) := by decide +kernel
theorem dX3_init_65 : decode cX3_init 65 = .ok (.newarray .int, 2) := by decide +kernel
theorem dX3_init_67 : decode cX3_init 67 = .ok (.putfield 34, 3) := by decide +kernel
theorem dX3_init_70 : decode cX3_init 70 = .ok (.aload_n 0, 1) := by decide +kernel
theorem dX3_init_71 : decode cX3_init 71 = .ok (.iconst 5, 1) := by decide +kernel
theorem dX3_init_72 : decode cX3_init 72 = .ok (.newarray .int, 2) := by decide +kernel
theorem dX3_init_74 : decode cX3_init 74 = .ok (.putfield 37, 3) := by decide +kernel
theorem dX3_init_77 : decode cX3_init 77 = .ok (.aload_n 0, 1) := by decide +kernel
theorem dX3_init_78 : decode cX3_init 78 = .ok (.iconst 5, 1) := by decide +kernel
theorem dX3_init_79 : decode cX3_init 79 = .ok (.newarray .int, 2) := by decide +kernel
theorem dX3_init_81 : decode cX3_init 81 = .ok (.putfield 40, 3) := by decide +kernel
theorem dX3_init_84 : decode cX3_init 84 = .ok (.return_, 1) := by decide +kernel
theorem dX3_thrown_0 : decode cX3_thrown 0 = .ok (.aload_n 0, 1) := by decide +kernel
theorem dX3_thrown_1 : decode cX3_thrown 1 = .ok (.getfield 43, 3) := by decide +kernel
theorem dX3_thrown_4 : decode cX3_thrown 4 = .ok (.ireturn, 1) := by decide +kernel
theorem dX3_no_0 : decode cX3_no 0 = .ok (.aload_n 0, 1) := by decide +kernel
theorem dX3_no_1 : decode cX3_no 1 = .ok (.iload_n 1, 1) := by decide +kernel
theorem dX3_no_2 : decode cX3_no 2 = .ok (.putfield 43, 3) := by decide +kernel
theorem dX3_no_5 : decode cX3_no 5 = .ok (.iconst 0, 1) := by decide +kernel
theorem dX3_no_6 : decode cX3_no 6 = .ok (.ireturn, 1) := by decide +kernel
theorem dX3_isIn_0 : decode cX3_isIn 0 = .ok (.iload_n 0, 1) := by decide +kernel
theorem dX3_isIn_1 : decode cX3_isIn 1 = .ok (.iload_n 1, 1) := by decide +kernel
theorem dX3_isIn_2 : decode cX3_isIn 2 = .ok (.if_icmp .lt 12, 3) := by decide +kernel
theorem dX3_isIn_5 : decode cX3_isIn 5 = .ok (.iload_n 0, 1) := by decide +kernel
theorem dX3_isIn_6 : decode cX3_isIn 6 = .ok (.iload_n 2, 1) := by decide +kernel
theorem dX3_isIn_7 : decode cX3_isIn 7 = .ok (.if_icmp .gt 7, 3) := by decide +kernel
theorem dX3_isIn_10 : decode cX3_isIn 10 = .ok (.iconst 1, 1) := by decide +kernel
theorem dX3_isIn_11 : decode cX3_isIn 11 = .ok (.goto 4, 3) := by decide +kernel
theorem dX3_isIn_14 : decode cX3_isIn 14 = .ok (.iconst 0, 1) := by decide +kernel
theorem dX3_isIn_15 : decode cX3_isIn 15 = .ok (.ireturn, 1) := by decide +kernel
set_option maxRecDepth 20000 in
theorem ggX3_isPlace_X3_isIn : GoodIn wsX3_isPlace wsX3_isIn := goodIn_r _ [4] (by decide +kernel) (by decide +kernel)
set_option maxRecDepth 20000 in
theorem gX3_isPlace_X3_isIn : GoodIn wsX3_isPlace (va_wsS RX3 47 yX3_isIn wsX3_isIn) := goodIn_app (goodIn_of _ (by decide +kernel)) ggX3_isPlace_X3_isIn
theorem dX3_isPlace_0 : decode cX3_isPlace 0 = .ok (.iload_n 0, 1) := by decide +kernel
theorem dX3_isPlace_1 : decode cX3_isPlace 1 = .ok (.iconst 0, 1) := by decide +kernel
theorem dX3_isPlace_2 : decode cX3_isPlace 2 = .ok (.bipush 15, 2) := by decide +kernel
theorem dX3_isPlace_4 : decode cX3_isPlace 4 = .ok (.invokestatic 47, 3) := by decide +kernel
theorem dX3_isPlace_7 : decode cX3_isPlace 7 = .ok (.ireturn, 1) := by decide +kernel
set_option maxRecDepth 20000 in
theorem ggX3_isCrane_X3_isIn : GoodIn wsX3_isCrane wsX3_isIn := goodIn_r _ [5] (by decide +kernel) (by decide +kernel)
set_option maxRecDepth 20000 in
theorem gX3_isCrane_X3_isIn : GoodIn wsX3_isCrane (va_wsS RX3 47 yX3_isIn wsX3_isIn) := goodIn_app (goodIn_of _ (by decide +kernel)) ggX3_isCrane_X3_isIn
theorem dX3_isCrane_0 : decode cX3_isCrane 0 = .ok (.iload_n 1, 1) := by decide +kernel
theorem dX3_isCrane_1 : decode cX3_isCrane 1 = .ok (.iconst 0, 1) := by decide +kernel
theorem dX3_isCrane_2 : decode cX3_isCrane 2 = .ok (.aload_n 0, 1) := by decide +kernel
theorem dX3_isCrane_3 : decode cX3_isCrane 3 = .ok (.getfield 51, 3) := by decide +kernel
theorem dX3_isCrane_6 : decode cX3_isCrane 6 = .ok (.iconst 1, 1) := by decide +kernel
theorem dX3_isCrane_7 : decode cX3_isCrane 7 = .ok (.isub, 1) := by decide +kernel
theorem dX3_isCrane_8 : decode cX3_isCrane 8 = .ok (.invokestatic 47, 3) := by decide +kernel
theorem dX3_isCrane_11 : decode cX3_isCrane 11 = .ok (.ireturn, 1) := by decide +kernel
theorem dX3_high_0 : decode cX3_high 0 = .ok (.iconst 0, 1) := by decide +kernel
theorem dX3_high_1 : decode cX3_high 1 = .ok (.istore_n 2, 1) := by decide +kernel
theorem dX3_high_2 : decode cX3_high 2 = .ok (.iconst 0, 1) := by decide +kernel
theorem dX3_high_3 : decode cX3_high 3 = .ok (.istore_n 3, 1) := by decide +kernel
theorem dX3_high_4 : decode cX3_high 4 = .ok (.iload_n 3, 1) := by decide +kernel
theorem dX3_high_5 : decode cX3_high 5 = .ok (.aload_n 0, 1) := by decide +kernel
theorem dX3_high_6 : decode cX3_high 6 = .ok (.getfield 54, 3) := by decide +kernel
theorem dX3_high_9 : decode cX3_high 9 = .ok (.if_icmp .ge 27, 3) := by decide +kernel
theorem dX3_high_12 : decode cX3_high 12 = .ok (.iload_n 2, 1) := by decide +kernel
theorem dX3_high_13 : decode cX3_high 13 = .ok (.aload_n 0, 1) := by decide +kernel
theorem dX3_high_14 : decode cX3_high 14 = .ok (.getfield 13, 3) := by decide +kernel
theorem dX3_high_17 : decode cX3_high 17 = .ok (.iload_n 3, 1) := by decide +kernel
theorem dX3_high_18 : decode cX3_high 18 = .ok (.iaload, 1) := by decide +kernel
theorem dX3_high_19 : decode cX3_high 19 = .ok (.iload_n 1, 1) := by decide +kernel
theorem dX3_high_20 : decode cX3_high 20 = .ok (.if_icmp .ne 7, 3) := by decide +kernel
theorem dX3_high_23 : decode cX3_high 23 = .ok (.iconst 1, 1) := by decide +kernel
theorem dX3_high_24 : decode cX3_high 24 = .ok (.goto 4, 3) := by decide +kernel
theorem dX3_high_27 : decode cX3_high 27 = .ok (.iconst 0, 1) := by decide +kernel
theorem dX3_high_28 : decode cX3_high 28 = .ok (.iadd, 1) := by decide +kernel
theorem dX3_high_29 : decode cX3_high 29 = .ok (.istore_n 2, 1) := by decide +kernel
theorem dX3_high_30 : decode cX3_high 30 = .ok (.iinc 3 1, 3) := by decide +kernel
theorem dX3_high_33 : decode cX3_high 33 = .ok (.goto (-29), 3) := by decide +kernel
theorem dX3_high_36 : decode cX3_high 36 = .ok (.iload_n 2, 1) := by decide +kernel
theorem dX3_high_37 : decode cX3_high 37 = .ok (.ireturn, 1) := by decide +kernel
set_option maxRecDepth 20000 in
theorem ggX3_top_X3_high : GoodIn wsX3_top wsX3_high := goodIn_r _ [8, 1, 2, 9, 10, 11, 12, 13, 14, 15, 16, 17, 18, 19, 20, 21, 22, 23] (by decide +kernel) (by decide +kernel)
set_option maxRecDepth 20000 in
theorem gX3_top_X3_high : GoodIn wsX3_top (wsV RX3 57 RX3 yX3_high wsX3_high) := goodIn_app (goodIn_of _ (by decide +kernel)) ggX3_top_X3_high
theorem dX3_top_0 : decode cX3_top 0 = .ok (.iconst 0, 1) := by decide +kernel
theorem dX3_top_1 : decode cX3_top 1 = .ok (.istore_n 2, 1) := by decide +kernel
theorem dX3_top_2 : decode cX3_top 2 = .ok (.iload_n 2, 1) := by decide +kernel
theorem dX3_top_3 : decode cX3_top 3 = .ok (.aload_n 0, 1) := by decide +kernel
theorem dX3_top_4 : decode cX3_top 4 = .ok (.getfield 54, 3) := by decide +kernel
theorem dX3_top_7 : decode cX3_top 7 = .ok (.if_icmp .ge 37, 3) := by decide +kernel
theorem dX3_top_10 : decode cX3_top 10 = .ok (.aload_n 0, 1) := by decide +kernel
theorem dX3_top_11 : decode cX3_top 11 = .ok (.getfield 13, 3) := by decide +kernel
theorem dX3_top_14 : decode cX3_top 14 = .ok (.iload_n 2, 1) := by decide +kernel
theorem dX3_top_15 : decode cX3_top 15 = .ok (.iaload, 1) := by decide +kernel
theorem dX3_top_16 : decode cX3_top 16 = .ok (.iload_n 1, 1) := by decide +kernel
theorem dX3_top_17 : decode cX3_top 17 = .ok (.if_icmp .ne 21, 3) := by decide +kernel
theorem dX3_top_20 : decode cX3_top 20 = .ok (.aload_n 0, 1) := by decide +kernel
theorem dX3_top_21 : decode cX3_top 21 = .ok (.getfield 16, 3) := by decide +kernel
theorem dX3_top_24 : decode cX3_top 24 = .ok (.iload_n 2, 1) := by decide +kernel
theorem dX3_top_25 : decode cX3_top 25 = .ok (.iaload, 1) := by decide +kernel
theorem dX3_top_26 : decode cX3_top 26 = .ok (.aload_n 0, 1) := by decide +kernel
theorem dX3_top_27 : decode cX3_top 27 = .ok (.iload_n 1, 1) := by decide +kernel
theorem dX3_top_28 : decode cX3_top 28 = .ok (.invokevirtual 57, 3) := by decide +kernel
theorem dX3_top_31 : decode cX3_top 31 = .ok (.iconst 1, 1) := by decide +kernel
theorem dX3_top_32 : decode cX3_top 32 = .ok (.isub, 1) := by decide +kernel
theorem dX3_top_33 : decode cX3_top 33 = .ok (.if_icmp .ne 5, 3) := by decide +kernel
theorem dX3_top_36 : decode cX3_top 36 = .ok (.iload_n 2, 1) := by decide +kernel
theorem dX3_top_37 : decode cX3_top 37 = .ok (.ireturn, 1) := by decide +kernel
theorem dX3_top_38 : decode cX3_top 38 = .ok (.iinc 2 1, 3) := by decide +kernel
theorem dX3_top_41 : decode cX3_top 41 = .ok (.goto (-39), 3) := by decide +kernel
theorem dX3_top_44 : decode cX3_top 44 = .ok (.iconst (-1), 1) := by decide +kernel
theorem dX3_top_45 : decode cX3_top 45 = .ok (.ireturn, 1) := by decide +kernel
theorem dX3_loaded_0 : decode cX3_loaded 0 = .ok (.aload_n 0, 1) := by decide +kernel
theorem dX3_loaded_1 : decode cX3_loaded 1 = .ok (.getfield 40, 3) := by decide +kernel
theorem dX3_loaded_4 : decode cX3_loaded 4 = .ok (.iload_n 1, 1) := by decide +kernel
theorem dX3_loaded_5 : decode cX3_loaded 5 = .ok (.iaload, 1) := by decide +kernel
theorem dX3_loaded_6 : decode cX3_loaded 6 = .ok (.iconst (-1), 1) := by decide +kernel
theorem dX3_loaded_7 : decode cX3_loaded 7 = .ok (.if_icmp .ne 7, 3) := by decide +kernel
theorem dX3_loaded_10 : decode cX3_loaded 10 = .ok (.iconst 0, 1) := by decide +kernel
theorem dX3_loaded_11 : decode cX3_loaded 11 = .ok (.goto 4, 3) := by decide +kernel
theorem dX3_loaded_14 : decode cX3_loaded 14 = .ok (.iconst 1, 1) := by decide +kernel
theorem dX3_loaded_15 : decode cX3_loaded 15 = .ok (.ireturn, 1) := by decide +kernel
theorem dX3_strength_0 : decode cX3_strength 0 = .ok (.bipush 12, 2) := by decide +kernel
theorem dX3_strength_2 : decode cX3_strength 2 = .ok (.aload_n 0, 1) := by decide +kernel
theorem dX3_strength_3 : decode cX3_strength 3 = .ok (.getfield 28, 3) := by decide +kernel
theorem dX3_strength_6 : decode cX3_strength 6 = .ok (.iload_n 1, 1) := by decide +kernel
theorem dX3_strength_7 : decode cX3_strength 7 = .ok (.iaload, 1) := by decide +kernel
theorem dX3_strength_8 : decode cX3_strength 8 = .ok (.imul, 1) := by decide +kernel
theorem dX3_strength_9 : decode cX3_strength 9 = .ok (.aload_n 0, 1) := by decide +kernel
theorem dX3_strength_10 : decode cX3_strength 10 = .ok (.getfield 25, 3) := by decide +kernel
theorem dX3_strength_13 : decode cX3_strength 13 = .ok (.iload_n 1, 1) := by decide +kernel
theorem dX3_strength_14 : decode cX3_strength 14 = .ok (.iaload, 1) := by decide +kernel
theorem dX3_strength_15 : decode cX3_strength 15 = .ok (.idiv, 1) := by decide +kernel
theorem dX3_strength_16 : decode cX3_strength 16 = .ok (.ireturn, 1) := by decide +kernel
theorem dX3_wound_0 : decode cX3_wound 0 = .ok (.iload_n 2, 1) := by decide +kernel
theorem dX3_wound_1 : decode cX3_wound 1 = .ok (.aload_n 0, 1) := by decide +kernel
theorem dX3_wound_2 : decode cX3_wound 2 = .ok (.getfield 25, 3) := by decide +kernel
theorem dX3_wound_5 : decode cX3_wound 5 = .ok (.iload_n 1, 1) := by decide +kernel
theorem dX3_wound_6 : decode cX3_wound 6 = .ok (.iaload, 1) := by decide +kernel
theorem dX3_wound_7 : decode cX3_wound 7 = .ok (.iadd, 1) := by decide +kernel
theorem dX3_wound_8 : decode cX3_wound 8 = .ok (.iconst 1, 1) := by decide +kernel
theorem dX3_wound_9 : decode cX3_wound 9 = .ok (.isub, 1) := by decide +kernel
theorem dX3_wound_10 : decode cX3_wound 10 = .ok (.aload_n 0, 1) := by decide +kernel
theorem dX3_wound_11 : decode cX3_wound 11 = .ok (.getfield 25, 3) := by decide +kernel
theorem dX3_wound_14 : decode cX3_wound 14 = .ok (.iload_n 1, 1) := by decide +kernel
theorem dX3_wound_15 : decode cX3_wound 15 = .ok (.iaload, 1) := by decide +kernel
theorem dX3_wound_16 : decode cX3_wound 16 = .ok (.idiv, 1) := by decide +kernel
theorem dX3_wound_17 : decode cX3_wound 17 = .ok (.ireturn, 1) := by decide +kernel
theorem dX3_isInReach_0 : decode cX3_isInReach 0 = .ok (.iload_n 2, 1) := by decide +kernel
theorem dX3_isInReach_1 : decode cX3_isInReach 1 = .ok (.aload_n 0, 1) := by decide +kernel
theorem dX3_isInReach_2 : decode cX3_isInReach 2 = .ok (.getfield 19, 3) := by decide +kernel
theorem dX3_isInReach_5 : decode cX3_isInReach 5 = .ok (.iload_n 1, 1) := by decide +kernel
theorem dX3_isInReach_6 : decode cX3_isInReach 6 = .ok (.iaload, 1) := by decide +kernel
theorem dX3_isInReach_7 : decode cX3_isInReach 7 = .ok (.isub, 1) := by decide +kernel
theorem dX3_isInReach_8 : decode cX3_isInReach 8 = .ok (.invokestatic 61, 3) := by decide +kernel
theorem dX3_isInReach_11 : decode cX3_isInReach 11 = .ok (.aload_n 0, 1) := by decide +kernel
theorem dX3_isInReach_12 : decode cX3_isInReach 12 = .ok (.getfield 22, 3) := by decide +kernel
theorem dX3_isInReach_15 : decode cX3_isInReach 15 = .ok (.iload_n 1, 1) := by decide +kernel
theorem dX3_isInReach_16 : decode cX3_isInReach 16 = .ok (.iaload, 1) := by decide +kernel
theorem dX3_isInReach_17 : decode cX3_isInReach 17 = .ok (.if_icmp .gt 7, 3) := by decide +kernel
theorem dX3_isInReach_20 : decode cX3_isInReach 20 = .ok (.iconst 1, 1) := by decide +kernel
theorem dX3_isInReach_21 : decode cX3_isInReach 21 = .ok (.goto 4, 3) := by decide +kernel
theorem dX3_isInReach_24 : decode cX3_isInReach 24 = .ok (.iconst 0, 1) := by decide +kernel
theorem dX3_isInReach_25 : decode cX3_isInReach 25 = .ok (.ireturn, 1) := by decide +kernel
set_option maxRecDepth 20000 in
theorem ggX3_isTooLow_X3_loaded : GoodIn wsX3_isTooLow wsX3_loaded := goodIn_r _ [8, 9, 10, 11, 12, 13, 14, 15, 16, 17, 18, 19, 20, 21, 22, 23, 24] (by decide +kernel) (by decide +kernel)
set_option maxRecDepth 20000 in
theorem gX3_isTooLow_X3_loaded : GoodIn wsX3_isTooLow (wsV RX3 66 RX3 yX3_loaded wsX3_loaded) := goodIn_app (goodIn_of _ (by decide +kernel)) ggX3_isTooLow_X3_loaded
theorem dX3_isTooLow_0 : decode cX3_isTooLow 0 = .ok (.iconst 0, 1) := by decide +kernel
theorem dX3_isTooLow_1 : decode cX3_isTooLow 1 = .ok (.istore 4, 2) := by decide +kernel
theorem dX3_isTooLow_3 : decode cX3_isTooLow 3 = .ok (.iload 4, 2) := by decide +kernel
theorem dX3_isTooLow_5 : decode cX3_isTooLow 5 = .ok (.aload_n 0, 1) := by decide +kernel
theorem dX3_isTooLow_6 : decode cX3_isTooLow 6 = .ok (.getfield 51, 3) := by decide +kernel
theorem dX3_isTooLow_9 : decode cX3_isTooLow 9 = .ok (.if_icmp .ge 46, 3) := by decide +kernel
theorem dX3_isTooLow_12 : decode cX3_isTooLow 12 = .ok (.iload 4, 2) := by decide +kernel
theorem dX3_isTooLow_14 : decode cX3_isTooLow 14 = .ok (.iload_n 3, 1) := by decide +kernel
theorem dX3_isTooLow_15 : decode cX3_isTooLow 15 = .ok (.if_icmp .eq 34, 3) := by decide +kernel
theorem dX3_isTooLow_18 : decode cX3_isTooLow 18 = .ok (.aload_n 0, 1) := by decide +kernel
theorem dX3_isTooLow_19 : decode cX3_isTooLow 19 = .ok (.getfield 34, 3) := by decide +kernel
theorem dX3_isTooLow_22 : decode cX3_isTooLow 22 = .ok (.iload 4, 2) := by decide +kernel
theorem dX3_isTooLow_24 : decode cX3_isTooLow 24 = .ok (.iaload, 1) := by decide +kernel
theorem dX3_isTooLow_25 : decode cX3_isTooLow 25 = .ok (.iload_n 1, 1) := by decide +kernel
theorem dX3_isTooLow_26 : decode cX3_isTooLow 26 = .ok (.if_icmp .ne 23, 3) := by decide +kernel
theorem dX3_isTooLow_29 : decode cX3_isTooLow 29 = .ok (.aload_n 0, 1) := by decide +kernel
theorem dX3_isTooLow_30 : decode cX3_isTooLow 30 = .ok (.getfield 37, 3) := by decide +kernel
theorem dX3_isTooLow_33 : decode cX3_isTooLow 33 = .ok (.iload 4, 2) := by decide +kernel
theorem dX3_isTooLow_35 : decode cX3_isTooLow 35 = .ok (.iaload, 1) := by decide +kernel
theorem dX3_isTooLow_36 : decode cX3_isTooLow 36 = .ok (.iload_n 2, 1) := by decide +kernel
theorem dX3_isTooLow_37 : decode cX3_isTooLow 37 = .ok (.aload_n 0, 1) := by decide +kernel
theorem dX3_isTooLow_38 : decode cX3_isTooLow 38 = .ok (.iload 4, 2) := by decide +kernel
theorem dX3_isTooLow_40 : decode cX3_isTooLow 40 = .ok (.invokevirtual 66, 3) := by decide +kernel
theorem dX3_isTooLow_43 : decode cX3_isTooLow 43 = .ok (.iadd, 1) := by decide +kernel
theorem dX3_isTooLow_44 : decode cX3_isTooLow 44 = .ok (.if_icmp .ge 5, 3) := by decide +kernel
theorem dX3_isTooLow_47 : decode cX3_isTooLow 47 = .ok (.iconst 1, 1) := by decide +kernel
theorem dX3_isTooLow_48 : decode cX3_isTooLow 48 = .ok (.ireturn, 1) := by decide +kernel
theorem dX3_isTooLow_49 : decode cX3_isTooLow 49 = .ok (.iinc 4 1, 3) := by decide +kernel
theorem dX3_isTooLow_52 : decode cX3_isTooLow 52 = .ok (.goto (-49), 3) := by decide +kernel
theorem dX3_isTooLow_55 : decode cX3_isTooLow 55 = .ok (.iconst 0, 1) := by decide +kernel
theorem dX3_isTooLow_56 : decode cX3_isTooLow 56 = .ok (.ireturn, 1) := by decide +kernel
set_option maxRecDepth 20000 in
theorem ggX3_highest_X3_high : GoodIn wsX3_highest wsX3_high := goodIn_r _ [12, 13, 14, 15, 16, 17, 18, 19, 20, 21, 22, 23, 24, 25, 26, 27, 28, 29] (by decide +kernel) (by decide +kernel)
set_option maxRecDepth 20000 in
theorem gX3_highest_X3_high : GoodIn wsX3_highest (wsV RX3 57 RX3 yX3_high wsX3_high) := goodIn_app (goodIn_of _ (by decide +kernel)) ggX3_highest_X3_high
theorem dX3_highest_0 : decode cX3_highest 0 = .ok (.iconst 0, 1) := by decide +kernel
theorem dX3_highest_1 : decode cX3_highest 1 = .ok (.istore 4, 2) := by decide +kernel
theorem dX3_highest_3 : decode cX3_highest 3 = .ok (.iload_n 1, 1) := by decide +kernel
theorem dX3_highest_4 : decode cX3_highest 4 = .ok (.iload_n 2, 1) := by decide +kernel
theorem dX3_highest_5 : decode cX3_highest 5 = .ok (.invokestatic 69, 3) := by decide +kernel
theorem dX3_highest_8 : decode cX3_highest 8 = .ok (.istore 5, 2) := by decide +kernel
theorem dX3_highest_10 : decode cX3_highest 10 = .ok (.iload 5, 2) := by decide +kernel
theorem dX3_highest_12 : decode cX3_highest 12 = .ok (.iload_n 1, 1) := by decide +kernel
theorem dX3_highest_13 : decode cX3_highest 13 = .ok (.iload_n 2, 1) := by decide +kernel
theorem dX3_highest_14 : decode cX3_highest 14 = .ok (.invokestatic 73, 3) := by decide +kernel
theorem dX3_highest_17 : decode cX3_highest 17 = .ok (.if_icmp .gt 34, 3) := by decide +kernel
theorem dX3_highest_20 : decode cX3_highest 20 = .ok (.iload 4, 2) := by decide +kernel
theorem dX3_highest_22 : decode cX3_highest 22 = .ok (.aload_n 0, 1) := by decide +kernel
theorem dX3_highest_23 : decode cX3_highest 23 = .ok (.iload 5, 2) := by decide +kernel
theorem dX3_highest_25 : decode cX3_highest 25 = .ok (.invokevirtual 57, 3) := by decide +kernel
theorem dX3_highest_28 : decode cX3_highest 28 = .ok (.iload 5, 2) := by decide +kernel
theorem dX3_highest_30 : decode cX3_highest 30 = .ok (.iload_n 3, 1) := by decide +kernel
theorem dX3_highest_31 : decode cX3_highest 31 = .ok (.if_icmp .ne 7, 3) := by decide +kernel
theorem dX3_highest_34 : decode cX3_highest 34 = .ok (.iconst 1, 1) := by decide +kernel
theorem dX3_highest_35 : decode cX3_highest 35 = .ok (.goto 4, 3) := by decide +kernel
theorem dX3_highest_38 : decode cX3_highest 38 = .ok (.iconst 0, 1) := by decide +kernel
theorem dX3_highest_39 : decode cX3_highest 39 = .ok (.isub, 1) := by decide +kernel
theorem dX3_highest_40 : decode cX3_highest 40 = .ok (.invokestatic 73, 3) := by decide +kernel
theorem dX3_highest_43 : decode cX3_highest 43 = .ok (.istore 4, 2) := by decide +kernel
theorem dX3_highest_45 : decode cX3_highest 45 = .ok (.iinc 5 1, 3) := by decide +kernel
theorem dX3_highest_48 : decode cX3_highest 48 = .ok (.goto (-38), 3) := by decide +kernel
theorem dX3_highest_51 : decode cX3_highest 51 = .ok (.iload 4, 2) := by decide +kernel
theorem dX3_highest_53 : decode cX3_highest 53 = .ok (.ireturn, 1) := by decide +kernel
set_option maxRecDepth 20000 in
theorem ggX3_land_X3_isPlace : GoodIn wsX3_land wsX3_isPlace := goodIn_r _ [9, 10, 11, 8, 12] (by decide +kernel) (by decide +kernel)
set_option maxRecDepth 20000 in
theorem gX3_land_X3_isPlace : GoodIn wsX3_land (va_wsS RX3 76 yX3_isPlace wsX3_isPlace) := goodIn_app (goodIn_of _ (by decide +kernel)) ggX3_land_X3_isPlace
set_option maxRecDepth 20000 in
theorem ggX3_land_X3_no : GoodIn wsX3_land wsX3_no := goodIn_r _ [16, 1, 33, 34, 35, 36, 37, 38, 39, 40, 41, 42, 43, 44, 45, 46, 47] (by decide +kernel) (by decide +kernel)
set_option maxRecDepth 20000 in
theorem gX3_land_X3_no : GoodIn wsX3_land (wsV RX3 80 RX3 yX3_no wsX3_no) := goodIn_app (goodIn_of _ (by decide +kernel)) ggX3_land_X3_no
set_option maxRecDepth 20000 in
theorem ggX3_land_X3_isIn : GoodIn wsX3_land wsX3_isIn := goodIn_r _ [12] (by decide +kernel) (by decide +kernel)
set_option maxRecDepth 20000 in
theorem gX3_land_X3_isIn : GoodIn wsX3_land (va_wsS RX3 47 yX3_isIn wsX3_isIn) := goodIn_app (goodIn_of _ (by decide +kernel)) ggX3_land_X3_isIn
set_option maxRecDepth 20000 in
theorem ggX3_land_X3_high : GoodIn wsX3_land wsX3_high := goodIn_r _ [20, 2, 4, 33, 34, 35, 36, 37, 38, 39, 40, 41, 42, 43, 44, 45, 46, 47] (by decide +kernel) (by decide +kernel)
set_option maxRecDepth 20000 in
theorem gX3_land_X3_high : GoodIn wsX3_land (wsV RX3 57 RX3 yX3_high wsX3_high) := goodIn_app (goodIn_of _ (by decide +kernel)) ggX3_land_X3_high
set_option maxRecDepth 20000 in
theorem ggX3_land_X3_isTooLow : GoodIn wsX3_land wsX3_isTooLow := goodIn_r _ [24, 25, 26, 27, 28, 29, 30, 8, 31, 32, 33, 34, 35, 36, 37, 38, 39, 40, 41, 42, 43, 44, 45, 46, 47] (by decide +kernel) (by decide +kernel)
set_option maxRecDepth 20000 in
theorem gX3_land_X3_isTooLow : GoodIn wsX3_land (wsV RX3 83 RX3 yX3_isTooLow wsX3_isTooLow) := goodIn_app (goodIn_of _ (by decide +kernel)) ggX3_land_X3_isTooLow
theorem dX3_land_0 : decode cX3_land 0 = .ok (.aload_n 0, 1) := by decide +kernel
theorem dX3_land_1 : decode cX3_land 1 = .ok (.iconst 0, 1) := by decide +kernel
theorem dX3_land_2 : decode cX3_land 2 = .ok (.putfield 43, 3) := by decide +kernel
theorem dX3_land_5 : decode cX3_land 5 = .ok (.iload_n 1, 1) := by decide +kernel
theorem dX3_land_6 : decode cX3_land 6 = .ok (.invokestatic 76, 3) := by decide +kernel
theorem dX3_land_9 : decode cX3_land 9 = .ok (.ifCond .ne 9, 3) := by decide +kernel
theorem dX3_land_12 : decode cX3_land 12 = .ok (.aload_n 0, 1) := by decide +kernel
theorem dX3_land_13 : decode cX3_land 13 = .ok (.iconst 1, 1) := by decide +kernel
theorem dX3_land_14 : decode cX3_land 14 = .ok (.invokevirtual 80, 3) := by decide +kernel
theorem dX3_land_17 : decode cX3_land 17 = .ok (.ireturn, 1) := by decide +kernel
theorem dX3_land_18 : decode cX3_land 18 = .ok (.iload_n 2, 1) := by decide +kernel
theorem dX3_land_19 : decode cX3_land 19 = .ok (.iconst 1, 1) := by decide +kernel
theorem dX3_land_20 : decode cX3_land 20 = .ok (.bipush 60, 2) := by decide +kernel
theorem dX3_land_22 : decode cX3_land 22 = .ok (.invokestatic 47, 3) := by decide +kernel
theorem dX3_land_25 : decode cX3_land 25 = .ok (.ifCond .ne 9, 3) := by decide +kernel
theorem dX3_land_28 : decode cX3_land 28 = .ok (.aload_n 0, 1) := by decide +kernel
theorem dX3_land_29 : decode cX3_land 29 = .ok (.iconst 2, 1) := by decide +kernel
theorem dX3_land_30 : decode cX3_land 30 = .ok (.invokevirtual 80, 3) := by decide +kernel
theorem dX3_land_33 : decode cX3_land 33 = .ok (.ireturn, 1) := by decide +kernel
theorem dX3_land_34 : decode cX3_land 34 = .ok (.aload_n 0, 1) := by decide +kernel
theorem dX3_land_35 : decode cX3_land 35 = .ok (.iload_n 1, 1) := by decide +kernel
theorem dX3_land_36 : decode cX3_land 36 = .ok (.invokevirtual 57, 3) := by decide +kernel
theorem dX3_land_39 : decode cX3_land 39 = .ok (.istore_n 3, 1) := by decide +kernel
theorem dX3_land_40 : decode cX3_land 40 = .ok (.aload_n 0, 1) := by decide +kernel
theorem dX3_land_41 : decode cX3_land 41 = .ok (.getfield 54, 3) := by decide +kernel
theorem dX3_land_44 : decode cX3_land 44 = .ok (.bipush 40, 2) := by decide +kernel
theorem dX3_land_46 : decode cX3_land 46 = .ok (.if_icmp .eq 21, 3) := by decide +kernel
theorem dX3_land_49 : decode cX3_land 49 = .ok (.iload_n 3, 1) := by decide +kernel
theorem dX3_land_50 : decode cX3_land 50 = .ok (.bipush 8, 2) := by decide +kernel
theorem dX3_land_52 : decode cX3_land 52 = .ok (.if_icmp .eq 15, 3) := by decide +kernel
theorem dX3_land_55 : decode cX3_land 55 = .ok (.aload_n 0, 1) := by decide +kernel
theorem dX3_land_56 : decode cX3_land 56 = .ok (.iload_n 1, 1) := by decide +kernel
theorem dX3_land_57 : decode cX3_land 57 = .ok (.iload_n 3, 1) := by decide +kernel
theorem dX3_land_58 : decode cX3_land 58 = .ok (.iconst 1, 1) := by decide +kernel
theorem dX3_land_59 : decode cX3_land 59 = .ok (.iadd, 1) := by decide +kernel
theorem dX3_land_60 : decode cX3_land 60 = .ok (.iconst (-1), 1) := by decide +kernel
theorem dX3_land_61 : decode cX3_land 61 = .ok (.invokevirtual 83, 3) := by decide +kernel
theorem dX3_land_64 : decode cX3_land 64 = .ok (.ifCond .eq 9, 3) := by decide +kernel
theorem dX3_land_67 : decode cX3_land 67 = .ok (.aload_n 0, 1) := by decide +kernel
theorem dX3_land_68 : decode cX3_land 68 = .ok (.iconst 3, 1) := by decide +kernel
theorem dX3_land_69 : decode cX3_land 69 = .ok (.invokevirtual 80, 3) := by decide +kernel
theorem dX3_land_72 : decode cX3_land 72 = .ok (.ireturn, 1) := by decide +kernel
theorem dX3_land_73 : decode cX3_land 73 = .ok (.aload_n 0, 1) := by decide +kernel
theorem dX3_land_74 : decode cX3_land 74 = .ok (.getfield 9, 3) := by decide +kernel
theorem dX3_land_77 : decode cX3_land 77 = .ok (.aload_n 0, 1) := by decide +kernel
theorem dX3_land_78 : decode cX3_land 78 = .ok (.getfield 54, 3) := by decide +kernel
theorem dX3_land_81 : decode cX3_land 81 = .ok (.iload_n 2, 1) := by decide +kernel
theorem dX3_land_82 : decode cX3_land 82 = .ok (.iastore, 1) := by decide +kernel
theorem dX3_land_83 : decode cX3_land 83 = .ok (.aload_n 0, 1) := by decide +kernel
theorem dX3_land_84 : decode cX3_land 84 = .ok (.getfield 13, 3) := by decide +kernel
theorem dX3_land_87 : decode cX3_land 87 = .ok (.aload_n 0, 1) := by decide +kernel
theorem dX3_land_88 : decode cX3_land 88 = .ok (.getfield 54, 3) := by decide +kernel
theorem dX3_land_91 : decode cX3_land 91 = .ok (.iload_n 1, 1) := by decide +kernel
theorem dX3_land_92 : decode cX3_land 92 = .ok (.iastore, 1) := by decide +kernel
theorem dX3_land_93 : decode cX3_land 93 = .ok (.aload_n 0, 1) := by decide +kernel
theorem dX3_land_94 : decode cX3_land 94 = .ok (.getfield 16, 3) := by decide +kernel
theorem dX3_land_97 : decode cX3_land 97 = .ok (.aload_n 0, 1) := by decide +kernel
theorem dX3_land_98 : decode cX3_land 98 = .ok (.getfield 54, 3) := by decide +kernel
theorem dX3_land_101 : decode cX3_land 101 = .ok (.iload_n 3, 1) := by decide +kernel
theorem dX3_land_102 : decode cX3_land 102 = .ok (.iastore, 1) := by decide +kernel
theorem dX3_land_103 : decode cX3_land 103 = .ok (.aload_n 0, 1) := by decide +kernel
theorem dX3_land_104 : decode cX3_land 104 = .ok (.dup, 1) := by decide +kernel
theorem dX3_land_105 : decode cX3_land 105 = .ok (.getfield 54, 3) := by decide +kernel
theorem dX3_land_108 : decode cX3_land 108 = .ok (.iconst 1, 1) := by decide +kernel
theorem dX3_land_109 : decode cX3_land 109 = .ok (.iadd, 1) := by decide +kernel
theorem dX3_land_110 : decode cX3_land 110 = .ok (.putfield 54, 3) := by decide +kernel
theorem dX3_land_113 : decode cX3_land 113 = .ok (.aload_n 0, 1) := by decide +kernel
theorem dX3_land_114 : decode cX3_land 114 = .ok (.getfield 54, 3) := by decide +kernel
theorem dX3_land_117 : decode cX3_land 117 = .ok (.iconst 1, 1) := by decide +kernel
theorem dX3_land_118 : decode cX3_land 118 = .ok (.isub, 1) := by decide +kernel
theorem dX3_land_119 : decode cX3_land 119 = .ok (.ireturn, 1) := by decide +kernel
set_option maxRecDepth 20000 in
theorem ggX3_build_X3_isPlace : GoodIn wsX3_build wsX3_isPlace := goodIn_r _ [13, 14, 15, 12, 16] (by decide +kernel) (by decide +kernel)
set_option maxRecDepth 20000 in
theorem gX3_build_X3_isPlace : GoodIn wsX3_build (va_wsS RX3 76 yX3_isPlace wsX3_isPlace) := goodIn_app (goodIn_of _ (by decide +kernel)) ggX3_build_X3_isPlace
set_option maxRecDepth 20000 in
theorem ggX3_build_X3_no : GoodIn wsX3_build wsX3_no := goodIn_r _ [20, 1, 21, 22, 23, 24, 25, 26, 27, 28, 29, 30, 31, 32, 33, 34, 35] (by decide +kernel) (by decide +kernel)
set_option maxRecDepth 20000 in
theorem gX3_build_X3_no : GoodIn wsX3_build (wsV RX3 80 RX3 yX3_no wsX3_no) := goodIn_app (goodIn_of _ (by decide +kernel)) ggX3_build_X3_no
set_option maxRecDepth 20000 in
theorem ggX3_build_X3_isIn : GoodIn wsX3_build wsX3_isIn := goodIn_r _ [16] (by decide +kernel) (by decide +kernel)
set_option maxRecDepth 20000 in
theorem gX3_build_X3_isIn : GoodIn wsX3_build (va_wsS RX3 47 yX3_isIn wsX3_isIn) := goodIn_app (goodIn_of _ (by decide +kernel)) ggX3_build_X3_isIn
theorem dX3_build_0 : decode cX3_build 0 = .ok (.aload_n 0, 1) := by decide +kernel
theorem dX3_build_1 : decode cX3_build 1 = .ok (.iconst 0, 1) := by decide +kernel
theorem dX3_build_2 : decode cX3_build 2 = .ok (.putfield 43, 3) := by decide +kernel
theorem dX3_build_5 : decode cX3_build 5 = .ok (.iload_n 1, 1) := by decide +kernel
theorem dX3_build_6 : decode cX3_build 6 = .ok (.invokestatic 76, 3) := by decide +kernel
theorem dX3_build_9 : decode cX3_build 9 = .ok (.ifCond .ne 9, 3) := by decide +kernel
theorem dX3_build_12 : decode cX3_build 12 = .ok (.aload_n 0, 1) := by decide +kernel
theorem dX3_build_13 : decode cX3_build 13 = .ok (.iconst 1, 1) := by decide +kernel
theorem dX3_build_14 : decode cX3_build 14 = .ok (.invokevirtual 80, 3) := by decide +kernel
theorem dX3_build_17 : decode cX3_build 17 = .ok (.ireturn, 1) := by decide +kernel
theorem dX3_build_18 : decode cX3_build 18 = .ok (.iload_n 2, 1) := by decide +kernel
theorem dX3_build_19 : decode cX3_build 19 = .ok (.iconst 1, 1) := by decide +kernel
theorem dX3_build_20 : decode cX3_build 20 = .ok (.bipush 15, 2) := by decide +kernel
theorem dX3_build_22 : decode cX3_build 22 = .ok (.invokestatic 47, 3) := by decide +kernel
theorem dX3_build_25 : decode cX3_build 25 = .ok (.ifCond .eq 24, 3) := by decide +kernel
theorem dX3_build_28 : decode cX3_build 28 = .ok (.iload_n 3, 1) := by decide +kernel
theorem dX3_build_29 : decode cX3_build 29 = .ok (.iconst 1, 1) := by decide +kernel
theorem dX3_build_30 : decode cX3_build 30 = .ok (.bipush 6, 2) := by decide +kernel
theorem dX3_build_32 : decode cX3_build 32 = .ok (.invokestatic 47, 3) := by decide +kernel
theorem dX3_build_35 : decode cX3_build 35 = .ok (.ifCond .eq 14, 3) := by decide +kernel
theorem dX3_build_38 : decode cX3_build 38 = .ok (.iload 4, 2) := by decide +kernel
theorem dX3_build_40 : decode cX3_build 40 = .ok (.iconst 0, 1) := by decide +kernel
theorem dX3_build_41 : decode cX3_build 41 = .ok (.bipush 8, 2) := by decide +kernel
theorem dX3_build_43 : decode cX3_build 43 = .ok (.invokestatic 47, 3) := by decide +kernel
theorem dX3_build_46 : decode cX3_build 46 = .ok (.ifCond .ne 9, 3) := by decide +kernel
theorem dX3_build_49 : decode cX3_build 49 = .ok (.aload_n 0, 1) := by decide +kernel
theorem dX3_build_50 : decode cX3_build 50 = .ok (.iconst 2, 1) := by decide +kernel
theorem dX3_build_51 : decode cX3_build 51 = .ok (.invokevirtual 80, 3) := by decide +kernel
theorem dX3_build_54 : decode cX3_build 54 = .ok (.ireturn, 1) := by decide +kernel
theorem dX3_build_55 : decode cX3_build 55 = .ok (.aload_n 0, 1) := by decide +kernel
theorem dX3_build_56 : decode cX3_build 56 = .ok (.getfield 51, 3) := by decide +kernel
theorem dX3_build_59 : decode cX3_build 59 = .ok (.iconst 5, 1) := by decide +kernel
theorem dX3_build_60 : decode cX3_build 60 = .ok (.if_icmp .ne 9, 3) := by decide +kernel
theorem dX3_build_63 : decode cX3_build 63 = .ok (.aload_n 0, 1) := by decide +kernel
theorem dX3_build_64 : decode cX3_build 64 = .ok (.iconst 3, 1) := by decide +kernel
theorem dX3_build_65 : decode cX3_build 65 = .ok (.invokevirtual 80, 3) := by decide +kernel
theorem dX3_build_68 : decode cX3_build 68 = .ok (.ireturn, 1) := by decide +kernel
theorem dX3_build_69 : decode cX3_build 69 = .ok (.aload_n 0, 1) := by decide +kernel
theorem dX3_build_70 : decode cX3_build 70 = .ok (.getfield 19, 3) := by decide +kernel
theorem dX3_build_73 : decode cX3_build 73 = .ok (.aload_n 0, 1) := by decide +kernel
theorem dX3_build_74 : decode cX3_build 74 = .ok (.getfield 51, 3) := by decide +kernel
theorem dX3_build_77 : decode cX3_build 77 = .ok (.iload_n 1, 1) := by decide +kernel
theorem dX3_build_78 : decode cX3_build 78 = .ok (.iastore, 1) := by decide +kernel
theorem dX3_build_79 : decode cX3_build 79 = .ok (.aload_n 0, 1) := by decide +kernel
theorem dX3_build_80 : decode cX3_build 80 = .ok (.getfield 22, 3) := by decide +kernel
theorem dX3_build_83 : decode cX3_build 83 = .ok (.aload_n 0, 1) := by decide +kernel
theorem dX3_build_84 : decode cX3_build 84 = .ok (.getfield 51, 3) := by decide +kernel
theorem dX3_build_87 : decode cX3_build 87 = .ok (.iload_n 2, 1) := by decide +kernel
theorem dX3_build_88 : decode cX3_build 88 = .ok (.iastore, 1) := by decide +kernel
theorem dX3_build_89 : decode cX3_build 89 = .ok (.aload_n 0, 1) := by decide +kernel
theorem dX3_build_90 : decode cX3_build 90 = .ok (.getfield 25, 3) := by decide +kernel
theorem dX3_build_93 : decode cX3_build 93 = .ok (.aload_n 0, 1) := by decide +kernel
theorem dX3_build_94 : decode cX3_build 94 = .ok (.getfield 51, 3) := by decide +kernel
theorem dX3_build_97 : decode cX3_build 97 = .ok (.iload_n 3, 1) := by decide +kernel
theorem dX3_build_98 : decode cX3_build 98 = .ok (.iastore, 1) := by decide +kernel
theorem dX3_build_99 : decode cX3_build 99 = .ok (.aload_n 0, 1) := by decide +kernel
theorem dX3_build_100 : decode cX3_build 100 = .ok (.getfield 28, 3) := by decide +kernel
theorem dX3_build_103 : decode cX3_build 103 = .ok (.aload_n 0, 1) := by decide +kernel
theorem dX3_build_104 : decode cX3_build 104 = .ok (.getfield 51, 3) := by decide +kernel
theorem dX3_build_107 : decode cX3_build 107 = .ok (.iload 4, 2) := by decide +kernel
theorem dX3_build_109 : decode cX3_build 109 = .ok (.iastore, 1) := by decide +kernel
theorem dX3_build_110 : decode cX3_build 110 = .ok (.aload_n 0, 1) := by decide +kernel
theorem dX3_build_111 : decode cX3_build 111 = .ok (.getfield 34, 3) := by decide +kernel
theorem dX3_build_114 : decode cX3_build 114 = .ok (.aload_n 0, 1) := by decide +kernel
theorem dX3_build_115 : decode cX3_build 115 = .ok (.getfield 51, 3) := by decide +kernel
theorem dX3_build_118 : decode cX3_build 118 = .ok (.iload_n 1, 1) := by decide +kernel
theorem dX3_build_119 : decode cX3_build 119 = .ok (.iastore, 1) := by decide +kernel
theorem dX3_build_120 : decode cX3_build 120 = .ok (.aload_n 0, 1) := by decide +kernel
theorem dX3_build_121 : decode cX3_build 121 = .ok (.getfield 37, 3) := by decide +kernel
theorem dX3_build_124 : decode cX3_build 124 = .ok (.aload_n 0, 1) := by decide +kernel
theorem dX3_build_125 : decode cX3_build 125 = .ok (.getfield 51, 3) := by decide +kernel
theorem dX3_build_128 : decode cX3_build 128 = .ok (.bipush 10, 2) := by decide +kernel
theorem dX3_build_130 : decode cX3_build 130 = .ok (.iastore, 1) := by decide +kernel
theorem dX3_build_131 : decode cX3_build 131 = .ok (.aload_n 0, 1) := by decide +kernel
theorem dX3_build_132 : decode cX3_build 132 = .ok (.getfield 40, 3) := by decide +kernel
theorem dX3_build_135 : decode cX3_build 135 = .ok (.aload_n 0, 1) := by decide +kernel
theorem dX3_build_136 : decode cX3_build 136 = .ok (.getfield 51, 3) := by decide +kernel
theorem dX3_build_139 : decode cX3_build 139 = .ok (.iconst (-1), 1) := by decide +kernel
theorem dX3_build_140 : decode cX3_build 140 = .ok (.iastore, 1) := by decide +kernel
theorem dX3_build_141 : decode cX3_build 141 = .ok (.aload_n 0, 1) := by decide +kernel
theorem dX3_build_142 : decode cX3_build 142 = .ok (.dup, 1) := by decide +kernel
theorem dX3_build_143 : decode cX3_build 143 = .ok (.getfield 51, 3) := by decide +kernel
theorem dX3_build_146 : decode cX3_build 146 = .ok (.iconst 1, 1) := by decide +kernel
theorem dX3_build_147 : decode cX3_build 147 = .ok (.iadd, 1) := by decide +kernel
theorem dX3_build_148 : decode cX3_build 148 = .ok (.putfield 51, 3) := by decide +kernel
theorem dX3_build_151 : decode cX3_build 151 = .ok (.aload_n 0, 1) := by decide +kernel
theorem dX3_build_152 : decode cX3_build 152 = .ok (.getfield 51, 3) := by decide +kernel
theorem dX3_build_155 : decode cX3_build 155 = .ok (.iconst 1, 1) := by decide +kernel
theorem dX3_build_156 : decode cX3_build 156 = .ok (.isub, 1) := by decide +kernel
theorem dX3_build_157 : decode cX3_build 157 = .ok (.ireturn, 1) := by decide +kernel
set_option maxRecDepth 20000 in
theorem ggX3_man_X3_isCrane : GoodIn wsX3_man wsX3_isCrane := goodIn_r _ [7, 8, 9, 10, 6, 11, 16, 17, 18, 19, 20, 21, 22, 23, 24, 25, 26, 27, 28, 29, 30] (by decide +kernel) (by decide +kernel)
set_option maxRecDepth 20000 in
theorem gX3_man_X3_isCrane : GoodIn wsX3_man (wsV RX3 86 RX3 yX3_isCrane wsX3_isCrane) := goodIn_app (goodIn_of _ (by decide +kernel)) ggX3_man_X3_isCrane
set_option maxRecDepth 20000 in
theorem ggX3_man_X3_no : GoodIn wsX3_man wsX3_no := goodIn_r _ [15, 1, 16, 17, 18, 19, 20, 21, 22, 23, 24, 25, 26, 27, 28, 29, 30] (by decide +kernel) (by decide +kernel)
set_option maxRecDepth 20000 in
theorem gX3_man_X3_no : GoodIn wsX3_man (wsV RX3 80 RX3 yX3_no wsX3_no) := goodIn_app (goodIn_of _ (by decide +kernel)) ggX3_man_X3_no
set_option maxRecDepth 20000 in
theorem ggX3_man_X3_isIn : GoodIn wsX3_man wsX3_isIn := goodIn_r _ [11] (by decide +kernel) (by decide +kernel)
set_option maxRecDepth 20000 in
theorem gX3_man_X3_isIn : GoodIn wsX3_man (va_wsS RX3 47 yX3_isIn wsX3_isIn) := goodIn_app (goodIn_of _ (by decide +kernel)) ggX3_man_X3_isIn
theorem dX3_man_0 : decode cX3_man 0 = .ok (.aload_n 0, 1) := by decide +kernel
theorem dX3_man_1 : decode cX3_man 1 = .ok (.iconst 0, 1) := by decide +kernel
theorem dX3_man_2 : decode cX3_man 2 = .ok (.putfield 43, 3) := by decide +kernel
theorem dX3_man_5 : decode cX3_man 5 = .ok (.aload_n 0, 1) := by decide +kernel
theorem dX3_man_6 : decode cX3_man 6 = .ok (.iload_n 1, 1) := by decide +kernel
theorem dX3_man_7 : decode cX3_man 7 = .ok (.invokevirtual 86, 3) := by decide +kernel
theorem dX3_man_10 : decode cX3_man 10 = .ok (.ifCond .ne 9, 3) := by decide +kernel
theorem dX3_man_13 : decode cX3_man 13 = .ok (.aload_n 0, 1) := by decide +kernel
theorem dX3_man_14 : decode cX3_man 14 = .ok (.iconst 1, 1) := by decide +kernel
theorem dX3_man_15 : decode cX3_man 15 = .ok (.invokevirtual 80, 3) := by decide +kernel
theorem dX3_man_18 : decode cX3_man 18 = .ok (.ireturn, 1) := by decide +kernel
theorem dX3_man_19 : decode cX3_man 19 = .ok (.iload_n 2, 1) := by decide +kernel
theorem dX3_man_20 : decode cX3_man 20 = .ok (.iconst 0, 1) := by decide +kernel
theorem dX3_man_21 : decode cX3_man 21 = .ok (.bipush 8, 2) := by decide +kernel
theorem dX3_man_23 : decode cX3_man 23 = .ok (.invokestatic 47, 3) := by decide +kernel
theorem dX3_man_26 : decode cX3_man 26 = .ok (.ifCond .ne 9, 3) := by decide +kernel
theorem dX3_man_29 : decode cX3_man 29 = .ok (.aload_n 0, 1) := by decide +kernel
theorem dX3_man_30 : decode cX3_man 30 = .ok (.iconst 2, 1) := by decide +kernel
theorem dX3_man_31 : decode cX3_man 31 = .ok (.invokevirtual 80, 3) := by decide +kernel
theorem dX3_man_34 : decode cX3_man 34 = .ok (.ireturn, 1) := by decide +kernel
theorem dX3_man_35 : decode cX3_man 35 = .ok (.aload_n 0, 1) := by decide +kernel
theorem dX3_man_36 : decode cX3_man 36 = .ok (.getfield 28, 3) := by decide +kernel
theorem dX3_man_39 : decode cX3_man 39 = .ok (.iload_n 1, 1) := by decide +kernel
theorem dX3_man_40 : decode cX3_man 40 = .ok (.iaload, 1) := by decide +kernel
theorem dX3_man_41 : decode cX3_man 41 = .ok (.istore_n 3, 1) := by decide +kernel
theorem dX3_man_42 : decode cX3_man 42 = .ok (.aload_n 0, 1) := by decide +kernel
theorem dX3_man_43 : decode cX3_man 43 = .ok (.getfield 28, 3) := by decide +kernel
theorem dX3_man_46 : decode cX3_man 46 = .ok (.iload_n 1, 1) := by decide +kernel
theorem dX3_man_47 : decode cX3_man 47 = .ok (.iload_n 2, 1) := by decide +kernel
theorem dX3_man_48 : decode cX3_man 48 = .ok (.iastore, 1) := by decide +kernel
theorem dX3_man_49 : decode cX3_man 49 = .ok (.iload_n 3, 1) := by decide +kernel
theorem dX3_man_50 : decode cX3_man 50 = .ok (.ireturn, 1) := by decide +kernel
set_option maxRecDepth 20000 in
theorem ggX3_mend_X3_isCrane : GoodIn wsX3_mend wsX3_isCrane := goodIn_r _ [7, 8, 9, 10, 6, 11, 16, 17, 18, 19, 20, 21, 22, 23, 24, 25, 26, 27, 28, 29, 30] (by decide +kernel) (by decide +kernel)
set_option maxRecDepth 20000 in
theorem gX3_mend_X3_isCrane : GoodIn wsX3_mend (wsV RX3 86 RX3 yX3_isCrane wsX3_isCrane) := goodIn_app (goodIn_of _ (by decide +kernel)) ggX3_mend_X3_isCrane
set_option maxRecDepth 20000 in
theorem ggX3_mend_X3_no : GoodIn wsX3_mend wsX3_no := goodIn_r _ [15, 1, 16, 17, 18, 19, 20, 21, 22, 23, 24, 25, 26, 27, 28, 29, 30] (by decide +kernel) (by decide +kernel)
set_option maxRecDepth 20000 in
theorem gX3_mend_X3_no : GoodIn wsX3_mend (wsV RX3 80 RX3 yX3_no wsX3_no) := goodIn_app (goodIn_of _ (by decide +kernel)) ggX3_mend_X3_no
theorem dX3_mend_0 : decode cX3_mend 0 = .ok (.aload_n 0, 1) := by decide +kernel
theorem dX3_mend_1 : decode cX3_mend 1 = .ok (.iconst 0, 1) := by decide +kernel
theorem dX3_mend_2 : decode cX3_mend 2 = .ok (.putfield 43, 3) := by decide +kernel
theorem dX3_mend_5 : decode cX3_mend 5 = .ok (.aload_n 0, 1) := by decide +kernel
theorem dX3_mend_6 : decode cX3_mend 6 = .ok (.iload_n 1, 1) := by decide +kernel
theorem dX3_mend_7 : decode cX3_mend 7 = .ok (.invokevirtual 86, 3) := by decide +kernel
theorem dX3_mend_10 : decode cX3_mend 10 = .ok (.ifCond .ne 9, 3) := by decide +kernel
theorem dX3_mend_13 : decode cX3_mend 13 = .ok (.aload_n 0, 1) := by decide +kernel
theorem dX3_mend_14 : decode cX3_mend 14 = .ok (.iconst 1, 1) := by decide +kernel
theorem dX3_mend_15 : decode cX3_mend 15 = .ok (.invokevirtual 80, 3) := by decide +kernel
theorem dX3_mend_18 : decode cX3_mend 18 = .ok (.ireturn, 1) := by decide +kernel
theorem dX3_mend_19 : decode cX3_mend 19 = .ok (.aload_n 0, 1) := by decide +kernel
theorem dX3_mend_20 : decode cX3_mend 20 = .ok (.getfield 31, 3) := by decide +kernel
theorem dX3_mend_23 : decode cX3_mend 23 = .ok (.iload_n 1, 1) := by decide +kernel
theorem dX3_mend_24 : decode cX3_mend 24 = .ok (.iaload, 1) := by decide +kernel
theorem dX3_mend_25 : decode cX3_mend 25 = .ok (.istore_n 2, 1) := by decide +kernel
theorem dX3_mend_26 : decode cX3_mend 26 = .ok (.aload_n 0, 1) := by decide +kernel
theorem dX3_mend_27 : decode cX3_mend 27 = .ok (.getfield 31, 3) := by decide +kernel
theorem dX3_mend_30 : decode cX3_mend 30 = .ok (.iload_n 1, 1) := by decide +kernel
theorem dX3_mend_31 : decode cX3_mend 31 = .ok (.iconst 0, 1) := by decide +kernel
theorem dX3_mend_32 : decode cX3_mend 32 = .ok (.iastore, 1) := by decide +kernel
theorem dX3_mend_33 : decode cX3_mend 33 = .ok (.iload_n 2, 1) := by decide +kernel
theorem dX3_mend_34 : decode cX3_mend 34 = .ok (.ireturn, 1) := by decide +kernel
set_option maxRecDepth 20000 in
theorem ggX3_turn_X3_isCrane : GoodIn wsX3_turn wsX3_isCrane := goodIn_r _ [13, 14, 15, 16, 12, 17, 52, 53, 54, 55, 56, 57, 58, 59, 60, 61, 62, 63, 64, 65, 66] (by decide +kernel) (by decide +kernel)
set_option maxRecDepth 20000 in
theorem gX3_turn_X3_isCrane : GoodIn wsX3_turn (wsV RX3 86 RX3 yX3_isCrane wsX3_isCrane) := goodIn_app (goodIn_of _ (by decide +kernel)) ggX3_turn_X3_isCrane
set_option maxRecDepth 20000 in
theorem ggX3_turn_X3_isPlace : GoodIn wsX3_turn wsX3_isPlace := goodIn_r _ [20, 15, 16, 12, 17] (by decide +kernel) (by decide +kernel)
set_option maxRecDepth 20000 in
theorem gX3_turn_X3_isPlace : GoodIn wsX3_turn (va_wsS RX3 76 yX3_isPlace wsX3_isPlace) := goodIn_app (goodIn_of _ (by decide +kernel)) ggX3_turn_X3_isPlace
set_option maxRecDepth 20000 in
theorem ggX3_turn_X3_no : GoodIn wsX3_turn wsX3_no := goodIn_r _ [24, 1, 52, 53, 54, 55, 56, 57, 58, 59, 60, 61, 62, 63, 64, 65, 66] (by decide +kernel) (by decide +kernel)
set_option maxRecDepth 20000 in
theorem gX3_turn_X3_no : GoodIn wsX3_turn (wsV RX3 80 RX3 yX3_no wsX3_no) := goodIn_app (goodIn_of _ (by decide +kernel)) ggX3_turn_X3_no
set_option maxRecDepth 20000 in
theorem ggX3_turn_X3_isInReach : GoodIn wsX3_turn wsX3_isInReach := goodIn_r _ [28, 29, 4, 5, 6, 7, 30, 52, 53, 54, 55, 56, 57, 58, 59, 60, 61, 62, 63, 64, 65, 66] (by decide +kernel) (by decide +kernel)
set_option maxRecDepth 20000 in
theorem gX3_turn_X3_isInReach : GoodIn wsX3_turn (wsV RX3 89 RX3 yX3_isInReach wsX3_isInReach) := goodIn_app (goodIn_of _ (by decide +kernel)) ggX3_turn_X3_isInReach
set_option maxRecDepth 20000 in
theorem ggX3_turn_X3_highest : GoodIn wsX3_turn wsX3_highest := goodIn_r _ [34, 35, 36, 6, 37, 38, 39, 40, 41, 42, 43, 12, 44, 45, 46, 52, 53, 54, 55, 56, 57, 58, 59, 60, 61, 62, 63, 64, 65, 66] (by decide +kernel) (by decide +kernel)
set_option maxRecDepth 20000 in
theorem gX3_turn_X3_highest : GoodIn wsX3_turn (wsV RX3 93 RX3 yX3_highest wsX3_highest) := goodIn_app (goodIn_of _ (by decide +kernel)) ggX3_turn_X3_highest
set_option maxRecDepth 20000 in
theorem ggX3_turn_X3_loaded : GoodIn wsX3_turn wsX3_loaded := goodIn_r _ [50, 51, 52, 53, 54, 55, 56, 57, 58, 59, 60, 61, 62, 63, 64, 65, 66] (by decide +kernel) (by decide +kernel)
set_option maxRecDepth 20000 in
theorem gX3_turn_X3_loaded : GoodIn wsX3_turn (wsV RX3 66 RX3 yX3_loaded wsX3_loaded) := goodIn_app (goodIn_of _ (by decide +kernel)) ggX3_turn_X3_loaded
theorem dX3_turn_0 : decode cX3_turn 0 = .ok (.aload_n 0, 1) := by decide +kernel
theorem dX3_turn_1 : decode cX3_turn 1 = .ok (.iconst 0, 1) := by decide +kernel
theorem dX3_turn_2 : decode cX3_turn 2 = .ok (.putfield 43, 3) := by decide +kernel
theorem dX3_turn_5 : decode cX3_turn 5 = .ok (.aload_n 0, 1) := by decide +kernel
theorem dX3_turn_6 : decode cX3_turn 6 = .ok (.iload_n 1, 1) := by decide +kernel
theorem dX3_turn_7 : decode cX3_turn 7 = .ok (.invokevirtual 86, 3) := by decide +kernel
theorem dX3_turn_10 : decode cX3_turn 10 = .ok (.ifCond .eq 10, 3) := by decide +kernel
theorem dX3_turn_13 : decode cX3_turn 13 = .ok (.iload_n 2, 1) := by decide +kernel
theorem dX3_turn_14 : decode cX3_turn 14 = .ok (.invokestatic 76, 3) := by decide +kernel
theorem dX3_turn_17 : decode cX3_turn 17 = .ok (.ifCond .ne 9, 3) := by decide +kernel
theorem dX3_turn_20 : decode cX3_turn 20 = .ok (.aload_n 0, 1) := by decide +kernel
theorem dX3_turn_21 : decode cX3_turn 21 = .ok (.iconst 1, 1) := by decide +kernel
theorem dX3_turn_22 : decode cX3_turn 22 = .ok (.invokevirtual 80, 3) := by decide +kernel
theorem dX3_turn_25 : decode cX3_turn 25 = .ok (.ireturn, 1) := by decide +kernel
theorem dX3_turn_26 : decode cX3_turn 26 = .ok (.aload_n 0, 1) := by decide +kernel
theorem dX3_turn_27 : decode cX3_turn 27 = .ok (.iload_n 1, 1) := by decide +kernel
theorem dX3_turn_28 : decode cX3_turn 28 = .ok (.iload_n 2, 1) := by decide +kernel
theorem dX3_turn_29 : decode cX3_turn 29 = .ok (.invokevirtual 89, 3) := by decide +kernel
theorem dX3_turn_32 : decode cX3_turn 32 = .ok (.ifCond .eq 30, 3) := by decide +kernel
theorem dX3_turn_35 : decode cX3_turn 35 = .ok (.aload_n 0, 1) := by decide +kernel
theorem dX3_turn_36 : decode cX3_turn 36 = .ok (.getfield 37, 3) := by decide +kernel
theorem dX3_turn_39 : decode cX3_turn 39 = .ok (.iload_n 1, 1) := by decide +kernel
theorem dX3_turn_40 : decode cX3_turn 40 = .ok (.iaload, 1) := by decide +kernel
theorem dX3_turn_41 : decode cX3_turn 41 = .ok (.aload_n 0, 1) := by decide +kernel
theorem dX3_turn_42 : decode cX3_turn 42 = .ok (.aload_n 0, 1) := by decide +kernel
theorem dX3_turn_43 : decode cX3_turn 43 = .ok (.getfield 34, 3) := by decide +kernel
theorem dX3_turn_46 : decode cX3_turn 46 = .ok (.iload_n 1, 1) := by decide +kernel
theorem dX3_turn_47 : decode cX3_turn 47 = .ok (.iaload, 1) := by decide +kernel
theorem dX3_turn_48 : decode cX3_turn 48 = .ok (.iload_n 2, 1) := by decide +kernel
theorem dX3_turn_49 : decode cX3_turn 49 = .ok (.iconst (-1), 1) := by decide +kernel
theorem dX3_turn_50 : decode cX3_turn 50 = .ok (.invokevirtual 93, 3) := by decide +kernel
theorem dX3_turn_53 : decode cX3_turn 53 = .ok (.aload_n 0, 1) := by decide +kernel
theorem dX3_turn_54 : decode cX3_turn 54 = .ok (.iload_n 1, 1) := by decide +kernel
theorem dX3_turn_55 : decode cX3_turn 55 = .ok (.invokevirtual 66, 3) := by decide +kernel
theorem dX3_turn_58 : decode cX3_turn 58 = .ok (.iadd, 1) := by decide +kernel
theorem dX3_turn_59 : decode cX3_turn 59 = .ok (.if_icmp .ge 9, 3) := by decide +kernel
theorem dX3_turn_62 : decode cX3_turn 62 = .ok (.aload_n 0, 1) := by decide +kernel
theorem dX3_turn_63 : decode cX3_turn 63 = .ok (.iconst 2, 1) := by decide +kernel
theorem dX3_turn_64 : decode cX3_turn 64 = .ok (.invokevirtual 80, 3) := by decide +kernel
theorem dX3_turn_67 : decode cX3_turn 67 = .ok (.ireturn, 1) := by decide +kernel
theorem dX3_turn_68 : decode cX3_turn 68 = .ok (.aload_n 0, 1) := by decide +kernel
theorem dX3_turn_69 : decode cX3_turn 69 = .ok (.getfield 34, 3) := by decide +kernel
theorem dX3_turn_72 : decode cX3_turn 72 = .ok (.iload_n 1, 1) := by decide +kernel
theorem dX3_turn_73 : decode cX3_turn 73 = .ok (.iaload, 1) := by decide +kernel
theorem dX3_turn_74 : decode cX3_turn 74 = .ok (.iload_n 2, 1) := by decide +kernel
theorem dX3_turn_75 : decode cX3_turn 75 = .ok (.isub, 1) := by decide +kernel
theorem dX3_turn_76 : decode cX3_turn 76 = .ok (.invokestatic 61, 3) := by decide +kernel
theorem dX3_turn_79 : decode cX3_turn 79 = .ok (.istore_n 3, 1) := by decide +kernel
theorem dX3_turn_80 : decode cX3_turn 80 = .ok (.aload_n 0, 1) := by decide +kernel
theorem dX3_turn_81 : decode cX3_turn 81 = .ok (.getfield 34, 3) := by decide +kernel
theorem dX3_turn_84 : decode cX3_turn 84 = .ok (.iload_n 1, 1) := by decide +kernel
theorem dX3_turn_85 : decode cX3_turn 85 = .ok (.iload_n 2, 1) := by decide +kernel
theorem dX3_turn_86 : decode cX3_turn 86 = .ok (.iastore, 1) := by decide +kernel
theorem dX3_turn_87 : decode cX3_turn 87 = .ok (.aload_n 0, 1) := by decide +kernel
theorem dX3_turn_88 : decode cX3_turn 88 = .ok (.dup, 1) := by decide +kernel
theorem dX3_turn_89 : decode cX3_turn 89 = .ok (.getfield 97, 3) := by decide +kernel
theorem dX3_turn_92 : decode cX3_turn 92 = .ok (.iload_n 3, 1) := by decide +kernel
theorem dX3_turn_93 : decode cX3_turn 93 = .ok (.iadd, 1) := by decide +kernel
theorem dX3_turn_94 : decode cX3_turn 94 = .ok (.putfield 97, 3) := by decide +kernel
theorem dX3_turn_97 : decode cX3_turn 97 = .ok (.iload_n 3, 1) := by decide +kernel
theorem dX3_turn_98 : decode cX3_turn 98 = .ok (.ireturn, 1) := by decide +kernel
set_option maxRecDepth 20000 in
theorem ggX3_canLift_X3_strength : GoodIn wsX3_canLift wsX3_strength := goodIn_r _ [7, 8, 9, 10, 11, 12, 13, 14, 15, 16, 17, 18, 19, 20, 21, 22, 23, 24] (by decide +kernel) (by decide +kernel)
set_option maxRecDepth 20000 in
theorem gX3_canLift_X3_strength : GoodIn wsX3_canLift (wsV RX3 100 RX3 yX3_strength wsX3_strength) := goodIn_app (goodIn_of _ (by decide +kernel)) ggX3_canLift_X3_strength
theorem dX3_canLift_0 : decode cX3_canLift 0 = .ok (.aload_n 0, 1) := by decide +kernel
theorem dX3_canLift_1 : decode cX3_canLift 1 = .ok (.getfield 40, 3) := by decide +kernel
theorem dX3_canLift_4 : decode cX3_canLift 4 = .ok (.iload_n 1, 1) := by decide +kernel
theorem dX3_canLift_5 : decode cX3_canLift 5 = .ok (.iaload, 1) := by decide +kernel
theorem dX3_canLift_6 : decode cX3_canLift 6 = .ok (.iconst (-1), 1) := by decide +kernel
theorem dX3_canLift_7 : decode cX3_canLift 7 = .ok (.if_icmp .eq 22, 3) := by decide +kernel
theorem dX3_canLift_10 : decode cX3_canLift 10 = .ok (.aload_n 0, 1) := by decide +kernel
theorem dX3_canLift_11 : decode cX3_canLift 11 = .ok (.getfield 9, 3) := by decide +kernel
theorem dX3_canLift_14 : decode cX3_canLift 14 = .ok (.aload_n 0, 1) := by decide +kernel
theorem dX3_canLift_15 : decode cX3_canLift 15 = .ok (.getfield 40, 3) := by decide +kernel
theorem dX3_canLift_18 : decode cX3_canLift 18 = .ok (.iload_n 1, 1) := by decide +kernel
theorem dX3_canLift_19 : decode cX3_canLift 19 = .ok (.iaload, 1) := by decide +kernel
theorem dX3_canLift_20 : decode cX3_canLift 20 = .ok (.iaload, 1) := by decide +kernel
theorem dX3_canLift_21 : decode cX3_canLift 21 = .ok (.aload_n 0, 1) := by decide +kernel
theorem dX3_canLift_22 : decode cX3_canLift 22 = .ok (.iload_n 1, 1) := by decide +kernel
theorem dX3_canLift_23 : decode cX3_canLift 23 = .ok (.invokevirtual 100, 3) := by decide +kernel
theorem dX3_canLift_26 : decode cX3_canLift 26 = .ok (.if_icmp .gt 7, 3) := by decide +kernel
theorem dX3_canLift_29 : decode cX3_canLift 29 = .ok (.iconst 1, 1) := by decide +kernel
theorem dX3_canLift_30 : decode cX3_canLift 30 = .ok (.goto 4, 3) := by decide +kernel
theorem dX3_canLift_33 : decode cX3_canLift 33 = .ok (.iconst 0, 1) := by decide +kernel
theorem dX3_canLift_34 : decode cX3_canLift 34 = .ok (.ireturn, 1) := by decide +kernel
set_option maxRecDepth 20000 in
theorem ggX3_hoist_X3_isCrane : GoodIn wsX3_hoist wsX3_isCrane := goodIn_r _ [16, 17, 18, 19, 15, 20, 53, 54, 55, 56, 57, 58, 59, 60, 61, 62, 63, 64, 65, 66, 67] (by decide +kernel) (by decide +kernel)
set_option maxRecDepth 20000 in
theorem gX3_hoist_X3_isCrane : GoodIn wsX3_hoist (wsV RX3 86 RX3 yX3_isCrane wsX3_isCrane) := goodIn_app (goodIn_of _ (by decide +kernel)) ggX3_hoist_X3_isCrane
set_option maxRecDepth 20000 in
theorem ggX3_hoist_X3_no : GoodIn wsX3_hoist wsX3_no := goodIn_r _ [24, 1, 53, 54, 55, 56, 57, 58, 59, 60, 61, 62, 63, 64, 65, 66, 67] (by decide +kernel) (by decide +kernel)
set_option maxRecDepth 20000 in
theorem gX3_hoist_X3_no : GoodIn wsX3_hoist (wsV RX3 80 RX3 yX3_no wsX3_no) := goodIn_app (goodIn_of _ (by decide +kernel)) ggX3_hoist_X3_no
set_option maxRecDepth 20000 in
theorem ggX3_hoist_X3_isIn : GoodIn wsX3_hoist wsX3_isIn := goodIn_r _ [20] (by decide +kernel) (by decide +kernel)
set_option maxRecDepth 20000 in
theorem gX3_hoist_X3_isIn : GoodIn wsX3_hoist (va_wsS RX3 47 yX3_isIn wsX3_isIn) := goodIn_app (goodIn_of _ (by decide +kernel)) ggX3_hoist_X3_isIn
set_option maxRecDepth 20000 in
theorem ggX3_hoist_X3_high : GoodIn wsX3_hoist wsX3_high := goodIn_r _ [28, 29, 30, 53, 54, 55, 56, 57, 58, 59, 60, 61, 62, 63, 64, 65, 66, 67] (by decide +kernel) (by decide +kernel)
set_option maxRecDepth 20000 in
theorem gX3_hoist_X3_high : GoodIn wsX3_hoist (wsV RX3 57 RX3 yX3_high wsX3_high) := goodIn_app (goodIn_of _ (by decide +kernel)) ggX3_hoist_X3_high
set_option maxRecDepth 20000 in
theorem ggX3_hoist_X3_loaded : GoodIn wsX3_hoist wsX3_loaded := goodIn_r _ [34, 8, 53, 54, 55, 56, 57, 58, 59, 60, 61, 62, 63, 64, 65, 66, 67] (by decide +kernel) (by decide +kernel)
set_option maxRecDepth 20000 in
theorem gX3_hoist_X3_loaded : GoodIn wsX3_hoist (wsV RX3 66 RX3 yX3_loaded wsX3_loaded) := goodIn_app (goodIn_of _ (by decide +kernel)) ggX3_hoist_X3_loaded
set_option maxRecDepth 20000 in
theorem ggX3_hoist_X3_canLift : GoodIn wsX3_hoist wsX3_canLift := goodIn_r _ [38, 8, 9, 39, 40, 41, 15, 42, 43, 44, 53, 54, 55, 56, 57, 58, 59, 60, 61, 62, 63, 64, 65, 66, 67] (by decide +kernel) (by decide +kernel)
set_option maxRecDepth 20000 in
theorem gX3_hoist_X3_canLift : GoodIn wsX3_hoist (wsV RX3 103 RX3 yX3_canLift wsX3_canLift) := goodIn_app (goodIn_of _ (by decide +kernel)) ggX3_hoist_X3_canLift
set_option maxRecDepth 20000 in
theorem ggX3_hoist_X3_wound : GoodIn wsX3_hoist wsX3_wound := goodIn_r _ [48, 44, 53, 54, 55, 56, 57, 58, 59, 60, 61, 62, 63, 64, 65, 66, 67] (by decide +kernel) (by decide +kernel)
set_option maxRecDepth 20000 in
theorem gX3_hoist_X3_wound : GoodIn wsX3_hoist (wsV RX3 106 RX3 yX3_wound wsX3_wound) := goodIn_app (goodIn_of _ (by decide +kernel)) ggX3_hoist_X3_wound
set_option maxRecDepth 20000 in
theorem ggX3_hoist_X3_fall : GoodIn wsX3_hoist wsX3_fall := goodIn_r _ [52, 30, 8, 10, 53, 54, 55, 56, 57, 58, 59, 60, 61, 62, 63, 64, 65, 66, 67] (by decide +kernel) (by decide +kernel)
set_option maxRecDepth 20000 in
theorem gX3_hoist_X3_fall : GoodIn wsX3_hoist (wsV RX3 109 RX3 yX3_fall wsX3_fall) := goodIn_app (goodIn_of _ (by decide +kernel)) ggX3_hoist_X3_fall
theorem dX3_hoist_0 : decode cX3_hoist 0 = .ok (.aload_n 0, 1) := by decide +kernel
theorem dX3_hoist_1 : decode cX3_hoist 1 = .ok (.iconst 0, 1) := by decide +kernel
theorem dX3_hoist_2 : decode cX3_hoist 2 = .ok (.putfield 43, 3) := by decide +kernel
theorem dX3_hoist_5 : decode cX3_hoist 5 = .ok (.aload_n 0, 1) := by decide +kernel
theorem dX3_hoist_6 : decode cX3_hoist 6 = .ok (.iload_n 1, 1) := by decide +kernel
theorem dX3_hoist_7 : decode cX3_hoist 7 = .ok (.invokevirtual 86, 3) := by decide +kernel
theorem dX3_hoist_10 : decode cX3_hoist 10 = .ok (.ifCond .ne 9, 3) := by decide +kernel
theorem dX3_hoist_13 : decode cX3_hoist 13 = .ok (.aload_n 0, 1) := by decide +kernel
theorem dX3_hoist_14 : decode cX3_hoist 14 = .ok (.iconst 1, 1) := by decide +kernel
theorem dX3_hoist_15 : decode cX3_hoist 15 = .ok (.invokevirtual 80, 3) := by decide +kernel
theorem dX3_hoist_18 : decode cX3_hoist 18 = .ok (.ireturn, 1) := by decide +kernel
theorem dX3_hoist_19 : decode cX3_hoist 19 = .ok (.iload_n 2, 1) := by decide +kernel
theorem dX3_hoist_20 : decode cX3_hoist 20 = .ok (.iconst 0, 1) := by decide +kernel
theorem dX3_hoist_21 : decode cX3_hoist 21 = .ok (.bipush 20, 2) := by decide +kernel
theorem dX3_hoist_23 : decode cX3_hoist 23 = .ok (.invokestatic 47, 3) := by decide +kernel
theorem dX3_hoist_26 : decode cX3_hoist 26 = .ok (.ifCond .ne 9, 3) := by decide +kernel
theorem dX3_hoist_29 : decode cX3_hoist 29 = .ok (.aload_n 0, 1) := by decide +kernel
theorem dX3_hoist_30 : decode cX3_hoist 30 = .ok (.iconst 2, 1) := by decide +kernel
theorem dX3_hoist_31 : decode cX3_hoist 31 = .ok (.invokevirtual 80, 3) := by decide +kernel
theorem dX3_hoist_34 : decode cX3_hoist 34 = .ok (.ireturn, 1) := by decide +kernel
theorem dX3_hoist_35 : decode cX3_hoist 35 = .ok (.iload_n 2, 1) := by decide +kernel
theorem dX3_hoist_36 : decode cX3_hoist 36 = .ok (.aload_n 0, 1) := by decide +kernel
theorem dX3_hoist_37 : decode cX3_hoist 37 = .ok (.getfield 37, 3) := by decide +kernel
theorem dX3_hoist_40 : decode cX3_hoist 40 = .ok (.iload_n 1, 1) := by decide +kernel
theorem dX3_hoist_41 : decode cX3_hoist 41 = .ok (.iaload, 1) := by decide +kernel
theorem dX3_hoist_42 : decode cX3_hoist 42 = .ok (.isub, 1) := by decide +kernel
theorem dX3_hoist_43 : decode cX3_hoist 43 = .ok (.istore_n 3, 1) := by decide +kernel
theorem dX3_hoist_44 : decode cX3_hoist 44 = .ok (.iload_n 2, 1) := by decide +kernel
theorem dX3_hoist_45 : decode cX3_hoist 45 = .ok (.aload_n 0, 1) := by decide +kernel
theorem dX3_hoist_46 : decode cX3_hoist 46 = .ok (.aload_n 0, 1) := by decide +kernel
theorem dX3_hoist_47 : decode cX3_hoist 47 = .ok (.getfield 34, 3) := by decide +kernel
theorem dX3_hoist_50 : decode cX3_hoist 50 = .ok (.iload_n 1, 1) := by decide +kernel
theorem dX3_hoist_51 : decode cX3_hoist 51 = .ok (.iaload, 1) := by decide +kernel
theorem dX3_hoist_52 : decode cX3_hoist 52 = .ok (.invokevirtual 57, 3) := by decide +kernel
theorem dX3_hoist_55 : decode cX3_hoist 55 = .ok (.aload_n 0, 1) := by decide +kernel
theorem dX3_hoist_56 : decode cX3_hoist 56 = .ok (.iload_n 1, 1) := by decide +kernel
theorem dX3_hoist_57 : decode cX3_hoist 57 = .ok (.invokevirtual 66, 3) := by decide +kernel
theorem dX3_hoist_60 : decode cX3_hoist 60 = .ok (.iadd, 1) := by decide +kernel
theorem dX3_hoist_61 : decode cX3_hoist 61 = .ok (.if_icmp .lt 15, 3) := by decide +kernel
theorem dX3_hoist_64 : decode cX3_hoist 64 = .ok (.iload_n 3, 1) := by decide +kernel
theorem dX3_hoist_65 : decode cX3_hoist 65 = .ok (.ifCond .le 17, 3) := by decide +kernel
theorem dX3_hoist_68 : decode cX3_hoist 68 = .ok (.aload_n 0, 1) := by decide +kernel
theorem dX3_hoist_69 : decode cX3_hoist 69 = .ok (.iload_n 1, 1) := by decide +kernel
theorem dX3_hoist_70 : decode cX3_hoist 70 = .ok (.invokevirtual 103, 3) := by decide +kernel
theorem dX3_hoist_73 : decode cX3_hoist 73 = .ok (.ifCond .ne 9, 3) := by decide +kernel
theorem dX3_hoist_76 : decode cX3_hoist 76 = .ok (.aload_n 0, 1) := by decide +kernel
theorem dX3_hoist_77 : decode cX3_hoist 77 = .ok (.iconst 3, 1) := by decide +kernel
theorem dX3_hoist_78 : decode cX3_hoist 78 = .ok (.invokevirtual 80, 3) := by decide +kernel
theorem dX3_hoist_81 : decode cX3_hoist 81 = .ok (.ireturn, 1) := by decide +kernel
theorem dX3_hoist_82 : decode cX3_hoist 82 = .ok (.aload_n 0, 1) := by decide +kernel
theorem dX3_hoist_83 : decode cX3_hoist 83 = .ok (.iload_n 1, 1) := by decide +kernel
theorem dX3_hoist_84 : decode cX3_hoist 84 = .ok (.iload_n 3, 1) := by decide +kernel
theorem dX3_hoist_85 : decode cX3_hoist 85 = .ok (.invokestatic 61, 3) := by decide +kernel
theorem dX3_hoist_88 : decode cX3_hoist 88 = .ok (.invokevirtual 106, 3) := by decide +kernel
theorem dX3_hoist_91 : decode cX3_hoist 91 = .ok (.istore 4, 2) := by decide +kernel
theorem dX3_hoist_93 : decode cX3_hoist 93 = .ok (.iload_n 3, 1) := by decide +kernel
theorem dX3_hoist_94 : decode cX3_hoist 94 = .ok (.ifCond .ge 65, 3) := by decide +kernel
theorem dX3_hoist_97 : decode cX3_hoist 97 = .ok (.aload_n 0, 1) := by decide +kernel
theorem dX3_hoist_98 : decode cX3_hoist 98 = .ok (.getfield 40, 3) := by decide +kernel
theorem dX3_hoist_101 : decode cX3_hoist 101 = .ok (.iload_n 1, 1) := by decide +kernel
theorem dX3_hoist_102 : decode cX3_hoist 102 = .ok (.iaload, 1) := by decide +kernel
theorem dX3_hoist_103 : decode cX3_hoist 103 = .ok (.iconst (-1), 1) := by decide +kernel
theorem dX3_hoist_104 : decode cX3_hoist 104 = .ok (.if_icmp .eq 55, 3) := by decide +kernel
theorem dX3_hoist_107 : decode cX3_hoist 107 = .ok (.iload 4, 2) := by decide +kernel
theorem dX3_hoist_109 : decode cX3_hoist 109 = .ok (.aload_n 0, 1) := by decide +kernel
theorem dX3_hoist_110 : decode cX3_hoist 110 = .ok (.getfield 9, 3) := by decide +kernel
theorem dX3_hoist_113 : decode cX3_hoist 113 = .ok (.aload_n 0, 1) := by decide +kernel
theorem dX3_hoist_114 : decode cX3_hoist 114 = .ok (.getfield 40, 3) := by decide +kernel
theorem dX3_hoist_117 : decode cX3_hoist 117 = .ok (.iload_n 1, 1) := by decide +kernel
theorem dX3_hoist_118 : decode cX3_hoist 118 = .ok (.iaload, 1) := by decide +kernel
theorem dX3_hoist_119 : decode cX3_hoist 119 = .ok (.iaload, 1) := by decide +kernel
theorem dX3_hoist_120 : decode cX3_hoist 120 = .ok (.bipush 20, 2) := by decide +kernel
theorem dX3_hoist_122 : decode cX3_hoist 122 = .ok (.idiv, 1) := by decide +kernel
theorem dX3_hoist_123 : decode cX3_hoist 123 = .ok (.iconst 1, 1) := by decide +kernel
theorem dX3_hoist_124 : decode cX3_hoist 124 = .ok (.iadd, 1) := by decide +kernel
theorem dX3_hoist_125 : decode cX3_hoist 125 = .ok (.imul, 1) := by decide +kernel
theorem dX3_hoist_126 : decode cX3_hoist 126 = .ok (.istore 5, 2) := by decide +kernel
theorem dX3_hoist_128 : decode cX3_hoist 128 = .ok (.aload_n 0, 1) := by decide +kernel
theorem dX3_hoist_129 : decode cX3_hoist 129 = .ok (.getfield 31, 3) := by decide +kernel
theorem dX3_hoist_132 : decode cX3_hoist 132 = .ok (.iload_n 1, 1) := by decide +kernel
theorem dX3_hoist_133 : decode cX3_hoist 133 = .ok (.iaload, 1) := by decide +kernel
theorem dX3_hoist_134 : decode cX3_hoist 134 = .ok (.iload 5, 2) := by decide +kernel
theorem dX3_hoist_136 : decode cX3_hoist 136 = .ok (.iadd, 1) := by decide +kernel
theorem dX3_hoist_137 : decode cX3_hoist 137 = .ok (.bipush 99, 2) := by decide +kernel
theorem dX3_hoist_139 : decode cX3_hoist 139 = .ok (.if_icmp .le 9, 3) := by decide +kernel
theorem dX3_hoist_142 : decode cX3_hoist 142 = .ok (.aload_n 0, 1) := by decide +kernel
theorem dX3_hoist_143 : decode cX3_hoist 143 = .ok (.iload_n 1, 1) := by decide +kernel
theorem dX3_hoist_144 : decode cX3_hoist 144 = .ok (.invokevirtual 109, 3) := by decide +kernel
theorem dX3_hoist_147 : decode cX3_hoist 147 = .ok (.ireturn, 1) := by decide +kernel
theorem dX3_hoist_148 : decode cX3_hoist 148 = .ok (.aload_n 0, 1) := by decide +kernel
theorem dX3_hoist_149 : decode cX3_hoist 149 = .ok (.getfield 31, 3) := by decide +kernel
theorem dX3_hoist_152 : decode cX3_hoist 152 = .ok (.iload_n 1, 1) := by decide +kernel
theorem dX3_hoist_153 : decode cX3_hoist 153 = .ok (.dup2, 1) := by decide +kernel
theorem dX3_hoist_154 : decode cX3_hoist 154 = .ok (.iaload, 1) := by decide +kernel
theorem dX3_hoist_155 : decode cX3_hoist 155 = .ok (.iload 5, 2) := by decide +kernel
theorem dX3_hoist_157 : decode cX3_hoist 157 = .ok (.iadd, 1) := by decide +kernel
theorem dX3_hoist_158 : decode cX3_hoist 158 = .ok (.iastore, 1) := by decide +kernel
theorem dX3_hoist_159 : decode cX3_hoist 159 = .ok (.aload_n 0, 1) := by decide +kernel
theorem dX3_hoist_160 : decode cX3_hoist 160 = .ok (.getfield 37, 3) := by decide +kernel
theorem dX3_hoist_163 : decode cX3_hoist 163 = .ok (.iload_n 1, 1) := by decide +kernel
theorem dX3_hoist_164 : decode cX3_hoist 164 = .ok (.iload_n 2, 1) := by decide +kernel
theorem dX3_hoist_165 : decode cX3_hoist 165 = .ok (.iastore, 1) := by decide +kernel
theorem dX3_hoist_166 : decode cX3_hoist 166 = .ok (.aload_n 0, 1) := by decide +kernel
theorem dX3_hoist_167 : decode cX3_hoist 167 = .ok (.dup, 1) := by decide +kernel
theorem dX3_hoist_168 : decode cX3_hoist 168 = .ok (.getfield 97, 3) := by decide +kernel
theorem dX3_hoist_171 : decode cX3_hoist 171 = .ok (.iload 4, 2) := by decide +kernel
theorem dX3_hoist_173 : decode cX3_hoist 173 = .ok (.iadd, 1) := by decide +kernel
theorem dX3_hoist_174 : decode cX3_hoist 174 = .ok (.putfield 97, 3) := by decide +kernel
theorem dX3_hoist_177 : decode cX3_hoist 177 = .ok (.iload 4, 2) := by decide +kernel
theorem dX3_hoist_179 : decode cX3_hoist 179 = .ok (.ireturn, 1) := by decide +kernel
theorem dX3_fall_0 : decode cX3_fall 0 = .ok (.aload_n 0, 1) := by decide +kernel
theorem dX3_fall_1 : decode cX3_fall 1 = .ok (.getfield 13, 3) := by decide +kernel
theorem dX3_fall_4 : decode cX3_fall 4 = .ok (.aload_n 0, 1) := by decide +kernel
theorem dX3_fall_5 : decode cX3_fall 5 = .ok (.getfield 40, 3) := by decide +kernel
theorem dX3_fall_8 : decode cX3_fall 8 = .ok (.iload_n 1, 1) := by decide +kernel
theorem dX3_fall_9 : decode cX3_fall 9 = .ok (.iaload, 1) := by decide +kernel
theorem dX3_fall_10 : decode cX3_fall 10 = .ok (.bipush (-2), 2) := by decide +kernel
theorem dX3_fall_12 : decode cX3_fall 12 = .ok (.iastore, 1) := by decide +kernel
theorem dX3_fall_13 : decode cX3_fall 13 = .ok (.aload_n 0, 1) := by decide +kernel
theorem dX3_fall_14 : decode cX3_fall 14 = .ok (.getfield 40, 3) := by decide +kernel
theorem dX3_fall_17 : decode cX3_fall 17 = .ok (.iload_n 1, 1) := by decide +kernel
theorem dX3_fall_18 : decode cX3_fall 18 = .ok (.iconst (-1), 1) := by decide +kernel
theorem dX3_fall_19 : decode cX3_fall 19 = .ok (.iastore, 1) := by decide +kernel
theorem dX3_fall_20 : decode cX3_fall 20 = .ok (.aload_n 0, 1) := by decide +kernel
theorem dX3_fall_21 : decode cX3_fall 21 = .ok (.getfield 31, 3) := by decide +kernel
theorem dX3_fall_24 : decode cX3_fall 24 = .ok (.iload_n 1, 1) := by decide +kernel
theorem dX3_fall_25 : decode cX3_fall 25 = .ok (.bipush 99, 2) := by decide +kernel
theorem dX3_fall_27 : decode cX3_fall 27 = .ok (.iastore, 1) := by decide +kernel
theorem dX3_fall_28 : decode cX3_fall 28 = .ok (.iconst (-1), 1) := by decide +kernel
theorem dX3_fall_29 : decode cX3_fall 29 = .ok (.ireturn, 1) := by decide +kernel
set_option maxRecDepth 20000 in
theorem ggX3_take_X3_isCrane : GoodIn wsX3_take wsX3_isCrane := goodIn_r _ [10, 11, 12, 13, 9, 14, 29, 30, 31, 32, 33, 34, 35, 36, 37, 38, 39, 40, 41, 42, 43] (by decide +kernel) (by decide +kernel)
set_option maxRecDepth 20000 in
theorem gX3_take_X3_isCrane : GoodIn wsX3_take (wsV RX3 86 RX3 yX3_isCrane wsX3_isCrane) := goodIn_app (goodIn_of _ (by decide +kernel)) ggX3_take_X3_isCrane
set_option maxRecDepth 20000 in
theorem ggX3_take_X3_no : GoodIn wsX3_take wsX3_no := goodIn_r _ [18, 1, 29, 30, 31, 32, 33, 34, 35, 36, 37, 38, 39, 40, 41, 42, 43] (by decide +kernel) (by decide +kernel)
set_option maxRecDepth 20000 in
theorem gX3_take_X3_no : GoodIn wsX3_take (wsV RX3 80 RX3 yX3_no wsX3_no) := goodIn_app (goodIn_of _ (by decide +kernel)) ggX3_take_X3_no
set_option maxRecDepth 20000 in
theorem ggX3_take_X3_high : GoodIn wsX3_take wsX3_high := goodIn_r _ [22, 23, 5, 29, 30, 31, 32, 33, 34, 35, 36, 37, 38, 39, 40, 41, 42, 43] (by decide +kernel) (by decide +kernel)
set_option maxRecDepth 20000 in
theorem gX3_take_X3_high : GoodIn wsX3_take (wsV RX3 57 RX3 yX3_high wsX3_high) := goodIn_app (goodIn_of _ (by decide +kernel)) ggX3_take_X3_high
set_option maxRecDepth 20000 in
theorem ggX3_take_X3_top : GoodIn wsX3_take wsX3_top := goodIn_r _ [27, 23, 5, 28, 19, 20, 21, 9, 22, 29, 30, 31, 32, 33, 34, 35, 36, 37, 38, 39, 40, 41, 42, 43] (by decide +kernel) (by decide +kernel)
set_option maxRecDepth 20000 in
theorem gX3_take_X3_top : GoodIn wsX3_take (wsV RX3 112 RX3 yX3_top wsX3_top) := goodIn_app (goodIn_of _ (by decide +kernel)) ggX3_take_X3_top
theorem dX3_take_0 : decode cX3_take 0 = .ok (.aload_n 0, 1) := by decide +kernel
theorem dX3_take_1 : decode cX3_take 1 = .ok (.iconst 0, 1) := by decide +kernel
theorem dX3_take_2 : decode cX3_take 2 = .ok (.putfield 43, 3) := by decide +kernel
theorem dX3_take_5 : decode cX3_take 5 = .ok (.aload_n 0, 1) := by decide +kernel
theorem dX3_take_6 : decode cX3_take 6 = .ok (.iload_n 1, 1) := by decide +kernel
theorem dX3_take_7 : decode cX3_take 7 = .ok (.invokevirtual 86, 3) := by decide +kernel
theorem dX3_take_10 : decode cX3_take 10 = .ok (.ifCond .ne 9, 3) := by decide +kernel
theorem dX3_take_13 : decode cX3_take 13 = .ok (.aload_n 0, 1) := by decide +kernel
theorem dX3_take_14 : decode cX3_take 14 = .ok (.iconst 1, 1) := by decide +kernel
theorem dX3_take_15 : decode cX3_take 15 = .ok (.invokevirtual 80, 3) := by decide +kernel
theorem dX3_take_18 : decode cX3_take 18 = .ok (.ireturn, 1) := by decide +kernel
theorem dX3_take_19 : decode cX3_take 19 = .ok (.aload_n 0, 1) := by decide +kernel
theorem dX3_take_20 : decode cX3_take 20 = .ok (.aload_n 0, 1) := by decide +kernel
theorem dX3_take_21 : decode cX3_take 21 = .ok (.getfield 34, 3) := by decide +kernel
theorem dX3_take_24 : decode cX3_take 24 = .ok (.iload_n 1, 1) := by decide +kernel
theorem dX3_take_25 : decode cX3_take 25 = .ok (.iaload, 1) := by decide +kernel
theorem dX3_take_26 : decode cX3_take 26 = .ok (.invokevirtual 57, 3) := by decide +kernel
theorem dX3_take_29 : decode cX3_take 29 = .ok (.istore_n 2, 1) := by decide +kernel
theorem dX3_take_30 : decode cX3_take 30 = .ok (.aload_n 0, 1) := by decide +kernel
theorem dX3_take_31 : decode cX3_take 31 = .ok (.getfield 40, 3) := by decide +kernel
theorem dX3_take_34 : decode cX3_take 34 = .ok (.iload_n 1, 1) := by decide +kernel
theorem dX3_take_35 : decode cX3_take 35 = .ok (.iaload, 1) := by decide +kernel
theorem dX3_take_36 : decode cX3_take 36 = .ok (.iconst (-1), 1) := by decide +kernel
theorem dX3_take_37 : decode cX3_take 37 = .ok (.if_icmp .ne 17, 3) := by decide +kernel
theorem dX3_take_40 : decode cX3_take 40 = .ok (.iload_n 2, 1) := by decide +kernel
theorem dX3_take_41 : decode cX3_take 41 = .ok (.ifCond .eq 13, 3) := by decide +kernel
theorem dX3_take_44 : decode cX3_take 44 = .ok (.aload_n 0, 1) := by decide +kernel
theorem dX3_take_45 : decode cX3_take 45 = .ok (.getfield 37, 3) := by decide +kernel
theorem dX3_take_48 : decode cX3_take 48 = .ok (.iload_n 1, 1) := by decide +kernel
theorem dX3_take_49 : decode cX3_take 49 = .ok (.iaload, 1) := by decide +kernel
theorem dX3_take_50 : decode cX3_take 50 = .ok (.iload_n 2, 1) := by decide +kernel
theorem dX3_take_51 : decode cX3_take 51 = .ok (.if_icmp .eq 9, 3) := by decide +kernel
theorem dX3_take_54 : decode cX3_take 54 = .ok (.aload_n 0, 1) := by decide +kernel
theorem dX3_take_55 : decode cX3_take 55 = .ok (.iconst 2, 1) := by decide +kernel
theorem dX3_take_56 : decode cX3_take 56 = .ok (.invokevirtual 80, 3) := by decide +kernel
theorem dX3_take_59 : decode cX3_take 59 = .ok (.ireturn, 1) := by decide +kernel
theorem dX3_take_60 : decode cX3_take 60 = .ok (.aload_n 0, 1) := by decide +kernel
theorem dX3_take_61 : decode cX3_take 61 = .ok (.getfield 40, 3) := by decide +kernel
theorem dX3_take_64 : decode cX3_take 64 = .ok (.iload_n 1, 1) := by decide +kernel
theorem dX3_take_65 : decode cX3_take 65 = .ok (.aload_n 0, 1) := by decide +kernel
theorem dX3_take_66 : decode cX3_take 66 = .ok (.aload_n 0, 1) := by decide +kernel
theorem dX3_take_67 : decode cX3_take 67 = .ok (.getfield 34, 3) := by decide +kernel
theorem dX3_take_70 : decode cX3_take 70 = .ok (.iload_n 1, 1) := by decide +kernel
theorem dX3_take_71 : decode cX3_take 71 = .ok (.iaload, 1) := by decide +kernel
theorem dX3_take_72 : decode cX3_take 72 = .ok (.invokevirtual 112, 3) := by decide +kernel
theorem dX3_take_75 : decode cX3_take 75 = .ok (.iastore, 1) := by decide +kernel
theorem dX3_take_76 : decode cX3_take 76 = .ok (.aload_n 0, 1) := by decide +kernel
theorem dX3_take_77 : decode cX3_take 77 = .ok (.getfield 13, 3) := by decide +kernel
theorem dX3_take_80 : decode cX3_take 80 = .ok (.aload_n 0, 1) := by decide +kernel
theorem dX3_take_81 : decode cX3_take 81 = .ok (.getfield 40, 3) := by decide +kernel
theorem dX3_take_84 : decode cX3_take 84 = .ok (.iload_n 1, 1) := by decide +kernel
theorem dX3_take_85 : decode cX3_take 85 = .ok (.iaload, 1) := by decide +kernel
theorem dX3_take_86 : decode cX3_take 86 = .ok (.iconst (-1), 1) := by decide +kernel
theorem dX3_take_87 : decode cX3_take 87 = .ok (.iastore, 1) := by decide +kernel
theorem dX3_take_88 : decode cX3_take 88 = .ok (.aload_n 0, 1) := by decide +kernel
theorem dX3_take_89 : decode cX3_take 89 = .ok (.getfield 40, 3) := by decide +kernel
theorem dX3_take_92 : decode cX3_take 92 = .ok (.iload_n 1, 1) := by decide +kernel
theorem dX3_take_93 : decode cX3_take 93 = .ok (.iaload, 1) := by decide +kernel
theorem dX3_take_94 : decode cX3_take 94 = .ok (.ireturn, 1) := by decide +kernel
set_option maxRecDepth 20000 in
theorem ggX3_lay_X3_isCrane : GoodIn wsX3_lay wsX3_isCrane := goodIn_r _ [11, 12, 13, 14, 10, 15, 33, 34, 35, 36, 37, 38, 39, 40, 41, 42, 43, 44, 45, 46, 47] (by decide +kernel) (by decide +kernel)
set_option maxRecDepth 20000 in
theorem gX3_lay_X3_isCrane : GoodIn wsX3_lay (wsV RX3 86 RX3 yX3_isCrane wsX3_isCrane) := goodIn_app (goodIn_of _ (by decide +kernel)) ggX3_lay_X3_isCrane
set_option maxRecDepth 20000 in
theorem ggX3_lay_X3_no : GoodIn wsX3_lay wsX3_no := goodIn_r _ [19, 1, 33, 34, 35, 36, 37, 38, 39, 40, 41, 42, 43, 44, 45, 46, 47] (by decide +kernel) (by decide +kernel)
set_option maxRecDepth 20000 in
theorem gX3_lay_X3_no : GoodIn wsX3_lay (wsV RX3 80 RX3 yX3_no wsX3_no) := goodIn_app (goodIn_of _ (by decide +kernel)) ggX3_lay_X3_no
set_option maxRecDepth 20000 in
theorem ggX3_lay_X3_high : GoodIn wsX3_lay wsX3_high := goodIn_r _ [23, 24, 5, 33, 34, 35, 36, 37, 38, 39, 40, 41, 42, 43, 44, 45, 46, 47] (by decide +kernel) (by decide +kernel)
set_option maxRecDepth 20000 in
theorem gX3_lay_X3_high : GoodIn wsX3_lay (wsV RX3 57 RX3 yX3_high wsX3_high) := goodIn_app (goodIn_of _ (by decide +kernel)) ggX3_lay_X3_high
set_option maxRecDepth 20000 in
theorem ggX3_lay_X3_isTooLow : GoodIn wsX3_lay wsX3_isTooLow := goodIn_r _ [28, 12, 2, 4, 29, 30, 31, 10, 32, 3, 33, 34, 35, 36, 37, 38, 39, 40, 41, 42, 43, 44, 45, 46, 47] (by decide +kernel) (by decide +kernel)
set_option maxRecDepth 20000 in
theorem gX3_lay_X3_isTooLow : GoodIn wsX3_lay (wsV RX3 83 RX3 yX3_isTooLow wsX3_isTooLow) := goodIn_app (goodIn_of _ (by decide +kernel)) ggX3_lay_X3_isTooLow
theorem dX3_lay_0 : decode cX3_lay 0 = .ok (.aload_n 0, 1) := by decide +kernel
theorem dX3_lay_1 : decode cX3_lay 1 = .ok (.iconst 0, 1) := by decide +kernel
theorem dX3_lay_2 : decode cX3_lay 2 = .ok (.putfield 43, 3) := by decide +kernel
theorem dX3_lay_5 : decode cX3_lay 5 = .ok (.aload_n 0, 1) := by decide +kernel
theorem dX3_lay_6 : decode cX3_lay 6 = .ok (.iload_n 1, 1) := by decide +kernel
theorem dX3_lay_7 : decode cX3_lay 7 = .ok (.invokevirtual 86, 3) := by decide +kernel
theorem dX3_lay_10 : decode cX3_lay 10 = .ok (.ifCond .ne 9, 3) := by decide +kernel
theorem dX3_lay_13 : decode cX3_lay 13 = .ok (.aload_n 0, 1) := by decide +kernel
theorem dX3_lay_14 : decode cX3_lay 14 = .ok (.iconst 1, 1) := by decide +kernel
theorem dX3_lay_15 : decode cX3_lay 15 = .ok (.invokevirtual 80, 3) := by decide +kernel
theorem dX3_lay_18 : decode cX3_lay 18 = .ok (.ireturn, 1) := by decide +kernel
theorem dX3_lay_19 : decode cX3_lay 19 = .ok (.aload_n 0, 1) := by decide +kernel
theorem dX3_lay_20 : decode cX3_lay 20 = .ok (.aload_n 0, 1) := by decide +kernel
theorem dX3_lay_21 : decode cX3_lay 21 = .ok (.getfield 34, 3) := by decide +kernel
theorem dX3_lay_24 : decode cX3_lay 24 = .ok (.iload_n 1, 1) := by decide +kernel
theorem dX3_lay_25 : decode cX3_lay 25 = .ok (.iaload, 1) := by decide +kernel
theorem dX3_lay_26 : decode cX3_lay 26 = .ok (.invokevirtual 57, 3) := by decide +kernel
theorem dX3_lay_29 : decode cX3_lay 29 = .ok (.istore_n 2, 1) := by decide +kernel
theorem dX3_lay_30 : decode cX3_lay 30 = .ok (.aload_n 0, 1) := by decide +kernel
theorem dX3_lay_31 : decode cX3_lay 31 = .ok (.getfield 40, 3) := by decide +kernel
theorem dX3_lay_34 : decode cX3_lay 34 = .ok (.iload_n 1, 1) := by decide +kernel
theorem dX3_lay_35 : decode cX3_lay 35 = .ok (.iaload, 1) := by decide +kernel
theorem dX3_lay_36 : decode cX3_lay 36 = .ok (.iconst (-1), 1) := by decide +kernel
theorem dX3_lay_37 : decode cX3_lay 37 = .ok (.if_icmp .eq 38, 3) := by decide +kernel
theorem dX3_lay_40 : decode cX3_lay 40 = .ok (.aload_n 0, 1) := by decide +kernel
theorem dX3_lay_41 : decode cX3_lay 41 = .ok (.getfield 37, 3) := by decide +kernel
theorem dX3_lay_44 : decode cX3_lay 44 = .ok (.iload_n 1, 1) := by decide +kernel
theorem dX3_lay_45 : decode cX3_lay 45 = .ok (.iaload, 1) := by decide +kernel
theorem dX3_lay_46 : decode cX3_lay 46 = .ok (.iload_n 2, 1) := by decide +kernel
theorem dX3_lay_47 : decode cX3_lay 47 = .ok (.iconst 1, 1) := by decide +kernel
theorem dX3_lay_48 : decode cX3_lay 48 = .ok (.iadd, 1) := by decide +kernel
theorem dX3_lay_49 : decode cX3_lay 49 = .ok (.if_icmp .ne 26, 3) := by decide +kernel
theorem dX3_lay_52 : decode cX3_lay 52 = .ok (.iload_n 2, 1) := by decide +kernel
theorem dX3_lay_53 : decode cX3_lay 53 = .ok (.bipush 8, 2) := by decide +kernel
theorem dX3_lay_55 : decode cX3_lay 55 = .ok (.if_icmp .eq 20, 3) := by decide +kernel
theorem dX3_lay_58 : decode cX3_lay 58 = .ok (.aload_n 0, 1) := by decide +kernel
theorem dX3_lay_59 : decode cX3_lay 59 = .ok (.aload_n 0, 1) := by decide +kernel
theorem dX3_lay_60 : decode cX3_lay 60 = .ok (.getfield 34, 3) := by decide +kernel
theorem dX3_lay_63 : decode cX3_lay 63 = .ok (.iload_n 1, 1) := by decide +kernel
theorem dX3_lay_64 : decode cX3_lay 64 = .ok (.iaload, 1) := by decide +kernel
theorem dX3_lay_65 : decode cX3_lay 65 = .ok (.iload_n 2, 1) := by decide +kernel
theorem dX3_lay_66 : decode cX3_lay 66 = .ok (.iconst 1, 1) := by decide +kernel
theorem dX3_lay_67 : decode cX3_lay 67 = .ok (.iadd, 1) := by decide +kernel
theorem dX3_lay_68 : decode cX3_lay 68 = .ok (.iload_n 1, 1) := by decide +kernel
theorem dX3_lay_69 : decode cX3_lay 69 = .ok (.invokevirtual 83, 3) := by decide +kernel
theorem dX3_lay_72 : decode cX3_lay 72 = .ok (.ifCond .eq 9, 3) := by decide +kernel
theorem dX3_lay_75 : decode cX3_lay 75 = .ok (.aload_n 0, 1) := by decide +kernel
theorem dX3_lay_76 : decode cX3_lay 76 = .ok (.iconst 2, 1) := by decide +kernel
theorem dX3_lay_77 : decode cX3_lay 77 = .ok (.invokevirtual 80, 3) := by decide +kernel
theorem dX3_lay_80 : decode cX3_lay 80 = .ok (.ireturn, 1) := by decide +kernel
theorem dX3_lay_81 : decode cX3_lay 81 = .ok (.aload_n 0, 1) := by decide +kernel
theorem dX3_lay_82 : decode cX3_lay 82 = .ok (.getfield 13, 3) := by decide +kernel
theorem dX3_lay_85 : decode cX3_lay 85 = .ok (.aload_n 0, 1) := by decide +kernel
theorem dX3_lay_86 : decode cX3_lay 86 = .ok (.getfield 40, 3) := by decide +kernel
theorem dX3_lay_89 : decode cX3_lay 89 = .ok (.iload_n 1, 1) := by decide +kernel
theorem dX3_lay_90 : decode cX3_lay 90 = .ok (.iaload, 1) := by decide +kernel
theorem dX3_lay_91 : decode cX3_lay 91 = .ok (.aload_n 0, 1) := by decide +kernel
theorem dX3_lay_92 : decode cX3_lay 92 = .ok (.getfield 34, 3) := by decide +kernel
theorem dX3_lay_95 : decode cX3_lay 95 = .ok (.iload_n 1, 1) := by decide +kernel
theorem dX3_lay_96 : decode cX3_lay 96 = .ok (.iaload, 1) := by decide +kernel
theorem dX3_lay_97 : decode cX3_lay 97 = .ok (.iastore, 1) := by decide +kernel
theorem dX3_lay_98 : decode cX3_lay 98 = .ok (.aload_n 0, 1) := by decide +kernel
theorem dX3_lay_99 : decode cX3_lay 99 = .ok (.getfield 16, 3) := by decide +kernel
theorem dX3_lay_102 : decode cX3_lay 102 = .ok (.aload_n 0, 1) := by decide +kernel
theorem dX3_lay_103 : decode cX3_lay 103 = .ok (.getfield 40, 3) := by decide +kernel
theorem dX3_lay_106 : decode cX3_lay 106 = .ok (.iload_n 1, 1) := by decide +kernel
theorem dX3_lay_107 : decode cX3_lay 107 = .ok (.iaload, 1) := by decide +kernel
theorem dX3_lay_108 : decode cX3_lay 108 = .ok (.iload_n 2, 1) := by decide +kernel
theorem dX3_lay_109 : decode cX3_lay 109 = .ok (.iastore, 1) := by decide +kernel
theorem dX3_lay_110 : decode cX3_lay 110 = .ok (.aload_n 0, 1) := by decide +kernel
theorem dX3_lay_111 : decode cX3_lay 111 = .ok (.getfield 40, 3) := by decide +kernel
theorem dX3_lay_114 : decode cX3_lay 114 = .ok (.iload_n 1, 1) := by decide +kernel
theorem dX3_lay_115 : decode cX3_lay 115 = .ok (.iconst (-1), 1) := by decide +kernel
theorem dX3_lay_116 : decode cX3_lay 116 = .ok (.iastore, 1) := by decide +kernel
theorem dX3_lay_117 : decode cX3_lay 117 = .ok (.iload_n 2, 1) := by decide +kernel
theorem dX3_lay_118 : decode cX3_lay 118 = .ok (.iconst 1, 1) := by decide +kernel
theorem dX3_lay_119 : decode cX3_lay 119 = .ok (.iadd, 1) := by decide +kernel
theorem dX3_lay_120 : decode cX3_lay 120 = .ok (.ireturn, 1) := by decide +kernel
set_option maxRecDepth 20000 in
theorem ggX3_placeTold_X3_high : GoodIn wsX3_placeTold wsX3_high := goodIn_r _ [11, 1, 2, 17, 18, 19, 20, 21, 22, 23, 24, 25, 26, 27, 28, 29, 30, 31] (by decide +kernel) (by decide +kernel)
set_option maxRecDepth 20000 in
theorem gX3_placeTold_X3_high : GoodIn wsX3_placeTold (wsV RX3 57 RX3 yX3_high wsX3_high) := goodIn_app (goodIn_of _ (by decide +kernel)) ggX3_placeTold_X3_high
set_option maxRecDepth 20000 in
theorem ggX3_placeTold_X3_top : GoodIn wsX3_placeTold wsX3_top := goodIn_r _ [15, 1, 2, 16, 7, 8, 9, 10, 11, 17, 18, 19, 20, 21, 22, 23, 24, 25, 26, 27, 28, 29, 30, 31] (by decide +kernel) (by decide +kernel)
set_option maxRecDepth 20000 in
theorem gX3_placeTold_X3_top : GoodIn wsX3_placeTold (wsV RX3 112 RX3 yX3_top wsX3_top) := goodIn_app (goodIn_of _ (by decide +kernel)) ggX3_placeTold_X3_top
theorem dX3_placeTold_0 : decode cX3_placeTold 0 = .ok (.iconst 0, 1) := by decide +kernel
theorem dX3_placeTold_1 : decode cX3_placeTold 1 = .ok (.istore_n 3, 1) := by decide +kernel
theorem dX3_placeTold_2 : decode cX3_placeTold 2 = .ok (.iconst 0, 1) := by decide +kernel
theorem dX3_placeTold_3 : decode cX3_placeTold 3 = .ok (.istore 4, 2) := by decide +kernel
theorem dX3_placeTold_5 : decode cX3_placeTold 5 = .ok (.iconst 0, 1) := by decide +kernel
theorem dX3_placeTold_6 : decode cX3_placeTold 6 = .ok (.istore 5, 2) := by decide +kernel
theorem dX3_placeTold_8 : decode cX3_placeTold 8 = .ok (.iload 5, 2) := by decide +kernel
theorem dX3_placeTold_10 : decode cX3_placeTold 10 = .ok (.aload_n 0, 1) := by decide +kernel
theorem dX3_placeTold_11 : decode cX3_placeTold 11 = .ok (.getfield 54, 3) := by decide +kernel
theorem dX3_placeTold_14 : decode cX3_placeTold 14 = .ok (.if_icmp .ge 34, 3) := by decide +kernel
theorem dX3_placeTold_17 : decode cX3_placeTold 17 = .ok (.iload_n 3, 1) := by decide +kernel
theorem dX3_placeTold_18 : decode cX3_placeTold 18 = .ok (.aload_n 0, 1) := by decide +kernel
theorem dX3_placeTold_19 : decode cX3_placeTold 19 = .ok (.getfield 13, 3) := by decide +kernel
theorem dX3_placeTold_22 : decode cX3_placeTold 22 = .ok (.iload 5, 2) := by decide +kernel
theorem dX3_placeTold_24 : decode cX3_placeTold 24 = .ok (.iaload, 1) := by decide +kernel
theorem dX3_placeTold_25 : decode cX3_placeTold 25 = .ok (.iload_n 1, 1) := by decide +kernel
theorem dX3_placeTold_26 : decode cX3_placeTold 26 = .ok (.if_icmp .ne 13, 3) := by decide +kernel
theorem dX3_placeTold_29 : decode cX3_placeTold 29 = .ok (.aload_n 0, 1) := by decide +kernel
theorem dX3_placeTold_30 : decode cX3_placeTold 30 = .ok (.getfield 9, 3) := by decide +kernel
theorem dX3_placeTold_33 : decode cX3_placeTold 33 = .ok (.iload 5, 2) := by decide +kernel
theorem dX3_placeTold_35 : decode cX3_placeTold 35 = .ok (.iaload, 1) := by decide +kernel
theorem dX3_placeTold_36 : decode cX3_placeTold 36 = .ok (.goto 4, 3) := by decide +kernel
theorem dX3_placeTold_39 : decode cX3_placeTold 39 = .ok (.iconst 0, 1) := by decide +kernel
theorem dX3_placeTold_40 : decode cX3_placeTold 40 = .ok (.iadd, 1) := by decide +kernel
theorem dX3_placeTold_41 : decode cX3_placeTold 41 = .ok (.istore_n 3, 1) := by decide +kernel
theorem dX3_placeTold_42 : decode cX3_placeTold 42 = .ok (.iinc 5 1, 3) := by decide +kernel
theorem dX3_placeTold_45 : decode cX3_placeTold 45 = .ok (.goto (-37), 3) := by decide +kernel
theorem dX3_placeTold_48 : decode cX3_placeTold 48 = .ok (.iconst 0, 1) := by decide +kernel
theorem dX3_placeTold_49 : decode cX3_placeTold 49 = .ok (.istore 5, 2) := by decide +kernel
theorem dX3_placeTold_51 : decode cX3_placeTold 51 = .ok (.iload 5, 2) := by decide +kernel
theorem dX3_placeTold_53 : decode cX3_placeTold 53 = .ok (.aload_n 0, 1) := by decide +kernel
theorem dX3_placeTold_54 : decode cX3_placeTold 54 = .ok (.getfield 51, 3) := by decide +kernel
theorem dX3_placeTold_57 : decode cX3_placeTold 57 = .ok (.if_icmp .ge 30, 3) := by decide +kernel
theorem dX3_placeTold_60 : decode cX3_placeTold 60 = .ok (.iload 4, 2) := by decide +kernel
theorem dX3_placeTold_62 : decode cX3_placeTold 62 = .ok (.aload_n 0, 1) := by decide +kernel
theorem dX3_placeTold_63 : decode cX3_placeTold 63 = .ok (.getfield 34, 3) := by decide +kernel
theorem dX3_placeTold_66 : decode cX3_placeTold 66 = .ok (.iload 5, 2) := by decide +kernel
theorem dX3_placeTold_68 : decode cX3_placeTold 68 = .ok (.iaload, 1) := by decide +kernel
theorem dX3_placeTold_69 : decode cX3_placeTold 69 = .ok (.iload_n 1, 1) := by decide +kernel
theorem dX3_placeTold_70 : decode cX3_placeTold 70 = .ok (.if_icmp .ne 7, 3) := by decide +kernel
theorem dX3_placeTold_73 : decode cX3_placeTold 73 = .ok (.iconst 1, 1) := by decide +kernel
theorem dX3_placeTold_74 : decode cX3_placeTold 74 = .ok (.goto 4, 3) := by decide +kernel
theorem dX3_placeTold_77 : decode cX3_placeTold 77 = .ok (.iconst 0, 1) := by decide +kernel
theorem dX3_placeTold_78 : decode cX3_placeTold 78 = .ok (.iadd, 1) := by decide +kernel
theorem dX3_placeTold_79 : decode cX3_placeTold 79 = .ok (.istore 4, 2) := by decide +kernel
theorem dX3_placeTold_81 : decode cX3_placeTold 81 = .ok (.iinc 5 1, 3) := by decide +kernel
theorem dX3_placeTold_84 : decode cX3_placeTold 84 = .ok (.goto (-33), 3) := by decide +kernel
theorem dX3_placeTold_87 : decode cX3_placeTold 87 = .ok (.iconst 4, 1) := by decide +kernel
theorem dX3_placeTold_88 : decode cX3_placeTold 88 = .ok (.newarray .int, 2) := by decide +kernel
theorem dX3_placeTold_90 : decode cX3_placeTold 90 = .ok (.dup, 1) := by decide +kernel
theorem dX3_placeTold_91 : decode cX3_placeTold 91 = .ok (.iconst 0, 1) := by decide +kernel
theorem dX3_placeTold_92 : decode cX3_placeTold 92 = .ok (.aload_n 0, 1) := by decide +kernel
theorem dX3_placeTold_93 : decode cX3_placeTold 93 = .ok (.iload_n 1, 1) := by decide +kernel
theorem dX3_placeTold_94 : decode cX3_placeTold 94 = .ok (.invokevirtual 57, 3) := by decide +kernel
theorem dX3_placeTold_97 : decode cX3_placeTold 97 = .ok (.iastore, 1) := by decide +kernel
theorem dX3_placeTold_98 : decode cX3_placeTold 98 = .ok (.dup, 1) := by decide +kernel
theorem dX3_placeTold_99 : decode cX3_placeTold 99 = .ok (.iconst 1, 1) := by decide +kernel
theorem dX3_placeTold_100 : decode cX3_placeTold 100 = .ok (.aload_n 0, 1) := by decide +kernel
theorem dX3_placeTold_101 : decode cX3_placeTold 101 = .ok (.iload_n 1, 1) := by decide +kernel
theorem dX3_placeTold_102 : decode cX3_placeTold 102 = .ok (.invokevirtual 112, 3) := by decide +kernel
theorem dX3_placeTold_105 : decode cX3_placeTold 105 = .ok (.iastore, 1) := by decide +kernel
theorem dX3_placeTold_106 : decode cX3_placeTold 106 = .ok (.dup, 1) := by decide +kernel
theorem dX3_placeTold_107 : decode cX3_placeTold 107 = .ok (.iconst 2, 1) := by decide +kernel
theorem dX3_placeTold_108 : decode cX3_placeTold 108 = .ok (.iload_n 3, 1) := by decide +kernel
theorem dX3_placeTold_109 : decode cX3_placeTold 109 = .ok (.iastore, 1) := by decide +kernel
theorem dX3_placeTold_110 : decode cX3_placeTold 110 = .ok (.dup, 1) := by decide +kernel
theorem dX3_placeTold_111 : decode cX3_placeTold 111 = .ok (.iconst 3, 1) := by decide +kernel
theorem dX3_placeTold_112 : decode cX3_placeTold 112 = .ok (.iload 4, 2) := by decide +kernel
theorem dX3_placeTold_114 : decode cX3_placeTold 114 = .ok (.iastore, 1) := by decide +kernel
theorem dX3_placeTold_115 : decode cX3_placeTold 115 = .ok (.astore 5, 2) := by decide +kernel
theorem dX3_placeTold_117 : decode cX3_placeTold 117 = .ok (.aload 5, 2) := by decide +kernel
theorem dX3_placeTold_119 : decode cX3_placeTold 119 = .ok (.iload_n 2, 1) := by decide +kernel
theorem dX3_placeTold_120 : decode cX3_placeTold 120 = .ok (.iaload, 1) := by decide +kernel
theorem dX3_placeTold_121 : decode cX3_placeTold 121 = .ok (.ireturn, 1) := by decide +kernel
set_option maxRecDepth 20000 in
theorem ggX3_place_X3_isPlace : GoodIn wsX3_place wsX3_isPlace := goodIn_r _ [5, 6, 7, 4, 8] (by decide +kernel) (by decide +kernel)
set_option maxRecDepth 20000 in
theorem gX3_place_X3_isPlace : GoodIn wsX3_place (va_wsS RX3 76 yX3_isPlace wsX3_isPlace) := goodIn_app (goodIn_of _ (by decide +kernel)) ggX3_place_X3_isPlace
set_option maxRecDepth 20000 in
theorem ggX3_place_X3_isIn : GoodIn wsX3_place wsX3_isIn := goodIn_r _ [8] (by decide +kernel) (by decide +kernel)
set_option maxRecDepth 20000 in
theorem gX3_place_X3_isIn : GoodIn wsX3_place (va_wsS RX3 47 yX3_isIn wsX3_isIn) := goodIn_app (goodIn_of _ (by decide +kernel)) ggX3_place_X3_isIn
set_option maxRecDepth 20000 in
theorem ggX3_place_X3_placeTold : GoodIn wsX3_place wsX3_placeTold := goodIn_r _ [12, 13, 14, 15, 16, 17, 18, 19, 20, 21, 4, 22, 23, 24, 25, 26, 27, 32, 33, 34, 35, 36, 37, 38, 39, 40, 41, 42, 43, 44, 45, 46] (by decide +kernel) (by decide +kernel)
set_option maxRecDepth 20000 in
theorem gX3_place_X3_placeTold : GoodIn wsX3_place (wsV RX3 115 RX3 yX3_placeTold wsX3_placeTold) := goodIn_app (goodIn_of _ (by decide +kernel)) ggX3_place_X3_placeTold
set_option maxRecDepth 20000 in
theorem ggX3_place_X3_no : GoodIn wsX3_place wsX3_no := goodIn_r _ [31, 1, 32, 33, 34, 35, 36, 37, 38, 39, 40, 41, 42, 43, 44, 45, 46] (by decide +kernel) (by decide +kernel)
set_option maxRecDepth 20000 in
theorem gX3_place_X3_no : GoodIn wsX3_place (wsV RX3 80 RX3 yX3_no wsX3_no) := goodIn_app (goodIn_of _ (by decide +kernel)) ggX3_place_X3_no
theorem dX3_place_0 : decode cX3_place 0 = .ok (.aload_n 0, 1) := by decide +kernel
theorem dX3_place_1 : decode cX3_place 1 = .ok (.iconst 0, 1) := by decide +kernel
theorem dX3_place_2 : decode cX3_place 2 = .ok (.putfield 43, 3) := by decide +kernel
theorem dX3_place_5 : decode cX3_place 5 = .ok (.iload_n 1, 1) := by decide +kernel
theorem dX3_place_6 : decode cX3_place 6 = .ok (.invokestatic 76, 3) := by decide +kernel
theorem dX3_place_9 : decode cX3_place 9 = .ok (.ifCond .eq 21, 3) := by decide +kernel
theorem dX3_place_12 : decode cX3_place 12 = .ok (.iload_n 2, 1) := by decide +kernel
theorem dX3_place_13 : decode cX3_place 13 = .ok (.iconst 0, 1) := by decide +kernel
theorem dX3_place_14 : decode cX3_place 14 = .ok (.iconst 3, 1) := by decide +kernel
theorem dX3_place_15 : decode cX3_place 15 = .ok (.invokestatic 47, 3) := by decide +kernel
theorem dX3_place_18 : decode cX3_place 18 = .ok (.ifCond .eq 12, 3) := by decide +kernel
theorem dX3_place_21 : decode cX3_place 21 = .ok (.aload_n 0, 1) := by decide +kernel
theorem dX3_place_22 : decode cX3_place 22 = .ok (.iload_n 1, 1) := by decide +kernel
theorem dX3_place_23 : decode cX3_place 23 = .ok (.iload_n 2, 1) := by decide +kernel
theorem dX3_place_24 : decode cX3_place 24 = .ok (.invokevirtual 115, 3) := by decide +kernel
theorem dX3_place_27 : decode cX3_place 27 = .ok (.goto 8, 3) := by decide +kernel
theorem dX3_place_30 : decode cX3_place 30 = .ok (.aload_n 0, 1) := by decide +kernel
theorem dX3_place_31 : decode cX3_place 31 = .ok (.iconst 1, 1) := by decide +kernel
theorem dX3_place_32 : decode cX3_place 32 = .ok (.invokevirtual 80, 3) := by decide +kernel
theorem dX3_place_35 : decode cX3_place 35 = .ok (.ireturn, 1) := by decide +kernel
theorem dX3_craneOf_0 : decode cX3_craneOf 0 = .ok (.iconst 0, 1) := by decide +kernel
theorem dX3_craneOf_1 : decode cX3_craneOf 1 = .ok (.istore_n 2, 1) := by decide +kernel
theorem dX3_craneOf_2 : decode cX3_craneOf 2 = .ok (.iload_n 2, 1) := by decide +kernel
theorem dX3_craneOf_3 : decode cX3_craneOf 3 = .ok (.aload_n 0, 1) := by decide +kernel
theorem dX3_craneOf_4 : decode cX3_craneOf 4 = .ok (.getfield 51, 3) := by decide +kernel
theorem dX3_craneOf_7 : decode cX3_craneOf 7 = .ok (.if_icmp .ge 21, 3) := by decide +kernel
theorem dX3_craneOf_10 : decode cX3_craneOf 10 = .ok (.aload_n 0, 1) := by decide +kernel
theorem dX3_craneOf_11 : decode cX3_craneOf 11 = .ok (.getfield 40, 3) := by decide +kernel
theorem dX3_craneOf_14 : decode cX3_craneOf 14 = .ok (.iload_n 2, 1) := by decide +kernel
theorem dX3_craneOf_15 : decode cX3_craneOf 15 = .ok (.iaload, 1) := by decide +kernel
theorem dX3_craneOf_16 : decode cX3_craneOf 16 = .ok (.iload_n 1, 1) := by decide +kernel
theorem dX3_craneOf_17 : decode cX3_craneOf 17 = .ok (.if_icmp .ne 5, 3) := by decide +kernel
theorem dX3_craneOf_20 : decode cX3_craneOf 20 = .ok (.iload_n 2, 1) := by decide +kernel
theorem dX3_craneOf_21 : decode cX3_craneOf 21 = .ok (.ireturn, 1) := by decide +kernel
theorem dX3_craneOf_22 : decode cX3_craneOf 22 = .ok (.iinc 2 1, 3) := by decide +kernel
theorem dX3_craneOf_25 : decode cX3_craneOf 25 = .ok (.goto (-23), 3) := by decide +kernel
theorem dX3_craneOf_28 : decode cX3_craneOf 28 = .ok (.iconst (-1), 1) := by decide +kernel
theorem dX3_craneOf_29 : decode cX3_craneOf 29 = .ok (.ireturn, 1) := by decide +kernel
set_option maxRecDepth 20000 in
theorem ggX3_barrelTold_X3_high : GoodIn wsX3_barrelTold wsX3_high := goodIn_r _ [9, 10, 1, 17, 18, 19, 20, 21, 22, 23, 24, 25, 26, 27, 28, 29, 30, 31] (by decide +kernel) (by decide +kernel)
set_option maxRecDepth 20000 in
theorem gX3_barrelTold_X3_high : GoodIn wsX3_barrelTold (wsV RX3 57 RX3 yX3_high wsX3_high) := goodIn_app (goodIn_of _ (by decide +kernel)) ggX3_barrelTold_X3_high
set_option maxRecDepth 20000 in
theorem ggX3_barrelTold_X3_craneOf : GoodIn wsX3_barrelTold wsX3_craneOf := goodIn_r _ [14, 15, 16, 17, 18, 19, 20, 21, 22, 23, 24, 25, 26, 27, 28, 29, 30, 31] (by decide +kernel) (by decide +kernel)
set_option maxRecDepth 20000 in
theorem gX3_barrelTold_X3_craneOf : GoodIn wsX3_barrelTold (wsV RX3 118 RX3 yX3_craneOf wsX3_craneOf) := goodIn_app (goodIn_of _ (by decide +kernel)) ggX3_barrelTold_X3_craneOf
theorem dX3_barrelTold_0 : decode cX3_barrelTold 0 = .ok (.aload_n 0, 1) := by decide +kernel
theorem dX3_barrelTold_1 : decode cX3_barrelTold 1 = .ok (.getfield 13, 3) := by decide +kernel
theorem dX3_barrelTold_4 : decode cX3_barrelTold 4 = .ok (.iload_n 1, 1) := by decide +kernel
theorem dX3_barrelTold_5 : decode cX3_barrelTold 5 = .ok (.iaload, 1) := by decide +kernel
theorem dX3_barrelTold_6 : decode cX3_barrelTold 6 = .ok (.ifCond .lt 7, 3) := by decide +kernel
theorem dX3_barrelTold_9 : decode cX3_barrelTold 9 = .ok (.iconst 1, 1) := by decide +kernel
theorem dX3_barrelTold_10 : decode cX3_barrelTold 10 = .ok (.goto 4, 3) := by decide +kernel
theorem dX3_barrelTold_13 : decode cX3_barrelTold 13 = .ok (.iconst 0, 1) := by decide +kernel
theorem dX3_barrelTold_14 : decode cX3_barrelTold 14 = .ok (.istore_n 3, 1) := by decide +kernel
theorem dX3_barrelTold_15 : decode cX3_barrelTold 15 = .ok (.iconst 5, 1) := by decide +kernel
theorem dX3_barrelTold_16 : decode cX3_barrelTold 16 = .ok (.newarray .int, 2) := by decide +kernel
theorem dX3_barrelTold_18 : decode cX3_barrelTold 18 = .ok (.dup, 1) := by decide +kernel
theorem dX3_barrelTold_19 : decode cX3_barrelTold 19 = .ok (.iconst 0, 1) := by decide +kernel
theorem dX3_barrelTold_20 : decode cX3_barrelTold 20 = .ok (.aload_n 0, 1) := by decide +kernel
theorem dX3_barrelTold_21 : decode cX3_barrelTold 21 = .ok (.getfield 9, 3) := by decide +kernel
theorem dX3_barrelTold_24 : decode cX3_barrelTold 24 = .ok (.iload_n 1, 1) := by decide +kernel
theorem dX3_barrelTold_25 : decode cX3_barrelTold 25 = .ok (.iaload, 1) := by decide +kernel
theorem dX3_barrelTold_26 : decode cX3_barrelTold 26 = .ok (.iastore, 1) := by decide +kernel
theorem dX3_barrelTold_27 : decode cX3_barrelTold 27 = .ok (.dup, 1) := by decide +kernel
theorem dX3_barrelTold_28 : decode cX3_barrelTold 28 = .ok (.iconst 1, 1) := by decide +kernel
theorem dX3_barrelTold_29 : decode cX3_barrelTold 29 = .ok (.iload_n 3, 1) := by decide +kernel
theorem dX3_barrelTold_30 : decode cX3_barrelTold 30 = .ok (.ifCond .eq 12, 3) := by decide +kernel
theorem dX3_barrelTold_33 : decode cX3_barrelTold 33 = .ok (.aload_n 0, 1) := by decide +kernel
theorem dX3_barrelTold_34 : decode cX3_barrelTold 34 = .ok (.getfield 13, 3) := by decide +kernel
theorem dX3_barrelTold_37 : decode cX3_barrelTold 37 = .ok (.iload_n 1, 1) := by decide +kernel
theorem dX3_barrelTold_38 : decode cX3_barrelTold 38 = .ok (.iaload, 1) := by decide +kernel
theorem dX3_barrelTold_39 : decode cX3_barrelTold 39 = .ok (.goto 4, 3) := by decide +kernel
theorem dX3_barrelTold_42 : decode cX3_barrelTold 42 = .ok (.iconst (-1), 1) := by decide +kernel
theorem dX3_barrelTold_43 : decode cX3_barrelTold 43 = .ok (.iastore, 1) := by decide +kernel
theorem dX3_barrelTold_44 : decode cX3_barrelTold 44 = .ok (.dup, 1) := by decide +kernel
theorem dX3_barrelTold_45 : decode cX3_barrelTold 45 = .ok (.iconst 2, 1) := by decide +kernel
theorem dX3_barrelTold_46 : decode cX3_barrelTold 46 = .ok (.iload_n 3, 1) := by decide +kernel
theorem dX3_barrelTold_47 : decode cX3_barrelTold 47 = .ok (.ifCond .eq 25, 3) := by decide +kernel
theorem dX3_barrelTold_50 : decode cX3_barrelTold 50 = .ok (.aload_n 0, 1) := by decide +kernel
theorem dX3_barrelTold_51 : decode cX3_barrelTold 51 = .ok (.aload_n 0, 1) := by decide +kernel
theorem dX3_barrelTold_52 : decode cX3_barrelTold 52 = .ok (.getfield 13, 3) := by decide +kernel
theorem dX3_barrelTold_55 : decode cX3_barrelTold 55 = .ok (.iload_n 1, 1) := by decide +kernel
theorem dX3_barrelTold_56 : decode cX3_barrelTold 56 = .ok (.iaload, 1) := by decide +kernel
theorem dX3_barrelTold_57 : decode cX3_barrelTold 57 = .ok (.invokevirtual 57, 3) := by decide +kernel
theorem dX3_barrelTold_60 : decode cX3_barrelTold 60 = .ok (.iconst 1, 1) := by decide +kernel
theorem dX3_barrelTold_61 : decode cX3_barrelTold 61 = .ok (.isub, 1) := by decide +kernel
theorem dX3_barrelTold_62 : decode cX3_barrelTold 62 = .ok (.aload_n 0, 1) := by decide +kernel
theorem dX3_barrelTold_63 : decode cX3_barrelTold 63 = .ok (.getfield 16, 3) := by decide +kernel
theorem dX3_barrelTold_66 : decode cX3_barrelTold 66 = .ok (.iload_n 1, 1) := by decide +kernel
theorem dX3_barrelTold_67 : decode cX3_barrelTold 67 = .ok (.iaload, 1) := by decide +kernel
theorem dX3_barrelTold_68 : decode cX3_barrelTold 68 = .ok (.isub, 1) := by decide +kernel
theorem dX3_barrelTold_69 : decode cX3_barrelTold 69 = .ok (.goto 4, 3) := by decide +kernel
theorem dX3_barrelTold_72 : decode cX3_barrelTold 72 = .ok (.iconst 0, 1) := by decide +kernel
theorem dX3_barrelTold_73 : decode cX3_barrelTold 73 = .ok (.iastore, 1) := by decide +kernel
theorem dX3_barrelTold_74 : decode cX3_barrelTold 74 = .ok (.dup, 1) := by decide +kernel
theorem dX3_barrelTold_75 : decode cX3_barrelTold 75 = .ok (.iconst 3, 1) := by decide +kernel
theorem dX3_barrelTold_76 : decode cX3_barrelTold 76 = .ok (.aload_n 0, 1) := by decide +kernel
theorem dX3_barrelTold_77 : decode cX3_barrelTold 77 = .ok (.iload_n 1, 1) := by decide +kernel
theorem dX3_barrelTold_78 : decode cX3_barrelTold 78 = .ok (.invokevirtual 118, 3) := by decide +kernel
theorem dX3_barrelTold_81 : decode cX3_barrelTold 81 = .ok (.iastore, 1) := by decide +kernel
theorem dX3_barrelTold_82 : decode cX3_barrelTold 82 = .ok (.dup, 1) := by decide +kernel
theorem dX3_barrelTold_83 : decode cX3_barrelTold 83 = .ok (.iconst 4, 1) := by decide +kernel
theorem dX3_barrelTold_84 : decode cX3_barrelTold 84 = .ok (.aload_n 0, 1) := by decide +kernel
theorem dX3_barrelTold_85 : decode cX3_barrelTold 85 = .ok (.getfield 13, 3) := by decide +kernel
theorem dX3_barrelTold_88 : decode cX3_barrelTold 88 = .ok (.iload_n 1, 1) := by decide +kernel
theorem dX3_barrelTold_89 : decode cX3_barrelTold 89 = .ok (.iaload, 1) := by decide +kernel
theorem dX3_barrelTold_90 : decode cX3_barrelTold 90 = .ok (.bipush (-2), 2) := by decide +kernel
theorem dX3_barrelTold_92 : decode cX3_barrelTold 92 = .ok (.if_icmp .ne 7, 3) := by decide +kernel
theorem dX3_barrelTold_95 : decode cX3_barrelTold 95 = .ok (.iconst 1, 1) := by decide +kernel
theorem dX3_barrelTold_96 : decode cX3_barrelTold 96 = .ok (.goto 4, 3) := by decide +kernel
theorem dX3_barrelTold_99 : decode cX3_barrelTold 99 = .ok (.iconst 0, 1) := by decide +kernel
theorem dX3_barrelTold_100 : decode cX3_barrelTold 100 = .ok (.iastore, 1) := by decide +kernel
theorem dX3_barrelTold_101 : decode cX3_barrelTold 101 = .ok (.astore 4, 2) := by decide +kernel
theorem dX3_barrelTold_103 : decode cX3_barrelTold 103 = .ok (.aload 4, 2) := by decide +kernel
theorem dX3_barrelTold_105 : decode cX3_barrelTold 105 = .ok (.iload_n 2, 1) := by decide +kernel
theorem dX3_barrelTold_106 : decode cX3_barrelTold 106 = .ok (.iaload, 1) := by decide +kernel
theorem dX3_barrelTold_107 : decode cX3_barrelTold 107 = .ok (.ireturn, 1) := by decide +kernel
set_option maxRecDepth 20000 in
theorem ggX3_barrel_X3_isIn : GoodIn wsX3_barrel wsX3_isIn := goodIn_r _ [6] (by decide +kernel) (by decide +kernel)
set_option maxRecDepth 20000 in
theorem gX3_barrel_X3_isIn : GoodIn wsX3_barrel (va_wsS RX3 47 yX3_isIn wsX3_isIn) := goodIn_app (goodIn_of _ (by decide +kernel)) ggX3_barrel_X3_isIn
set_option maxRecDepth 20000 in
theorem ggX3_barrel_X3_barrelTold : GoodIn wsX3_barrel wsX3_barrelTold := goodIn_r _ [10, 11, 12, 13, 14, 15, 16, 17, 5, 18, 2, 19, 20, 21, 22, 23, 24, 29, 30, 31, 32, 33, 34, 35, 36, 37, 38, 39, 40, 41, 42, 43] (by decide +kernel) (by decide +kernel)
set_option maxRecDepth 20000 in
theorem gX3_barrel_X3_barrelTold : GoodIn wsX3_barrel (wsV RX3 121 RX3 yX3_barrelTold wsX3_barrelTold) := goodIn_app (goodIn_of _ (by decide +kernel)) ggX3_barrel_X3_barrelTold
set_option maxRecDepth 20000 in
theorem ggX3_barrel_X3_no : GoodIn wsX3_barrel wsX3_no := goodIn_r _ [28, 1, 29, 30, 31, 32, 33, 34, 35, 36, 37, 38, 39, 40, 41, 42, 43] (by decide +kernel) (by decide +kernel)
set_option maxRecDepth 20000 in
theorem gX3_barrel_X3_no : GoodIn wsX3_barrel (wsV RX3 80 RX3 yX3_no wsX3_no) := goodIn_app (goodIn_of _ (by decide +kernel)) ggX3_barrel_X3_no
theorem dX3_barrel_0 : decode cX3_barrel 0 = .ok (.aload_n 0, 1) := by decide +kernel
theorem dX3_barrel_1 : decode cX3_barrel 1 = .ok (.iconst 0, 1) := by decide +kernel
theorem dX3_barrel_2 : decode cX3_barrel 2 = .ok (.putfield 43, 3) := by decide +kernel
theorem dX3_barrel_5 : decode cX3_barrel 5 = .ok (.iload_n 1, 1) := by decide +kernel
theorem dX3_barrel_6 : decode cX3_barrel 6 = .ok (.iconst 0, 1) := by decide +kernel
theorem dX3_barrel_7 : decode cX3_barrel 7 = .ok (.aload_n 0, 1) := by decide +kernel
theorem dX3_barrel_8 : decode cX3_barrel 8 = .ok (.getfield 54, 3) := by decide +kernel
theorem dX3_barrel_11 : decode cX3_barrel 11 = .ok (.iconst 1, 1) := by decide +kernel
theorem dX3_barrel_12 : decode cX3_barrel 12 = .ok (.isub, 1) := by decide +kernel
theorem dX3_barrel_13 : decode cX3_barrel 13 = .ok (.invokestatic 47, 3) := by decide +kernel
theorem dX3_barrel_16 : decode cX3_barrel 16 = .ok (.ifCond .eq 21, 3) := by decide +kernel
theorem dX3_barrel_19 : decode cX3_barrel 19 = .ok (.iload_n 2, 1) := by decide +kernel
theorem dX3_barrel_20 : decode cX3_barrel 20 = .ok (.iconst 0, 1) := by decide +kernel
theorem dX3_barrel_21 : decode cX3_barrel 21 = .ok (.iconst 4, 1) := by decide +kernel
theorem dX3_barrel_22 : decode cX3_barrel 22 = .ok (.invokestatic 47, 3) := by decide +kernel
theorem dX3_barrel_25 : decode cX3_barrel 25 = .ok (.ifCond .eq 12, 3) := by decide +kernel
theorem dX3_barrel_28 : decode cX3_barrel 28 = .ok (.aload_n 0, 1) := by decide +kernel
theorem dX3_barrel_29 : decode cX3_barrel 29 = .ok (.iload_n 1, 1) := by decide +kernel
theorem dX3_barrel_30 : decode cX3_barrel 30 = .ok (.iload_n 2, 1) := by decide +kernel
theorem dX3_barrel_31 : decode cX3_barrel 31 = .ok (.invokevirtual 121, 3) := by decide +kernel
theorem dX3_barrel_34 : decode cX3_barrel 34 = .ok (.goto 8, 3) := by decide +kernel
theorem dX3_barrel_37 : decode cX3_barrel 37 = .ok (.aload_n 0, 1) := by decide +kernel
theorem dX3_barrel_38 : decode cX3_barrel 38 = .ok (.iconst 1, 1) := by decide +kernel
theorem dX3_barrel_39 : decode cX3_barrel 39 = .ok (.invokevirtual 80, 3) := by decide +kernel
theorem dX3_barrel_42 : decode cX3_barrel 42 = .ok (.ireturn, 1) := by decide +kernel
set_option maxRecDepth 20000 in
theorem ggX3_craneTold_X3_strength : GoodIn wsX3_craneTold wsX3_strength := goodIn_r _ [14, 5, 4, 15, 16, 17, 18, 19, 20, 21, 22, 23, 24, 25, 26, 27, 28, 29] (by decide +kernel) (by decide +kernel)
set_option maxRecDepth 20000 in
theorem gX3_craneTold_X3_strength : GoodIn wsX3_craneTold (wsV RX3 100 RX3 yX3_strength wsX3_strength) := goodIn_app (goodIn_of _ (by decide +kernel)) ggX3_craneTold_X3_strength
theorem dX3_craneTold_0 : decode cX3_craneTold 0 = .ok (.bipush 9, 2) := by decide +kernel
theorem dX3_craneTold_2 : decode cX3_craneTold 2 = .ok (.newarray .int, 2) := by decide +kernel
theorem dX3_craneTold_4 : decode cX3_craneTold 4 = .ok (.dup, 1) := by decide +kernel
theorem dX3_craneTold_5 : decode cX3_craneTold 5 = .ok (.iconst 0, 1) := by decide +kernel
theorem dX3_craneTold_6 : decode cX3_craneTold 6 = .ok (.aload_n 0, 1) := by decide +kernel
theorem dX3_craneTold_7 : decode cX3_craneTold 7 = .ok (.getfield 19, 3) := by decide +kernel
theorem dX3_craneTold_10 : decode cX3_craneTold 10 = .ok (.iload_n 1, 1) := by decide +kernel
theorem dX3_craneTold_11 : decode cX3_craneTold 11 = .ok (.iaload, 1) := by decide +kernel
theorem dX3_craneTold_12 : decode cX3_craneTold 12 = .ok (.iastore, 1) := by decide +kernel
theorem dX3_craneTold_13 : decode cX3_craneTold 13 = .ok (.dup, 1) := by decide +kernel
theorem dX3_craneTold_14 : decode cX3_craneTold 14 = .ok (.iconst 1, 1) := by decide +kernel
theorem dX3_craneTold_15 : decode cX3_craneTold 15 = .ok (.aload_n 0, 1) := by decide +kernel
theorem dX3_craneTold_16 : decode cX3_craneTold 16 = .ok (.getfield 22, 3) := by decide +kernel
theorem dX3_craneTold_19 : decode cX3_craneTold 19 = .ok (.iload_n 1, 1) := by decide +kernel
theorem dX3_craneTold_20 : decode cX3_craneTold 20 = .ok (.iaload, 1) := by decide +kernel
theorem dX3_craneTold_21 : decode cX3_craneTold 21 = .ok (.iastore, 1) := by decide +kernel
theorem dX3_craneTold_22 : decode cX3_craneTold 22 = .ok (.dup, 1) := by decide +kernel
theorem dX3_craneTold_23 : decode cX3_craneTold 23 = .ok (.iconst 2, 1) := by decide +kernel
theorem dX3_craneTold_24 : decode cX3_craneTold 24 = .ok (.aload_n 0, 1) := by decide +kernel
theorem dX3_craneTold_25 : decode cX3_craneTold 25 = .ok (.getfield 25, 3) := by decide +kernel
theorem dX3_craneTold_28 : decode cX3_craneTold 28 = .ok (.iload_n 1, 1) := by decide +kernel
theorem dX3_craneTold_29 : decode cX3_craneTold 29 = .ok (.iaload, 1) := by decide +kernel
theorem dX3_craneTold_30 : decode cX3_craneTold 30 = .ok (.iastore, 1) := by decide +kernel
theorem dX3_craneTold_31 : decode cX3_craneTold 31 = .ok (.dup, 1) := by decide +kernel
theorem dX3_craneTold_32 : decode cX3_craneTold 32 = .ok (.iconst 3, 1) := by decide +kernel
theorem dX3_craneTold_33 : decode cX3_craneTold 33 = .ok (.aload_n 0, 1) := by decide +kernel
theorem dX3_craneTold_34 : decode cX3_craneTold 34 = .ok (.getfield 28, 3) := by decide +kernel
theorem dX3_craneTold_37 : decode cX3_craneTold 37 = .ok (.iload_n 1, 1) := by decide +kernel
theorem dX3_craneTold_38 : decode cX3_craneTold 38 = .ok (.iaload, 1) := by decide +kernel
theorem dX3_craneTold_39 : decode cX3_craneTold 39 = .ok (.iastore, 1) := by decide +kernel
theorem dX3_craneTold_40 : decode cX3_craneTold 40 = .ok (.dup, 1) := by decide +kernel
theorem dX3_craneTold_41 : decode cX3_craneTold 41 = .ok (.iconst 4, 1) := by decide +kernel
theorem dX3_craneTold_42 : decode cX3_craneTold 42 = .ok (.aload_n 0, 1) := by decide +kernel
theorem dX3_craneTold_43 : decode cX3_craneTold 43 = .ok (.getfield 31, 3) := by decide +kernel
theorem dX3_craneTold_46 : decode cX3_craneTold 46 = .ok (.iload_n 1, 1) := by decide +kernel
theorem dX3_craneTold_47 : decode cX3_craneTold 47 = .ok (.iaload, 1) := by decide +kernel
theorem dX3_craneTold_48 : decode cX3_craneTold 48 = .ok (.iastore, 1) := by decide +kernel
theorem dX3_craneTold_49 : decode cX3_craneTold 49 = .ok (.dup, 1) := by decide +kernel
theorem dX3_craneTold_50 : decode cX3_craneTold 50 = .ok (.iconst 5, 1) := by decide +kernel
theorem dX3_craneTold_51 : decode cX3_craneTold 51 = .ok (.aload_n 0, 1) := by decide +kernel
theorem dX3_craneTold_52 : decode cX3_craneTold 52 = .ok (.getfield 34, 3) := by decide +kernel
theorem dX3_craneTold_55 : decode cX3_craneTold 55 = .ok (.iload_n 1, 1) := by decide +kernel
theorem dX3_craneTold_56 : decode cX3_craneTold 56 = .ok (.iaload, 1) := by decide +kernel
theorem dX3_craneTold_57 : decode cX3_craneTold 57 = .ok (.iastore, 1) := by decide +kernel
theorem dX3_craneTold_58 : decode cX3_craneTold 58 = .ok (.dup, 1) := by decide +kernel
theorem dX3_craneTold_59 : decode cX3_craneTold 59 = .ok (.bipush 6, 2) := by decide +kernel
theorem dX3_craneTold_61 : decode cX3_craneTold 61 = .ok (.aload_n 0, 1) := by decide +kernel
theorem dX3_craneTold_62 : decode cX3_craneTold 62 = .ok (.getfield 37, 3) := by decide +kernel
theorem dX3_craneTold_65 : decode cX3_craneTold 65 = .ok (.iload_n 1, 1) := by decide +kernel
theorem dX3_craneTold_66 : decode cX3_craneTold 66 = .ok (.iaload, 1) := by decide +kernel
theorem dX3_craneTold_67 : decode cX3_craneTold 67 = .ok (.iastore, 1) := by decide +kernel
theorem dX3_craneTold_68 : decode cX3_craneTold 68 = .ok (.dup, 1) := by decide +kernel
theorem dX3_craneTold_69 : decode cX3_craneTold 69 = .ok (.bipush 7, 2) := by decide +kernel
theorem dX3_craneTold_71 : decode cX3_craneTold 71 = .ok (.aload_n 0, 1) := by decide +kernel
theorem dX3_craneTold_72 : decode cX3_craneTold 72 = .ok (.getfield 40, 3) := by decide +kernel
theorem dX3_craneTold_75 : decode cX3_craneTold 75 = .ok (.iload_n 1, 1) := by decide +kernel
theorem dX3_craneTold_76 : decode cX3_craneTold 76 = .ok (.iaload, 1) := by decide +kernel
theorem dX3_craneTold_77 : decode cX3_craneTold 77 = .ok (.iastore, 1) := by decide +kernel
theorem dX3_craneTold_78 : decode cX3_craneTold 78 = .ok (.dup, 1) := by decide +kernel
theorem dX3_craneTold_79 : decode cX3_craneTold 79 = .ok (.bipush 8, 2) := by decide +kernel
theorem dX3_craneTold_81 : decode cX3_craneTold 81 = .ok (.aload_n 0, 1) := by decide +kernel
theorem dX3_craneTold_82 : decode cX3_craneTold 82 = .ok (.iload_n 1, 1) := by decide +kernel
theorem dX3_craneTold_83 : decode cX3_craneTold 83 = .ok (.invokevirtual 100, 3) := by decide +kernel
theorem dX3_craneTold_86 : decode cX3_craneTold 86 = .ok (.iastore, 1) := by decide +kernel
theorem dX3_craneTold_87 : decode cX3_craneTold 87 = .ok (.astore_n 3, 1) := by decide +kernel
theorem dX3_craneTold_88 : decode cX3_craneTold 88 = .ok (.aload_n 3, 1) := by decide +kernel
theorem dX3_craneTold_89 : decode cX3_craneTold 89 = .ok (.iload_n 2, 1) := by decide +kernel
theorem dX3_craneTold_90 : decode cX3_craneTold 90 = .ok (.iaload, 1) := by decide +kernel
theorem dX3_craneTold_91 : decode cX3_craneTold 91 = .ok (.ireturn, 1) := by decide +kernel
set_option maxRecDepth 20000 in
theorem ggX3_crane_X3_isCrane : GoodIn wsX3_crane wsX3_isCrane := goodIn_r _ [6, 7, 8, 9, 5, 10, 32, 33, 34, 35, 36, 37, 38, 39, 40, 41, 42, 43, 44, 45, 46] (by decide +kernel) (by decide +kernel)
set_option maxRecDepth 20000 in
theorem gX3_crane_X3_isCrane : GoodIn wsX3_crane (wsV RX3 86 RX3 yX3_isCrane wsX3_isCrane) := goodIn_app (goodIn_of _ (by decide +kernel)) ggX3_crane_X3_isCrane
set_option maxRecDepth 20000 in
theorem ggX3_crane_X3_isIn : GoodIn wsX3_crane wsX3_isIn := goodIn_r _ [10] (by decide +kernel) (by decide +kernel)
set_option maxRecDepth 20000 in
theorem gX3_crane_X3_isIn : GoodIn wsX3_crane (va_wsS RX3 47 yX3_isIn wsX3_isIn) := goodIn_app (goodIn_of _ (by decide +kernel)) ggX3_crane_X3_isIn
set_option maxRecDepth 20000 in
theorem ggX3_crane_X3_craneTold : GoodIn wsX3_crane wsX3_craneTold := goodIn_r _ [14, 15, 16, 17, 18, 19, 20, 21, 22, 23, 24, 25, 26, 5, 27, 32, 33, 34, 35, 36, 37, 38, 39, 40, 41, 42, 43, 44, 45, 46] (by decide +kernel) (by decide +kernel)
set_option maxRecDepth 20000 in
theorem gX3_crane_X3_craneTold : GoodIn wsX3_crane (wsV RX3 124 RX3 yX3_craneTold wsX3_craneTold) := goodIn_app (goodIn_of _ (by decide +kernel)) ggX3_crane_X3_craneTold
set_option maxRecDepth 20000 in
theorem ggX3_crane_X3_no : GoodIn wsX3_crane wsX3_no := goodIn_r _ [31, 1, 32, 33, 34, 35, 36, 37, 38, 39, 40, 41, 42, 43, 44, 45, 46] (by decide +kernel) (by decide +kernel)
set_option maxRecDepth 20000 in
theorem gX3_crane_X3_no : GoodIn wsX3_crane (wsV RX3 80 RX3 yX3_no wsX3_no) := goodIn_app (goodIn_of _ (by decide +kernel)) ggX3_crane_X3_no
theorem dX3_crane_0 : decode cX3_crane 0 = .ok (.aload_n 0, 1) := by decide +kernel
theorem dX3_crane_1 : decode cX3_crane 1 = .ok (.iconst 0, 1) := by decide +kernel
theorem dX3_crane_2 : decode cX3_crane 2 = .ok (.putfield 43, 3) := by decide +kernel
theorem dX3_crane_5 : decode cX3_crane 5 = .ok (.aload_n 0, 1) := by decide +kernel
theorem dX3_crane_6 : decode cX3_crane 6 = .ok (.iload_n 1, 1) := by decide +kernel
theorem dX3_crane_7 : decode cX3_crane 7 = .ok (.invokevirtual 86, 3) := by decide +kernel
theorem dX3_crane_10 : decode cX3_crane 10 = .ok (.ifCond .eq 22, 3) := by decide +kernel
theorem dX3_crane_13 : decode cX3_crane 13 = .ok (.iload_n 2, 1) := by decide +kernel
theorem dX3_crane_14 : decode cX3_crane 14 = .ok (.iconst 0, 1) := by decide +kernel
theorem dX3_crane_15 : decode cX3_crane 15 = .ok (.bipush 8, 2) := by decide +kernel
theorem dX3_crane_17 : decode cX3_crane 17 = .ok (.invokestatic 47, 3) := by decide +kernel
theorem dX3_crane_20 : decode cX3_crane 20 = .ok (.ifCond .eq 12, 3) := by decide +kernel
theorem dX3_crane_23 : decode cX3_crane 23 = .ok (.aload_n 0, 1) := by decide +kernel
theorem dX3_crane_24 : decode cX3_crane 24 = .ok (.iload_n 1, 1) := by decide +kernel
theorem dX3_crane_25 : decode cX3_crane 25 = .ok (.iload_n 2, 1) := by decide +kernel
theorem dX3_crane_26 : decode cX3_crane 26 = .ok (.invokevirtual 124, 3) := by decide +kernel
theorem dX3_crane_29 : decode cX3_crane 29 = .ok (.goto 8, 3) := by decide +kernel
theorem dX3_crane_32 : decode cX3_crane 32 = .ok (.aload_n 0, 1) := by decide +kernel
theorem dX3_crane_33 : decode cX3_crane 33 = .ok (.iconst 1, 1) := by decide +kernel
theorem dX3_crane_34 : decode cX3_crane 34 = .ok (.invokevirtual 80, 3) := by decide +kernel
theorem dX3_crane_37 : decode cX3_crane 37 = .ok (.ireturn, 1) := by decide +kernel
set_option maxRecDepth 20000 in
theorem ggX3_counted_X3_highest : GoodIn wsX3_counted wsX3_highest := goodIn_r _ [10, 11, 12, 13, 14, 15, 16, 17, 18, 19, 20, 9, 21, 1, 2, 22, 23, 24, 25, 26, 27, 28, 29, 30, 31, 32, 33, 34, 35, 36] (by decide +kernel) (by decide +kernel)
set_option maxRecDepth 20000 in
theorem gX3_counted_X3_highest : GoodIn wsX3_counted (wsV RX3 93 RX3 yX3_highest wsX3_highest) := goodIn_app (goodIn_of _ (by decide +kernel)) ggX3_counted_X3_highest
theorem dX3_counted_0 : decode cX3_counted 0 = .ok (.iconst 0, 1) := by decide +kernel
theorem dX3_counted_1 : decode cX3_counted 1 = .ok (.istore_n 2, 1) := by decide +kernel
theorem dX3_counted_2 : decode cX3_counted 2 = .ok (.iconst 0, 1) := by decide +kernel
theorem dX3_counted_3 : decode cX3_counted 3 = .ok (.istore_n 3, 1) := by decide +kernel
theorem dX3_counted_4 : decode cX3_counted 4 = .ok (.iconst 0, 1) := by decide +kernel
theorem dX3_counted_5 : decode cX3_counted 5 = .ok (.istore 4, 2) := by decide +kernel
theorem dX3_counted_7 : decode cX3_counted 7 = .ok (.iload 4, 2) := by decide +kernel
theorem dX3_counted_9 : decode cX3_counted 9 = .ok (.aload_n 0, 1) := by decide +kernel
theorem dX3_counted_10 : decode cX3_counted 10 = .ok (.getfield 54, 3) := by decide +kernel
theorem dX3_counted_13 : decode cX3_counted 13 = .ok (.if_icmp .ge 46, 3) := by decide +kernel
theorem dX3_counted_16 : decode cX3_counted 16 = .ok (.iload_n 2, 1) := by decide +kernel
theorem dX3_counted_17 : decode cX3_counted 17 = .ok (.aload_n 0, 1) := by decide +kernel
theorem dX3_counted_18 : decode cX3_counted 18 = .ok (.getfield 13, 3) := by decide +kernel
theorem dX3_counted_21 : decode cX3_counted 21 = .ok (.iload 4, 2) := by decide +kernel
theorem dX3_counted_23 : decode cX3_counted 23 = .ok (.iaload, 1) := by decide +kernel
theorem dX3_counted_24 : decode cX3_counted 24 = .ok (.ifCond .lt 7, 3) := by decide +kernel
theorem dX3_counted_27 : decode cX3_counted 27 = .ok (.iconst 1, 1) := by decide +kernel
theorem dX3_counted_28 : decode cX3_counted 28 = .ok (.goto 4, 3) := by decide +kernel
theorem dX3_counted_31 : decode cX3_counted 31 = .ok (.iconst 0, 1) := by decide +kernel
theorem dX3_counted_32 : decode cX3_counted 32 = .ok (.iadd, 1) := by decide +kernel
theorem dX3_counted_33 : decode cX3_counted 33 = .ok (.istore_n 2, 1) := by decide +kernel
theorem dX3_counted_34 : decode cX3_counted 34 = .ok (.iload_n 3, 1) := by decide +kernel
theorem dX3_counted_35 : decode cX3_counted 35 = .ok (.aload_n 0, 1) := by decide +kernel
theorem dX3_counted_36 : decode cX3_counted 36 = .ok (.getfield 13, 3) := by decide +kernel
theorem dX3_counted_39 : decode cX3_counted 39 = .ok (.iload 4, 2) := by decide +kernel
theorem dX3_counted_41 : decode cX3_counted 41 = .ok (.iaload, 1) := by decide +kernel
theorem dX3_counted_42 : decode cX3_counted 42 = .ok (.iconst (-1), 1) := by decide +kernel
theorem dX3_counted_43 : decode cX3_counted 43 = .ok (.if_icmp .ne 7, 3) := by decide +kernel
theorem dX3_counted_46 : decode cX3_counted 46 = .ok (.iconst 1, 1) := by decide +kernel
theorem dX3_counted_47 : decode cX3_counted 47 = .ok (.goto 4, 3) := by decide +kernel
theorem dX3_counted_50 : decode cX3_counted 50 = .ok (.iconst 0, 1) := by decide +kernel
theorem dX3_counted_51 : decode cX3_counted 51 = .ok (.iadd, 1) := by decide +kernel
theorem dX3_counted_52 : decode cX3_counted 52 = .ok (.istore_n 3, 1) := by decide +kernel
theorem dX3_counted_53 : decode cX3_counted 53 = .ok (.iinc 4 1, 3) := by decide +kernel
theorem dX3_counted_56 : decode cX3_counted 56 = .ok (.goto (-49), 3) := by decide +kernel
theorem dX3_counted_59 : decode cX3_counted 59 = .ok (.bipush 7, 2) := by decide +kernel
theorem dX3_counted_61 : decode cX3_counted 61 = .ok (.newarray .int, 2) := by decide +kernel
theorem dX3_counted_63 : decode cX3_counted 63 = .ok (.dup, 1) := by decide +kernel
theorem dX3_counted_64 : decode cX3_counted 64 = .ok (.iconst 0, 1) := by decide +kernel
theorem dX3_counted_65 : decode cX3_counted 65 = .ok (.aload_n 0, 1) := by decide +kernel
theorem dX3_counted_66 : decode cX3_counted 66 = .ok (.getfield 97, 3) := by decide +kernel
theorem dX3_counted_69 : decode cX3_counted 69 = .ok (.iastore, 1) := by decide +kernel
theorem dX3_counted_70 : decode cX3_counted 70 = .ok (.dup, 1) := by decide +kernel
theorem dX3_counted_71 : decode cX3_counted 71 = .ok (.iconst 1, 1) := by decide +kernel
theorem dX3_counted_72 : decode cX3_counted 72 = .ok (.aload_n 0, 1) := by decide +kernel
theorem dX3_counted_73 : decode cX3_counted 73 = .ok (.getfield 54, 3) := by decide +kernel
theorem dX3_counted_76 : decode cX3_counted 76 = .ok (.iastore, 1) := by decide +kernel
theorem dX3_counted_77 : decode cX3_counted 77 = .ok (.dup, 1) := by decide +kernel
theorem dX3_counted_78 : decode cX3_counted 78 = .ok (.iconst 2, 1) := by decide +kernel
theorem dX3_counted_79 : decode cX3_counted 79 = .ok (.iload_n 2, 1) := by decide +kernel
theorem dX3_counted_80 : decode cX3_counted 80 = .ok (.iastore, 1) := by decide +kernel
theorem dX3_counted_81 : decode cX3_counted 81 = .ok (.dup, 1) := by decide +kernel
theorem dX3_counted_82 : decode cX3_counted 82 = .ok (.iconst 3, 1) := by decide +kernel
theorem dX3_counted_83 : decode cX3_counted 83 = .ok (.iload_n 3, 1) := by decide +kernel
theorem dX3_counted_84 : decode cX3_counted 84 = .ok (.iastore, 1) := by decide +kernel
theorem dX3_counted_85 : decode cX3_counted 85 = .ok (.dup, 1) := by decide +kernel
theorem dX3_counted_86 : decode cX3_counted 86 = .ok (.iconst 4, 1) := by decide +kernel
theorem dX3_counted_87 : decode cX3_counted 87 = .ok (.aload_n 0, 1) := by decide +kernel
theorem dX3_counted_88 : decode cX3_counted 88 = .ok (.getfield 54, 3) := by decide +kernel
theorem dX3_counted_91 : decode cX3_counted 91 = .ok (.iload_n 2, 1) := by decide +kernel
theorem dX3_counted_92 : decode cX3_counted 92 = .ok (.isub, 1) := by decide +kernel
theorem dX3_counted_93 : decode cX3_counted 93 = .ok (.iload_n 3, 1) := by decide +kernel
theorem dX3_counted_94 : decode cX3_counted 94 = .ok (.isub, 1) := by decide +kernel
theorem dX3_counted_95 : decode cX3_counted 95 = .ok (.iastore, 1) := by decide +kernel
theorem dX3_counted_96 : decode cX3_counted 96 = .ok (.dup, 1) := by decide +kernel
theorem dX3_counted_97 : decode cX3_counted 97 = .ok (.iconst 5, 1) := by decide +kernel
theorem dX3_counted_98 : decode cX3_counted 98 = .ok (.aload_n 0, 1) := by decide +kernel
theorem dX3_counted_99 : decode cX3_counted 99 = .ok (.getfield 51, 3) := by decide +kernel
theorem dX3_counted_102 : decode cX3_counted 102 = .ok (.iastore, 1) := by decide +kernel
theorem dX3_counted_103 : decode cX3_counted 103 = .ok (.dup, 1) := by decide +kernel
theorem dX3_counted_104 : decode cX3_counted 104 = .ok (.bipush 6, 2) := by decide +kernel
theorem dX3_counted_106 : decode cX3_counted 106 = .ok (.aload_n 0, 1) := by decide +kernel
theorem dX3_counted_107 : decode cX3_counted 107 = .ok (.iconst 0, 1) := by decide +kernel
theorem dX3_counted_108 : decode cX3_counted 108 = .ok (.bipush 15, 2) := by decide +kernel
theorem dX3_counted_110 : decode cX3_counted 110 = .ok (.iconst (-1), 1) := by decide +kernel
theorem dX3_counted_111 : decode cX3_counted 111 = .ok (.invokevirtual 93, 3) := by decide +kernel
theorem dX3_counted_114 : decode cX3_counted 114 = .ok (.iastore, 1) := by decide +kernel
theorem dX3_counted_115 : decode cX3_counted 115 = .ok (.astore 4, 2) := by decide +kernel
theorem dX3_counted_117 : decode cX3_counted 117 = .ok (.aload 4, 2) := by decide +kernel
theorem dX3_counted_119 : decode cX3_counted 119 = .ok (.iload_n 1, 1) := by decide +kernel
theorem dX3_counted_120 : decode cX3_counted 120 = .ok (.iaload, 1) := by decide +kernel
theorem dX3_counted_121 : decode cX3_counted 121 = .ok (.ireturn, 1) := by decide +kernel
set_option maxRecDepth 20000 in
theorem ggX3_count_X3_isIn : GoodIn wsX3_count wsX3_isIn := goodIn_r _ [5] (by decide +kernel) (by decide +kernel)
set_option maxRecDepth 20000 in
theorem gX3_count_X3_isIn : GoodIn wsX3_count (va_wsS RX3 47 yX3_isIn wsX3_isIn) := goodIn_app (goodIn_of _ (by decide +kernel)) ggX3_count_X3_isIn
set_option maxRecDepth 20000 in
theorem ggX3_count_X3_counted : GoodIn wsX3_count wsX3_counted := goodIn_r _ [9, 10, 11, 12, 13, 14, 15, 16, 17, 4, 18, 19, 20, 21, 22, 23, 24, 25, 26, 27, 28, 29, 34, 35, 36, 37, 38, 39, 40, 41, 42, 43, 44, 45, 46, 47, 48] (by decide +kernel) (by decide +kernel)
set_option maxRecDepth 20000 in
theorem gX3_count_X3_counted : GoodIn wsX3_count (wsV RX3 127 RX3 yX3_counted wsX3_counted) := goodIn_app (goodIn_of _ (by decide +kernel)) ggX3_count_X3_counted
set_option maxRecDepth 20000 in
theorem ggX3_count_X3_no : GoodIn wsX3_count wsX3_no := goodIn_r _ [33, 1, 34, 35, 36, 37, 38, 39, 40, 41, 42, 43, 44, 45, 46, 47, 48] (by decide +kernel) (by decide +kernel)
set_option maxRecDepth 20000 in
theorem gX3_count_X3_no : GoodIn wsX3_count (wsV RX3 80 RX3 yX3_no wsX3_no) := goodIn_app (goodIn_of _ (by decide +kernel)) ggX3_count_X3_no
theorem dX3_count_0 : decode cX3_count 0 = .ok (.aload_n 0, 1) := by decide +kernel
theorem dX3_count_1 : decode cX3_count 1 = .ok (.iconst 0, 1) := by decide +kernel
theorem dX3_count_2 : decode cX3_count 2 = .ok (.putfield 43, 3) := by decide +kernel
theorem dX3_count_5 : decode cX3_count 5 = .ok (.iload_n 1, 1) := by decide +kernel
theorem dX3_count_6 : decode cX3_count 6 = .ok (.iconst 0, 1) := by decide +kernel
theorem dX3_count_7 : decode cX3_count 7 = .ok (.bipush 6, 2) := by decide +kernel
theorem dX3_count_9 : decode cX3_count 9 = .ok (.invokestatic 47, 3) := by decide +kernel
theorem dX3_count_12 : decode cX3_count 12 = .ok (.ifCond .eq 11, 3) := by decide +kernel
theorem dX3_count_15 : decode cX3_count 15 = .ok (.aload_n 0, 1) := by decide +kernel
theorem dX3_count_16 : decode cX3_count 16 = .ok (.iload_n 1, 1) := by decide +kernel
theorem dX3_count_17 : decode cX3_count 17 = .ok (.invokevirtual 127, 3) := by decide +kernel
theorem dX3_count_20 : decode cX3_count 20 = .ok (.goto 8, 3) := by decide +kernel
theorem dX3_count_23 : decode cX3_count 23 = .ok (.aload_n 0, 1) := by decide +kernel
theorem dX3_count_24 : decode cX3_count 24 = .ok (.iconst 1, 1) := by decide +kernel
theorem dX3_count_25 : decode cX3_count 25 = .ok (.invokevirtual 80, 3) := by decide +kernel
theorem dX3_count_28 : decode cX3_count 28 = .ok (.ireturn, 1) := by decide +kernel
set_option maxRecDepth 20000 in
theorem ggX3_ticksOf_X3_high : GoodIn wsX3_ticksOf wsX3_high := goodIn_r _ [17, 18, 19, 48, 49, 50, 51, 52, 53, 54, 55, 56, 57, 58, 59, 60, 61, 62] (by decide +kernel) (by decide +kernel)
set_option maxRecDepth 20000 in
theorem gX3_ticksOf_X3_high : GoodIn wsX3_ticksOf (wsV RX3 57 RX3 yX3_high wsX3_high) := goodIn_app (goodIn_of _ (by decide +kernel)) ggX3_ticksOf_X3_high
set_option maxRecDepth 20000 in
theorem ggX3_ticksOf_X3_isInReach : GoodIn wsX3_ticksOf wsX3_isInReach := goodIn_r _ [23, 24, 10, 11, 7, 12, 25, 48, 49, 50, 51, 52, 53, 54, 55, 56, 57, 58, 59, 60, 61, 62] (by decide +kernel) (by decide +kernel)
set_option maxRecDepth 20000 in
theorem gX3_ticksOf_X3_isInReach : GoodIn wsX3_ticksOf (wsV RX3 89 RX3 yX3_isInReach wsX3_isInReach) := goodIn_app (goodIn_of _ (by decide +kernel)) ggX3_ticksOf_X3_isInReach
set_option maxRecDepth 20000 in
theorem ggX3_ticksOf_X3_top : GoodIn wsX3_ticksOf wsX3_top := goodIn_r _ [29, 18, 19, 30, 13, 14, 15, 16, 17, 48, 49, 50, 51, 52, 53, 54, 55, 56, 57, 58, 59, 60, 61, 62] (by decide +kernel) (by decide +kernel)
set_option maxRecDepth 20000 in
theorem gX3_ticksOf_X3_top : GoodIn wsX3_ticksOf (wsV RX3 112 RX3 yX3_top wsX3_top) := goodIn_app (goodIn_of _ (by decide +kernel)) ggX3_ticksOf_X3_top
set_option maxRecDepth 20000 in
theorem ggX3_ticksOf_X3_strength : GoodIn wsX3_ticksOf wsX3_strength := goodIn_r _ [34, 35, 36, 48, 49, 50, 51, 52, 53, 54, 55, 56, 57, 58, 59, 60, 61, 62] (by decide +kernel) (by decide +kernel)
set_option maxRecDepth 20000 in
theorem gX3_ticksOf_X3_strength : GoodIn wsX3_ticksOf (wsV RX3 100 RX3 yX3_strength wsX3_strength) := goodIn_app (goodIn_of _ (by decide +kernel)) ggX3_ticksOf_X3_strength
set_option maxRecDepth 20000 in
theorem ggX3_ticksOf_X3_highest : GoodIn wsX3_ticksOf wsX3_highest := goodIn_r _ [40, 41, 42, 7, 43, 5, 6, 8, 13, 14, 15, 16, 17, 18, 19, 48, 49, 50, 51, 52, 53, 54, 55, 56, 57, 58, 59, 60, 61, 62] (by decide +kernel) (by decide +kernel)
set_option maxRecDepth 20000 in
theorem gX3_ticksOf_X3_highest : GoodIn wsX3_ticksOf (wsV RX3 93 RX3 yX3_highest wsX3_highest) := goodIn_app (goodIn_of _ (by decide +kernel)) ggX3_ticksOf_X3_highest
set_option maxRecDepth 20000 in
theorem ggX3_ticksOf_X3_wound : GoodIn wsX3_ticksOf wsX3_wound := goodIn_r _ [47, 36, 48, 49, 50, 51, 52, 53, 54, 55, 56, 57, 58, 59, 60, 61, 62] (by decide +kernel) (by decide +kernel)
set_option maxRecDepth 20000 in
theorem gX3_ticksOf_X3_wound : GoodIn wsX3_ticksOf (wsV RX3 106 RX3 yX3_wound wsX3_wound) := goodIn_app (goodIn_of _ (by decide +kernel)) ggX3_ticksOf_X3_wound
theorem dX3_ticksOf_0 : decode cX3_ticksOf 0 = .ok (.aload_n 0, 1) := by decide +kernel
theorem dX3_ticksOf_1 : decode cX3_ticksOf 1 = .ok (.iload_n 2, 1) := by decide +kernel
theorem dX3_ticksOf_2 : decode cX3_ticksOf 2 = .ok (.invokevirtual 57, 3) := by decide +kernel
theorem dX3_ticksOf_5 : decode cX3_ticksOf 5 = .ok (.istore 4, 2) := by decide +kernel
theorem dX3_ticksOf_7 : decode cX3_ticksOf 7 = .ok (.aload_n 0, 1) := by decide +kernel
theorem dX3_ticksOf_8 : decode cX3_ticksOf 8 = .ok (.iload_n 3, 1) := by decide +kernel
theorem dX3_ticksOf_9 : decode cX3_ticksOf 9 = .ok (.invokevirtual 57, 3) := by decide +kernel
theorem dX3_ticksOf_12 : decode cX3_ticksOf 12 = .ok (.istore 5, 2) := by decide +kernel
theorem dX3_ticksOf_14 : decode cX3_ticksOf 14 = .ok (.aload_n 0, 1) := by decide +kernel
theorem dX3_ticksOf_15 : decode cX3_ticksOf 15 = .ok (.getfield 40, 3) := by decide +kernel
theorem dX3_ticksOf_18 : decode cX3_ticksOf 18 = .ok (.iload_n 1, 1) := by decide +kernel
theorem dX3_ticksOf_19 : decode cX3_ticksOf 19 = .ok (.iaload, 1) := by decide +kernel
theorem dX3_ticksOf_20 : decode cX3_ticksOf 20 = .ok (.iconst (-1), 1) := by decide +kernel
theorem dX3_ticksOf_21 : decode cX3_ticksOf 21 = .ok (.if_icmp .ne 38, 3) := by decide +kernel
theorem dX3_ticksOf_24 : decode cX3_ticksOf 24 = .ok (.iload_n 2, 1) := by decide +kernel
theorem dX3_ticksOf_25 : decode cX3_ticksOf 25 = .ok (.iload_n 3, 1) := by decide +kernel
theorem dX3_ticksOf_26 : decode cX3_ticksOf 26 = .ok (.if_icmp .eq 33, 3) := by decide +kernel
theorem dX3_ticksOf_29 : decode cX3_ticksOf 29 = .ok (.aload_n 0, 1) := by decide +kernel
theorem dX3_ticksOf_30 : decode cX3_ticksOf 30 = .ok (.iload_n 1, 1) := by decide +kernel
theorem dX3_ticksOf_31 : decode cX3_ticksOf 31 = .ok (.iload_n 2, 1) := by decide +kernel
theorem dX3_ticksOf_32 : decode cX3_ticksOf 32 = .ok (.invokevirtual 89, 3) := by decide +kernel
theorem dX3_ticksOf_35 : decode cX3_ticksOf 35 = .ok (.ifCond .eq 24, 3) := by decide +kernel
theorem dX3_ticksOf_38 : decode cX3_ticksOf 38 = .ok (.aload_n 0, 1) := by decide +kernel
theorem dX3_ticksOf_39 : decode cX3_ticksOf 39 = .ok (.iload_n 1, 1) := by decide +kernel
theorem dX3_ticksOf_40 : decode cX3_ticksOf 40 = .ok (.iload_n 3, 1) := by decide +kernel
theorem dX3_ticksOf_41 : decode cX3_ticksOf 41 = .ok (.invokevirtual 89, 3) := by decide +kernel
theorem dX3_ticksOf_44 : decode cX3_ticksOf 44 = .ok (.ifCond .eq 15, 3) := by decide +kernel
theorem dX3_ticksOf_47 : decode cX3_ticksOf 47 = .ok (.iload 4, 2) := by decide +kernel
theorem dX3_ticksOf_49 : decode cX3_ticksOf 49 = .ok (.ifCond .eq 10, 3) := by decide +kernel
theorem dX3_ticksOf_52 : decode cX3_ticksOf 52 = .ok (.iload 5, 2) := by decide +kernel
theorem dX3_ticksOf_54 : decode cX3_ticksOf 54 = .ok (.bipush 8, 2) := by decide +kernel
theorem dX3_ticksOf_56 : decode cX3_ticksOf 56 = .ok (.if_icmp .ne 5, 3) := by decide +kernel
theorem dX3_ticksOf_59 : decode cX3_ticksOf 59 = .ok (.iconst (-1), 1) := by decide +kernel
theorem dX3_ticksOf_60 : decode cX3_ticksOf 60 = .ok (.ireturn, 1) := by decide +kernel
theorem dX3_ticksOf_61 : decode cX3_ticksOf 61 = .ok (.aload_n 0, 1) := by decide +kernel
theorem dX3_ticksOf_62 : decode cX3_ticksOf 62 = .ok (.getfield 9, 3) := by decide +kernel
theorem dX3_ticksOf_65 : decode cX3_ticksOf 65 = .ok (.aload_n 0, 1) := by decide +kernel
theorem dX3_ticksOf_66 : decode cX3_ticksOf 66 = .ok (.iload_n 2, 1) := by decide +kernel
theorem dX3_ticksOf_67 : decode cX3_ticksOf 67 = .ok (.invokevirtual 112, 3) := by decide +kernel
theorem dX3_ticksOf_70 : decode cX3_ticksOf 70 = .ok (.iaload, 1) := by decide +kernel
theorem dX3_ticksOf_71 : decode cX3_ticksOf 71 = .ok (.istore 6, 2) := by decide +kernel
theorem dX3_ticksOf_73 : decode cX3_ticksOf 73 = .ok (.iload 6, 2) := by decide +kernel
theorem dX3_ticksOf_75 : decode cX3_ticksOf 75 = .ok (.aload_n 0, 1) := by decide +kernel
theorem dX3_ticksOf_76 : decode cX3_ticksOf 76 = .ok (.iload_n 1, 1) := by decide +kernel
theorem dX3_ticksOf_77 : decode cX3_ticksOf 77 = .ok (.invokevirtual 100, 3) := by decide +kernel
theorem dX3_ticksOf_80 : decode cX3_ticksOf 80 = .ok (.if_icmp .le 5, 3) := by decide +kernel
theorem dX3_ticksOf_83 : decode cX3_ticksOf 83 = .ok (.iconst (-1), 1) := by decide +kernel
theorem dX3_ticksOf_84 : decode cX3_ticksOf 84 = .ok (.ireturn, 1) := by decide +kernel
theorem dX3_ticksOf_85 : decode cX3_ticksOf 85 = .ok (.aload_n 0, 1) := by decide +kernel
theorem dX3_ticksOf_86 : decode cX3_ticksOf 86 = .ok (.getfield 37, 3) := by decide +kernel
theorem dX3_ticksOf_89 : decode cX3_ticksOf 89 = .ok (.iload_n 1, 1) := by decide +kernel
theorem dX3_ticksOf_90 : decode cX3_ticksOf 90 = .ok (.iaload, 1) := by decide +kernel
theorem dX3_ticksOf_91 : decode cX3_ticksOf 91 = .ok (.aload_n 0, 1) := by decide +kernel
theorem dX3_ticksOf_92 : decode cX3_ticksOf 92 = .ok (.aload_n 0, 1) := by decide +kernel
theorem dX3_ticksOf_93 : decode cX3_ticksOf 93 = .ok (.getfield 34, 3) := by decide +kernel
theorem dX3_ticksOf_96 : decode cX3_ticksOf 96 = .ok (.iload_n 1, 1) := by decide +kernel
theorem dX3_ticksOf_97 : decode cX3_ticksOf 97 = .ok (.iaload, 1) := by decide +kernel
theorem dX3_ticksOf_98 : decode cX3_ticksOf 98 = .ok (.iload_n 2, 1) := by decide +kernel
theorem dX3_ticksOf_99 : decode cX3_ticksOf 99 = .ok (.iconst (-1), 1) := by decide +kernel
theorem dX3_ticksOf_100 : decode cX3_ticksOf 100 = .ok (.invokevirtual 93, 3) := by decide +kernel
theorem dX3_ticksOf_103 : decode cX3_ticksOf 103 = .ok (.invokestatic 73, 3) := by decide +kernel
theorem dX3_ticksOf_106 : decode cX3_ticksOf 106 = .ok (.istore 7, 2) := by decide +kernel
theorem dX3_ticksOf_108 : decode cX3_ticksOf 108 = .ok (.iload 4, 2) := by decide +kernel
theorem dX3_ticksOf_110 : decode cX3_ticksOf 110 = .ok (.aload_n 0, 1) := by decide +kernel
theorem dX3_ticksOf_111 : decode cX3_ticksOf 111 = .ok (.iload_n 2, 1) := by decide +kernel
theorem dX3_ticksOf_112 : decode cX3_ticksOf 112 = .ok (.iload_n 3, 1) := by decide +kernel
theorem dX3_ticksOf_113 : decode cX3_ticksOf 113 = .ok (.iload_n 2, 1) := by decide +kernel
theorem dX3_ticksOf_114 : decode cX3_ticksOf 114 = .ok (.invokevirtual 93, 3) := by decide +kernel
theorem dX3_ticksOf_117 : decode cX3_ticksOf 117 = .ok (.iconst 1, 1) := by decide +kernel
theorem dX3_ticksOf_118 : decode cX3_ticksOf 118 = .ok (.iadd, 1) := by decide +kernel
theorem dX3_ticksOf_119 : decode cX3_ticksOf 119 = .ok (.invokestatic 73, 3) := by decide +kernel
theorem dX3_ticksOf_122 : decode cX3_ticksOf 122 = .ok (.istore 8, 2) := by decide +kernel
theorem dX3_ticksOf_124 : decode cX3_ticksOf 124 = .ok (.aload_n 0, 1) := by decide +kernel
theorem dX3_ticksOf_125 : decode cX3_ticksOf 125 = .ok (.iload_n 1, 1) := by decide +kernel
theorem dX3_ticksOf_126 : decode cX3_ticksOf 126 = .ok (.iload 8, 2) := by decide +kernel
theorem dX3_ticksOf_128 : decode cX3_ticksOf 128 = .ok (.iload 5, 2) := by decide +kernel
theorem dX3_ticksOf_130 : decode cX3_ticksOf 130 = .ok (.isub, 1) := by decide +kernel
theorem dX3_ticksOf_131 : decode cX3_ticksOf 131 = .ok (.iconst 1, 1) := by decide +kernel
theorem dX3_ticksOf_132 : decode cX3_ticksOf 132 = .ok (.isub, 1) := by decide +kernel
theorem dX3_ticksOf_133 : decode cX3_ticksOf 133 = .ok (.invokevirtual 106, 3) := by decide +kernel
theorem dX3_ticksOf_136 : decode cX3_ticksOf 136 = .ok (.istore 9, 2) := by decide +kernel
theorem dX3_ticksOf_138 : decode cX3_ticksOf 138 = .ok (.aload_n 0, 1) := by decide +kernel
theorem dX3_ticksOf_139 : decode cX3_ticksOf 139 = .ok (.getfield 31, 3) := by decide +kernel
theorem dX3_ticksOf_142 : decode cX3_ticksOf 142 = .ok (.iload_n 1, 1) := by decide +kernel
theorem dX3_ticksOf_143 : decode cX3_ticksOf 143 = .ok (.iaload, 1) := by decide +kernel
theorem dX3_ticksOf_144 : decode cX3_ticksOf 144 = .ok (.iload 9, 2) := by decide +kernel
theorem dX3_ticksOf_146 : decode cX3_ticksOf 146 = .ok (.iload 6, 2) := by decide +kernel
theorem dX3_ticksOf_148 : decode cX3_ticksOf 148 = .ok (.bipush 20, 2) := by decide +kernel
theorem dX3_ticksOf_150 : decode cX3_ticksOf 150 = .ok (.idiv, 1) := by decide +kernel
theorem dX3_ticksOf_151 : decode cX3_ticksOf 151 = .ok (.iconst 1, 1) := by decide +kernel
theorem dX3_ticksOf_152 : decode cX3_ticksOf 152 = .ok (.iadd, 1) := by decide +kernel
theorem dX3_ticksOf_153 : decode cX3_ticksOf 153 = .ok (.imul, 1) := by decide +kernel
theorem dX3_ticksOf_154 : decode cX3_ticksOf 154 = .ok (.iadd, 1) := by decide +kernel
theorem dX3_ticksOf_155 : decode cX3_ticksOf 155 = .ok (.bipush 99, 2) := by decide +kernel
theorem dX3_ticksOf_157 : decode cX3_ticksOf 157 = .ok (.if_icmp .le 5, 3) := by decide +kernel
theorem dX3_ticksOf_160 : decode cX3_ticksOf 160 = .ok (.iconst (-1), 1) := by decide +kernel
theorem dX3_ticksOf_161 : decode cX3_ticksOf 161 = .ok (.ireturn, 1) := by decide +kernel
theorem dX3_ticksOf_162 : decode cX3_ticksOf 162 = .ok (.aload_n 0, 1) := by decide +kernel
theorem dX3_ticksOf_163 : decode cX3_ticksOf 163 = .ok (.iload_n 1, 1) := by decide +kernel
theorem dX3_ticksOf_164 : decode cX3_ticksOf 164 = .ok (.iload 7, 2) := by decide +kernel
theorem dX3_ticksOf_166 : decode cX3_ticksOf 166 = .ok (.aload_n 0, 1) := by decide +kernel
theorem dX3_ticksOf_167 : decode cX3_ticksOf 167 = .ok (.getfield 37, 3) := by decide +kernel
theorem dX3_ticksOf_170 : decode cX3_ticksOf 170 = .ok (.iload_n 1, 1) := by decide +kernel
theorem dX3_ticksOf_171 : decode cX3_ticksOf 171 = .ok (.iaload, 1) := by decide +kernel
theorem dX3_ticksOf_172 : decode cX3_ticksOf 172 = .ok (.isub, 1) := by decide +kernel
theorem dX3_ticksOf_173 : decode cX3_ticksOf 173 = .ok (.invokevirtual 106, 3) := by decide +kernel
theorem dX3_ticksOf_176 : decode cX3_ticksOf 176 = .ok (.aload_n 0, 1) := by decide +kernel
theorem dX3_ticksOf_177 : decode cX3_ticksOf 177 = .ok (.getfield 34, 3) := by decide +kernel
theorem dX3_ticksOf_180 : decode cX3_ticksOf 180 = .ok (.iload_n 1, 1) := by decide +kernel
theorem dX3_ticksOf_181 : decode cX3_ticksOf 181 = .ok (.iaload, 1) := by decide +kernel
theorem dX3_ticksOf_182 : decode cX3_ticksOf 182 = .ok (.iload_n 2, 1) := by decide +kernel
theorem dX3_ticksOf_183 : decode cX3_ticksOf 183 = .ok (.isub, 1) := by decide +kernel
theorem dX3_ticksOf_184 : decode cX3_ticksOf 184 = .ok (.invokestatic 61, 3) := by decide +kernel
theorem dX3_ticksOf_187 : decode cX3_ticksOf 187 = .ok (.iadd, 1) := by decide +kernel
theorem dX3_ticksOf_188 : decode cX3_ticksOf 188 = .ok (.aload_n 0, 1) := by decide +kernel
theorem dX3_ticksOf_189 : decode cX3_ticksOf 189 = .ok (.iload_n 1, 1) := by decide +kernel
theorem dX3_ticksOf_190 : decode cX3_ticksOf 190 = .ok (.iload 7, 2) := by decide +kernel
theorem dX3_ticksOf_192 : decode cX3_ticksOf 192 = .ok (.iload 4, 2) := by decide +kernel
theorem dX3_ticksOf_194 : decode cX3_ticksOf 194 = .ok (.isub, 1) := by decide +kernel
theorem dX3_ticksOf_195 : decode cX3_ticksOf 195 = .ok (.invokevirtual 106, 3) := by decide +kernel
theorem dX3_ticksOf_198 : decode cX3_ticksOf 198 = .ok (.iadd, 1) := by decide +kernel
theorem dX3_ticksOf_199 : decode cX3_ticksOf 199 = .ok (.aload_n 0, 1) := by decide +kernel
theorem dX3_ticksOf_200 : decode cX3_ticksOf 200 = .ok (.iload_n 1, 1) := by decide +kernel
theorem dX3_ticksOf_201 : decode cX3_ticksOf 201 = .ok (.iload 8, 2) := by decide +kernel
theorem dX3_ticksOf_203 : decode cX3_ticksOf 203 = .ok (.iload 4, 2) := by decide +kernel
theorem dX3_ticksOf_205 : decode cX3_ticksOf 205 = .ok (.isub, 1) := by decide +kernel
theorem dX3_ticksOf_206 : decode cX3_ticksOf 206 = .ok (.invokevirtual 106, 3) := by decide +kernel
theorem dX3_ticksOf_209 : decode cX3_ticksOf 209 = .ok (.iadd, 1) := by decide +kernel
theorem dX3_ticksOf_210 : decode cX3_ticksOf 210 = .ok (.iload_n 2, 1) := by decide +kernel
theorem dX3_ticksOf_211 : decode cX3_ticksOf 211 = .ok (.iload_n 3, 1) := by decide +kernel
theorem dX3_ticksOf_212 : decode cX3_ticksOf 212 = .ok (.isub, 1) := by decide +kernel
theorem dX3_ticksOf_213 : decode cX3_ticksOf 213 = .ok (.invokestatic 61, 3) := by decide +kernel
theorem dX3_ticksOf_216 : decode cX3_ticksOf 216 = .ok (.iadd, 1) := by decide +kernel
theorem dX3_ticksOf_217 : decode cX3_ticksOf 217 = .ok (.iload 9, 2) := by decide +kernel
theorem dX3_ticksOf_219 : decode cX3_ticksOf 219 = .ok (.iadd, 1) := by decide +kernel
theorem dX3_ticksOf_220 : decode cX3_ticksOf 220 = .ok (.ireturn, 1) := by decide +kernel
set_option maxRecDepth 20000 in
theorem ggX3_move_X3_isCrane : GoodIn wsX3_move wsX3_isCrane := goodIn_r _ [6, 7, 8, 9, 5, 10, 68, 69, 70, 71, 72, 73, 74, 75, 76, 77, 78, 79, 80, 81, 82] (by decide +kernel) (by decide +kernel)
set_option maxRecDepth 20000 in
theorem gX3_move_X3_isCrane : GoodIn wsX3_move (wsV RX3 86 RX3 yX3_isCrane wsX3_isCrane) := goodIn_app (goodIn_of _ (by decide +kernel)) ggX3_move_X3_isCrane
set_option maxRecDepth 20000 in
theorem ggX3_move_X3_isPlace : GoodIn wsX3_move wsX3_isPlace := goodIn_r _ [13, 8, 9, 5, 10] (by decide +kernel) (by decide +kernel)
set_option maxRecDepth 20000 in
theorem gX3_move_X3_isPlace : GoodIn wsX3_move (va_wsS RX3 76 yX3_isPlace wsX3_isPlace) := goodIn_app (goodIn_of _ (by decide +kernel)) ggX3_move_X3_isPlace
set_option maxRecDepth 20000 in
theorem ggX3_move_X3_ticksOf : GoodIn wsX3_move wsX3_ticksOf := goodIn_r _ [17, 18, 19, 20, 21, 22, 23, 24, 25, 26, 27, 28, 29, 30, 31, 32, 5, 33, 34, 35, 36, 37, 38, 39, 40, 41, 42, 43, 44, 45, 46, 47, 48, 49, 50, 51, 52, 53, 54, 55, 56, 57, 58, 59, 60, 61, 62, 63, 68, 69, 70, 71, 72, 73, 74, 75, 76, 77, 78, 79, 80, 81, 82] (by decide +kernel) (by decide +kernel)
set_option maxRecDepth 20000 in
theorem gX3_move_X3_ticksOf : GoodIn wsX3_move (wsV RX3 130 RX3 yX3_ticksOf wsX3_ticksOf) := goodIn_app (goodIn_of _ (by decide +kernel)) ggX3_move_X3_ticksOf
set_option maxRecDepth 20000 in
theorem ggX3_move_X3_no : GoodIn wsX3_move wsX3_no := goodIn_r _ [67, 1, 68, 69, 70, 71, 72, 73, 74, 75, 76, 77, 78, 79, 80, 81, 82] (by decide +kernel) (by decide +kernel)
set_option maxRecDepth 20000 in
theorem gX3_move_X3_no : GoodIn wsX3_move (wsV RX3 80 RX3 yX3_no wsX3_no) := goodIn_app (goodIn_of _ (by decide +kernel)) ggX3_move_X3_no
theorem dX3_move_0 : decode cX3_move 0 = .ok (.aload_n 0, 1) := by decide +kernel
theorem dX3_move_1 : decode cX3_move 1 = .ok (.iconst 0, 1) := by decide +kernel
theorem dX3_move_2 : decode cX3_move 2 = .ok (.putfield 43, 3) := by decide +kernel
theorem dX3_move_5 : decode cX3_move 5 = .ok (.aload_n 0, 1) := by decide +kernel
theorem dX3_move_6 : decode cX3_move 6 = .ok (.iload_n 1, 1) := by decide +kernel
theorem dX3_move_7 : decode cX3_move 7 = .ok (.invokevirtual 86, 3) := by decide +kernel
theorem dX3_move_10 : decode cX3_move 10 = .ok (.ifCond .eq 27, 3) := by decide +kernel
theorem dX3_move_13 : decode cX3_move 13 = .ok (.iload_n 2, 1) := by decide +kernel
theorem dX3_move_14 : decode cX3_move 14 = .ok (.invokestatic 76, 3) := by decide +kernel
theorem dX3_move_17 : decode cX3_move 17 = .ok (.ifCond .eq 20, 3) := by decide +kernel
theorem dX3_move_20 : decode cX3_move 20 = .ok (.iload_n 3, 1) := by decide +kernel
theorem dX3_move_21 : decode cX3_move 21 = .ok (.invokestatic 76, 3) := by decide +kernel
theorem dX3_move_24 : decode cX3_move 24 = .ok (.ifCond .eq 13, 3) := by decide +kernel
theorem dX3_move_27 : decode cX3_move 27 = .ok (.aload_n 0, 1) := by decide +kernel
theorem dX3_move_28 : decode cX3_move 28 = .ok (.iload_n 1, 1) := by decide +kernel
theorem dX3_move_29 : decode cX3_move 29 = .ok (.iload_n 2, 1) := by decide +kernel
theorem dX3_move_30 : decode cX3_move 30 = .ok (.iload_n 3, 1) := by decide +kernel
theorem dX3_move_31 : decode cX3_move 31 = .ok (.invokevirtual 130, 3) := by decide +kernel
theorem dX3_move_34 : decode cX3_move 34 = .ok (.goto 8, 3) := by decide +kernel
theorem dX3_move_37 : decode cX3_move 37 = .ok (.aload_n 0, 1) := by decide +kernel
theorem dX3_move_38 : decode cX3_move 38 = .ok (.iconst 1, 1) := by decide +kernel
theorem dX3_move_39 : decode cX3_move 39 = .ok (.invokevirtual 80, 3) := by decide +kernel
theorem dX3_move_42 : decode cX3_move 42 = .ok (.ireturn, 1) := by decide +kernel
set_option maxRecDepth 20000 in
theorem ggX3_best_X3_isPlace : GoodIn wsX3_best wsX3_isPlace := goodIn_r _ [6, 7, 8, 5, 9] (by decide +kernel) (by decide +kernel)
set_option maxRecDepth 20000 in
theorem gX3_best_X3_isPlace : GoodIn wsX3_best (va_wsS RX3 76 yX3_isPlace wsX3_isPlace) := goodIn_app (goodIn_of _ (by decide +kernel)) ggX3_best_X3_isPlace
set_option maxRecDepth 20000 in
theorem ggX3_best_X3_no : GoodIn wsX3_best wsX3_no := goodIn_r _ [13, 1, 64, 65, 66, 67, 68, 69, 70, 71, 72, 73, 74, 75, 76, 77, 78] (by decide +kernel) (by decide +kernel)
set_option maxRecDepth 20000 in
theorem gX3_best_X3_no : GoodIn wsX3_best (wsV RX3 80 RX3 yX3_no wsX3_no) := goodIn_app (goodIn_of _ (by decide +kernel)) ggX3_best_X3_no
set_option maxRecDepth 20000 in
theorem ggX3_best_X3_ticksOf : GoodIn wsX3_best wsX3_ticksOf := goodIn_r _ [17, 18, 19, 20, 21, 22, 23, 24, 25, 26, 27, 28, 29, 30, 31, 32, 5, 33, 34, 35, 36, 37, 38, 39, 40, 41, 42, 43, 44, 45, 46, 47, 48, 49, 50, 51, 52, 53, 54, 55, 56, 57, 58, 59, 60, 61, 62, 63, 64, 65, 66, 67, 68, 69, 70, 71, 72, 73, 74, 75, 76, 77, 78] (by decide +kernel) (by decide +kernel)
set_option maxRecDepth 20000 in
theorem gX3_best_X3_ticksOf : GoodIn wsX3_best (wsV RX3 130 RX3 yX3_ticksOf wsX3_ticksOf) := goodIn_app (goodIn_of _ (by decide +kernel)) ggX3_best_X3_ticksOf
theorem dX3_best_0 : decode cX3_best 0 = .ok (.aload_n 0, 1) := by decide +kernel
theorem dX3_best_1 : decode cX3_best 1 = .ok (.iconst 0, 1) := by decide +kernel
theorem dX3_best_2 : decode cX3_best 2 = .ok (.putfield 43, 3) := by decide +kernel
end
section
theorem dX3_best_5 : decode cX3_best 5 = .ok (.iload_n 1, 1) := by decide +kernel
theorem dX3_best_6 : decode cX3_best 6 = .ok (.invokestatic 76, 3) := by decide +kernel
theorem dX3_best_9 : decode cX3_best 9 = .ok (.ifCond .eq 10, 3) := by decide +kernel
theorem dX3_best_12 : decode cX3_best 12 = .ok (.iload_n 2, 1) := by decide +kernel
theorem dX3_best_13 : decode cX3_best 13 = .ok (.invokestatic 76, 3) := by decide +kernel
theorem dX3_best_16 : decode cX3_best 16 = .ok (.ifCond .ne 9, 3) := by decide +kernel
theorem dX3_best_19 : decode cX3_best 19 = .ok (.aload_n 0, 1) := by decide +kernel
theorem dX3_best_20 : decode cX3_best 20 = .ok (.iconst 1, 1) := by decide +kernel
theorem dX3_best_21 : decode cX3_best 21 = .ok (.invokevirtual 80, 3) := by decide +kernel
theorem dX3_best_24 : decode cX3_best 24 = .ok (.ireturn, 1) := by decide +kernel
theorem dX3_best_25 : decode cX3_best 25 = .ok (.iconst (-1), 1) := by decide +kernel
theorem dX3_best_26 : decode cX3_best 26 = .ok (.istore_n 3, 1) := by decide +kernel
theorem dX3_best_27 : decode cX3_best 27 = .ok (.iconst 0, 1) := by decide +kernel
theorem dX3_best_28 : decode cX3_best 28 = .ok (.istore 4, 2) := by decide +kernel
theorem dX3_best_30 : decode cX3_best 30 = .ok (.iconst 0, 1) := by decide +kernel
theorem dX3_best_31 : decode cX3_best 31 = .ok (.istore 5, 2) := by decide +kernel
theorem dX3_best_33 : decode cX3_best 33 = .ok (.iload 5, 2) := by decide +kernel
theorem dX3_best_35 : decode cX3_best 35 = .ok (.aload_n 0, 1) := by decide +kernel
theorem dX3_best_36 : decode cX3_best 36 = .ok (.getfield 51, 3) := by decide +kernel
theorem dX3_best_39 : decode cX3_best 39 = .ok (.if_icmp .ge 47, 3) := by decide +kernel
theorem dX3_best_42 : decode cX3_best 42 = .ok (.aload_n 0, 1) := by decide +kernel
theorem dX3_best_43 : decode cX3_best 43 = .ok (.iload 5, 2) := by decide +kernel
theorem dX3_best_45 : decode cX3_best 45 = .ok (.iload_n 1, 1) := by decide +kernel
theorem dX3_best_46 : decode cX3_best 46 = .ok (.iload_n 2, 1) := by decide +kernel
theorem dX3_best_47 : decode cX3_best 47 = .ok (.invokevirtual 130, 3) := by decide +kernel
theorem dX3_best_50 : decode cX3_best 50 = .ok (.istore 6, 2) := by decide +kernel
theorem dX3_best_52 : decode cX3_best 52 = .ok (.iload 6, 2) := by decide +kernel
theorem dX3_best_54 : decode cX3_best 54 = .ok (.iconst (-1), 1) := by decide +kernel
theorem dX3_best_55 : decode cX3_best 55 = .ok (.if_icmp .eq 25, 3) := by decide +kernel
theorem dX3_best_58 : decode cX3_best 58 = .ok (.iload_n 3, 1) := by decide +kernel
theorem dX3_best_59 : decode cX3_best 59 = .ok (.iconst (-1), 1) := by decide +kernel
theorem dX3_best_60 : decode cX3_best 60 = .ok (.if_icmp .eq 13, 3) := by decide +kernel
theorem dX3_best_63 : decode cX3_best 63 = .ok (.iload 6, 2) := by decide +kernel
theorem dX3_best_65 : decode cX3_best 65 = .ok (.iload 4, 2) := by decide +kernel
theorem dX3_best_67 : decode cX3_best 67 = .ok (.if_icmp .lt 6, 3) := by decide +kernel
theorem dX3_best_70 : decode cX3_best 70 = .ok (.goto 10, 3) := by decide +kernel
theorem dX3_best_73 : decode cX3_best 73 = .ok (.iload 5, 2) := by decide +kernel
theorem dX3_best_75 : decode cX3_best 75 = .ok (.istore_n 3, 1) := by decide +kernel
theorem dX3_best_76 : decode cX3_best 76 = .ok (.iload 6, 2) := by decide +kernel
theorem dX3_best_78 : decode cX3_best 78 = .ok (.istore 4, 2) := by decide +kernel
theorem dX3_best_80 : decode cX3_best 80 = .ok (.iinc 5 1, 3) := by decide +kernel
theorem dX3_best_83 : decode cX3_best 83 = .ok (.goto (-50), 3) := by decide +kernel
theorem dX3_best_86 : decode cX3_best 86 = .ok (.iload_n 3, 1) := by decide +kernel
theorem dX3_best_87 : decode cX3_best 87 = .ok (.ireturn, 1) := by decide +kernel
set_option maxRecDepth 20000 in
theorem ggX3_lasts_X3_isCrane : GoodIn wsX3_lasts wsX3_isCrane := goodIn_r _ [7, 8, 9, 10, 6, 11, 16, 17, 18, 19, 20, 21, 22, 23, 24, 25, 26, 27, 28, 29, 30] (by decide +kernel) (by decide +kernel)
set_option maxRecDepth 20000 in
theorem gX3_lasts_X3_isCrane : GoodIn wsX3_lasts (wsV RX3 86 RX3 yX3_isCrane wsX3_isCrane) := goodIn_app (goodIn_of _ (by decide +kernel)) ggX3_lasts_X3_isCrane
set_option maxRecDepth 20000 in
theorem ggX3_lasts_X3_no : GoodIn wsX3_lasts wsX3_no := goodIn_r _ [15, 1, 16, 17, 18, 19, 20, 21, 22, 23, 24, 25, 26, 27, 28, 29, 30] (by decide +kernel) (by decide +kernel)
set_option maxRecDepth 20000 in
theorem gX3_lasts_X3_no : GoodIn wsX3_lasts (wsV RX3 80 RX3 yX3_no wsX3_no) := goodIn_app (goodIn_of _ (by decide +kernel)) ggX3_lasts_X3_no
set_option maxRecDepth 20000 in
theorem ggX3_lasts_X3_isIn : GoodIn wsX3_lasts wsX3_isIn := goodIn_r _ [11] (by decide +kernel) (by decide +kernel)
set_option maxRecDepth 20000 in
theorem gX3_lasts_X3_isIn : GoodIn wsX3_lasts (va_wsS RX3 47 yX3_isIn wsX3_isIn) := goodIn_app (goodIn_of _ (by decide +kernel)) ggX3_lasts_X3_isIn
theorem dX3_lasts_0 : decode cX3_lasts 0 = .ok (.aload_n 0, 1) := by decide +kernel
theorem dX3_lasts_1 : decode cX3_lasts 1 = .ok (.iconst 0, 1) := by decide +kernel
theorem dX3_lasts_2 : decode cX3_lasts 2 = .ok (.putfield 43, 3) := by decide +kernel
theorem dX3_lasts_5 : decode cX3_lasts 5 = .ok (.aload_n 0, 1) := by decide +kernel
theorem dX3_lasts_6 : decode cX3_lasts 6 = .ok (.iload_n 1, 1) := by decide +kernel
theorem dX3_lasts_7 : decode cX3_lasts 7 = .ok (.invokevirtual 86, 3) := by decide +kernel
theorem dX3_lasts_10 : decode cX3_lasts 10 = .ok (.ifCond .ne 9, 3) := by decide +kernel
theorem dX3_lasts_13 : decode cX3_lasts 13 = .ok (.aload_n 0, 1) := by decide +kernel
theorem dX3_lasts_14 : decode cX3_lasts 14 = .ok (.iconst 1, 1) := by decide +kernel
theorem dX3_lasts_15 : decode cX3_lasts 15 = .ok (.invokevirtual 80, 3) := by decide +kernel
theorem dX3_lasts_18 : decode cX3_lasts 18 = .ok (.ireturn, 1) := by decide +kernel
theorem dX3_lasts_19 : decode cX3_lasts 19 = .ok (.iload_n 2, 1) := by decide +kernel
theorem dX3_lasts_20 : decode cX3_lasts 20 = .ok (.iconst 1, 1) := by decide +kernel
theorem dX3_lasts_21 : decode cX3_lasts 21 = .ok (.bipush 60, 2) := by decide +kernel
theorem dX3_lasts_23 : decode cX3_lasts 23 = .ok (.invokestatic 47, 3) := by decide +kernel
theorem dX3_lasts_26 : decode cX3_lasts 26 = .ok (.ifCond .eq 22, 3) := by decide +kernel
theorem dX3_lasts_29 : decode cX3_lasts 29 = .ok (.bipush 99, 2) := by decide +kernel
theorem dX3_lasts_31 : decode cX3_lasts 31 = .ok (.aload_n 0, 1) := by decide +kernel
theorem dX3_lasts_32 : decode cX3_lasts 32 = .ok (.getfield 31, 3) := by decide +kernel
theorem dX3_lasts_35 : decode cX3_lasts 35 = .ok (.iload_n 1, 1) := by decide +kernel
theorem dX3_lasts_36 : decode cX3_lasts 36 = .ok (.iaload, 1) := by decide +kernel
theorem dX3_lasts_37 : decode cX3_lasts 37 = .ok (.isub, 1) := by decide +kernel
theorem dX3_lasts_38 : decode cX3_lasts 38 = .ok (.iload_n 2, 1) := by decide +kernel
theorem dX3_lasts_39 : decode cX3_lasts 39 = .ok (.bipush 20, 2) := by decide +kernel
theorem dX3_lasts_41 : decode cX3_lasts 41 = .ok (.idiv, 1) := by decide +kernel
theorem dX3_lasts_42 : decode cX3_lasts 42 = .ok (.iconst 1, 1) := by decide +kernel
theorem dX3_lasts_43 : decode cX3_lasts 43 = .ok (.iadd, 1) := by decide +kernel
theorem dX3_lasts_44 : decode cX3_lasts 44 = .ok (.idiv, 1) := by decide +kernel
theorem dX3_lasts_45 : decode cX3_lasts 45 = .ok (.goto 8, 3) := by decide +kernel
theorem dX3_lasts_48 : decode cX3_lasts 48 = .ok (.aload_n 0, 1) := by decide +kernel
theorem dX3_lasts_49 : decode cX3_lasts 49 = .ok (.iconst 2, 1) := by decide +kernel
theorem dX3_lasts_50 : decode cX3_lasts 50 = .ok (.invokevirtual 80, 3) := by decide +kernel
theorem dX3_lasts_53 : decode cX3_lasts 53 = .ok (.ireturn, 1) := by decide +kernel
set_option maxRecDepth 20000 in
theorem ggX3_within_X3_isCrane : GoodIn wsX3_within wsX3_isCrane := goodIn_r _ [9, 10, 11, 12, 8, 13, 34, 35, 36, 37, 38, 39, 40, 41, 42, 43, 44, 45, 46, 47, 48] (by decide +kernel) (by decide +kernel)
set_option maxRecDepth 20000 in
theorem gX3_within_X3_isCrane : GoodIn wsX3_within (wsV RX3 86 RX3 yX3_isCrane wsX3_isCrane) := goodIn_app (goodIn_of _ (by decide +kernel)) ggX3_within_X3_isCrane
set_option maxRecDepth 20000 in
theorem ggX3_within_X3_no : GoodIn wsX3_within wsX3_no := goodIn_r _ [17, 1, 34, 35, 36, 37, 38, 39, 40, 41, 42, 43, 44, 45, 46, 47, 48] (by decide +kernel) (by decide +kernel)
set_option maxRecDepth 20000 in
theorem gX3_within_X3_no : GoodIn wsX3_within (wsV RX3 80 RX3 yX3_no wsX3_no) := goodIn_app (goodIn_of _ (by decide +kernel)) ggX3_within_X3_no
set_option maxRecDepth 20000 in
theorem ggX3_within_X3_isInReach : GoodIn wsX3_within wsX3_isInReach := goodIn_r _ [21, 22, 23, 24, 25, 26, 27, 34, 35, 36, 37, 38, 39, 40, 41, 42, 43, 44, 45, 46, 47, 48] (by decide +kernel) (by decide +kernel)
set_option maxRecDepth 20000 in
theorem gX3_within_X3_isInReach : GoodIn wsX3_within (wsV RX3 89 RX3 yX3_isInReach wsX3_isInReach) := goodIn_app (goodIn_of _ (by decide +kernel)) ggX3_within_X3_isInReach
set_option maxRecDepth 20000 in
theorem ggX3_within_X3_strength : GoodIn wsX3_within wsX3_strength := goodIn_r _ [31, 32, 33, 34, 35, 36, 37, 38, 39, 40, 41, 42, 43, 44, 45, 46, 47, 48] (by decide +kernel) (by decide +kernel)
set_option maxRecDepth 20000 in
theorem gX3_within_X3_strength : GoodIn wsX3_within (wsV RX3 100 RX3 yX3_strength wsX3_strength) := goodIn_app (goodIn_of _ (by decide +kernel)) ggX3_within_X3_strength
theorem dX3_within_0 : decode cX3_within 0 = .ok (.aload_n 0, 1) := by decide +kernel
theorem dX3_within_1 : decode cX3_within 1 = .ok (.iconst 0, 1) := by decide +kernel
theorem dX3_within_2 : decode cX3_within 2 = .ok (.putfield 43, 3) := by decide +kernel
theorem dX3_within_5 : decode cX3_within 5 = .ok (.aload_n 0, 1) := by decide +kernel
theorem dX3_within_6 : decode cX3_within 6 = .ok (.iload_n 1, 1) := by decide +kernel
theorem dX3_within_7 : decode cX3_within 7 = .ok (.invokevirtual 86, 3) := by decide +kernel
theorem dX3_within_10 : decode cX3_within 10 = .ok (.ifCond .ne 9, 3) := by decide +kernel
theorem dX3_within_13 : decode cX3_within 13 = .ok (.aload_n 0, 1) := by decide +kernel
theorem dX3_within_14 : decode cX3_within 14 = .ok (.iconst 1, 1) := by decide +kernel
theorem dX3_within_15 : decode cX3_within 15 = .ok (.invokevirtual 80, 3) := by decide +kernel
theorem dX3_within_18 : decode cX3_within 18 = .ok (.ireturn, 1) := by decide +kernel
theorem dX3_within_19 : decode cX3_within 19 = .ok (.iconst 0, 1) := by decide +kernel
theorem dX3_within_20 : decode cX3_within 20 = .ok (.istore_n 2, 1) := by decide +kernel
theorem dX3_within_21 : decode cX3_within 21 = .ok (.iconst 0, 1) := by decide +kernel
theorem dX3_within_22 : decode cX3_within 22 = .ok (.istore_n 3, 1) := by decide +kernel
theorem dX3_within_23 : decode cX3_within 23 = .ok (.iload_n 3, 1) := by decide +kernel
theorem dX3_within_24 : decode cX3_within 24 = .ok (.aload_n 0, 1) := by decide +kernel
theorem dX3_within_25 : decode cX3_within 25 = .ok (.getfield 54, 3) := by decide +kernel
theorem dX3_within_28 : decode cX3_within 28 = .ok (.if_icmp .ge 54, 3) := by decide +kernel
theorem dX3_within_31 : decode cX3_within 31 = .ok (.iload_n 2, 1) := by decide +kernel
theorem dX3_within_32 : decode cX3_within 32 = .ok (.aload_n 0, 1) := by decide +kernel
theorem dX3_within_33 : decode cX3_within 33 = .ok (.getfield 13, 3) := by decide +kernel
theorem dX3_within_36 : decode cX3_within 36 = .ok (.iload_n 3, 1) := by decide +kernel
theorem dX3_within_37 : decode cX3_within 37 = .ok (.iaload, 1) := by decide +kernel
theorem dX3_within_38 : decode cX3_within 38 = .ok (.ifCond .lt 35, 3) := by decide +kernel
theorem dX3_within_41 : decode cX3_within 41 = .ok (.aload_n 0, 1) := by decide +kernel
theorem dX3_within_42 : decode cX3_within 42 = .ok (.iload_n 1, 1) := by decide +kernel
theorem dX3_within_43 : decode cX3_within 43 = .ok (.aload_n 0, 1) := by decide +kernel
theorem dX3_within_44 : decode cX3_within 44 = .ok (.getfield 13, 3) := by decide +kernel
theorem dX3_within_47 : decode cX3_within 47 = .ok (.iload_n 3, 1) := by decide +kernel
theorem dX3_within_48 : decode cX3_within 48 = .ok (.iaload, 1) := by decide +kernel
theorem dX3_within_49 : decode cX3_within 49 = .ok (.invokevirtual 89, 3) := by decide +kernel
theorem dX3_within_52 : decode cX3_within 52 = .ok (.ifCond .eq 21, 3) := by decide +kernel
theorem dX3_within_55 : decode cX3_within 55 = .ok (.aload_n 0, 1) := by decide +kernel
theorem dX3_within_56 : decode cX3_within 56 = .ok (.getfield 9, 3) := by decide +kernel
theorem dX3_within_59 : decode cX3_within 59 = .ok (.iload_n 3, 1) := by decide +kernel
theorem dX3_within_60 : decode cX3_within 60 = .ok (.iaload, 1) := by decide +kernel
theorem dX3_within_61 : decode cX3_within 61 = .ok (.aload_n 0, 1) := by decide +kernel
theorem dX3_within_62 : decode cX3_within 62 = .ok (.iload_n 1, 1) := by decide +kernel
theorem dX3_within_63 : decode cX3_within 63 = .ok (.invokevirtual 100, 3) := by decide +kernel
theorem dX3_within_66 : decode cX3_within 66 = .ok (.if_icmp .gt 7, 3) := by decide +kernel
theorem dX3_within_69 : decode cX3_within 69 = .ok (.iconst 1, 1) := by decide +kernel
theorem dX3_within_70 : decode cX3_within 70 = .ok (.goto 4, 3) := by decide +kernel
theorem dX3_within_73 : decode cX3_within 73 = .ok (.iconst 0, 1) := by decide +kernel
theorem dX3_within_74 : decode cX3_within 74 = .ok (.iadd, 1) := by decide +kernel
theorem dX3_within_75 : decode cX3_within 75 = .ok (.istore_n 2, 1) := by decide +kernel
theorem dX3_within_76 : decode cX3_within 76 = .ok (.iinc 3 1, 3) := by decide +kernel
theorem dX3_within_79 : decode cX3_within 79 = .ok (.goto (-56), 3) := by decide +kernel
theorem dX3_within_82 : decode cX3_within 82 = .ok (.iload_n 2, 1) := by decide +kernel
theorem dX3_within_83 : decode cX3_within 83 = .ok (.ireturn, 1) := by decide +kernel
theorem dX3_mean_0 : decode cX3_mean 0 = .ok (.aload_n 0, 1) := by decide +kernel
theorem dX3_mean_1 : decode cX3_mean 1 = .ok (.iconst 0, 1) := by decide +kernel
theorem dX3_mean_2 : decode cX3_mean 2 = .ok (.putfield 43, 3) := by decide +kernel
theorem dX3_mean_5 : decode cX3_mean 5 = .ok (.iconst 0, 1) := by decide +kernel
theorem dX3_mean_6 : decode cX3_mean 6 = .ok (.istore_n 1, 1) := by decide +kernel
theorem dX3_mean_7 : decode cX3_mean 7 = .ok (.iconst 0, 1) := by decide +kernel
theorem dX3_mean_8 : decode cX3_mean 8 = .ok (.istore_n 2, 1) := by decide +kernel
theorem dX3_mean_9 : decode cX3_mean 9 = .ok (.iconst 0, 1) := by decide +kernel
theorem dX3_mean_10 : decode cX3_mean 10 = .ok (.istore_n 3, 1) := by decide +kernel
theorem dX3_mean_11 : decode cX3_mean 11 = .ok (.iload_n 3, 1) := by decide +kernel
theorem dX3_mean_12 : decode cX3_mean 12 = .ok (.aload_n 0, 1) := by decide +kernel
theorem dX3_mean_13 : decode cX3_mean 13 = .ok (.getfield 54, 3) := by decide +kernel
theorem dX3_mean_16 : decode cX3_mean 16 = .ok (.if_icmp .ge 35, 3) := by decide +kernel
theorem dX3_mean_19 : decode cX3_mean 19 = .ok (.aload_n 0, 1) := by decide +kernel
theorem dX3_mean_20 : decode cX3_mean 20 = .ok (.getfield 13, 3) := by decide +kernel
theorem dX3_mean_23 : decode cX3_mean 23 = .ok (.iload_n 3, 1) := by decide +kernel
theorem dX3_mean_24 : decode cX3_mean 24 = .ok (.iaload, 1) := by decide +kernel
theorem dX3_mean_25 : decode cX3_mean 25 = .ok (.bipush (-2), 2) := by decide +kernel
theorem dX3_mean_27 : decode cX3_mean 27 = .ok (.if_icmp .ne 6, 3) := by decide +kernel
theorem dX3_mean_30 : decode cX3_mean 30 = .ok (.goto 15, 3) := by decide +kernel
theorem dX3_mean_33 : decode cX3_mean 33 = .ok (.iload_n 1, 1) := by decide +kernel
theorem dX3_mean_34 : decode cX3_mean 34 = .ok (.aload_n 0, 1) := by decide +kernel
theorem dX3_mean_35 : decode cX3_mean 35 = .ok (.getfield 9, 3) := by decide +kernel
theorem dX3_mean_38 : decode cX3_mean 38 = .ok (.iload_n 3, 1) := by decide +kernel
theorem dX3_mean_39 : decode cX3_mean 39 = .ok (.iaload, 1) := by decide +kernel
theorem dX3_mean_40 : decode cX3_mean 40 = .ok (.iadd, 1) := by decide +kernel
theorem dX3_mean_41 : decode cX3_mean 41 = .ok (.istore_n 1, 1) := by decide +kernel
theorem dX3_mean_42 : decode cX3_mean 42 = .ok (.iinc 2 1, 3) := by decide +kernel
theorem dX3_mean_45 : decode cX3_mean 45 = .ok (.iinc 3 1, 3) := by decide +kernel
theorem dX3_mean_48 : decode cX3_mean 48 = .ok (.goto (-37), 3) := by decide +kernel
theorem dX3_mean_51 : decode cX3_mean 51 = .ok (.iload_n 2, 1) := by decide +kernel
theorem dX3_mean_52 : decode cX3_mean 52 = .ok (.ifCond .ne 7, 3) := by decide +kernel
theorem dX3_mean_55 : decode cX3_mean 55 = .ok (.dconst 0, 1) := by decide +kernel
theorem dX3_mean_56 : decode cX3_mean 56 = .ok (.goto 8, 3) := by decide +kernel
theorem dX3_mean_59 : decode cX3_mean 59 = .ok (.iload_n 1, 1) := by decide +kernel
theorem dX3_mean_60 : decode cX3_mean 60 = .ok (.i2d, 1) := by decide +kernel
theorem dX3_mean_61 : decode cX3_mean 61 = .ok (.iload_n 2, 1) := by decide +kernel
theorem dX3_mean_62 : decode cX3_mean 62 = .ok (.i2d, 1) := by decide +kernel
theorem dX3_mean_63 : decode cX3_mean 63 = .ok (.ddiv, 1) := by decide +kernel
theorem dX3_mean_64 : decode cX3_mean 64 = .ok (.dreturn, 1) := by decide +kernel
set_option maxRecDepth 20000 in
theorem ggX3_digest_X3_counted : GoodIn wsX3_digest wsX3_counted := goodIn_r _ [10, 4, 11, 12, 13, 5, 14, 15, 16, 9, 17, 18, 19, 20, 21, 22, 23, 24, 25, 26, 27, 28, 63, 64, 65, 66, 67, 68, 69, 70, 71, 72, 73, 74, 75, 76, 77] (by decide +kernel) (by decide +kernel)
set_option maxRecDepth 20000 in
theorem gX3_digest_X3_counted : GoodIn wsX3_digest (wsV RX3 127 RX3 yX3_counted wsX3_counted) := goodIn_app (goodIn_of _ (by decide +kernel)) ggX3_digest_X3_counted
set_option maxRecDepth 20000 in
theorem ggX3_digest_X3_placeTold : GoodIn wsX3_digest wsX3_placeTold := goodIn_r _ [32, 4, 11, 33, 5, 34, 12, 25, 26, 27, 9, 28, 35, 36, 37, 38, 39, 63, 64, 65, 66, 67, 68, 69, 70, 71, 72, 73, 74, 75, 76, 77] (by decide +kernel) (by decide +kernel)
set_option maxRecDepth 20000 in
theorem gX3_digest_X3_placeTold : GoodIn wsX3_digest (wsV RX3 115 RX3 yX3_placeTold wsX3_placeTold) := goodIn_app (goodIn_of _ (by decide +kernel)) ggX3_digest_X3_placeTold
set_option maxRecDepth 20000 in
theorem ggX3_digest_X3_barrelTold : GoodIn wsX3_digest wsX3_barrelTold := goodIn_r _ [43, 11, 12, 33, 39, 25, 26, 27, 9, 28, 4, 44, 45, 46, 47, 5, 48, 63, 64, 65, 66, 67, 68, 69, 70, 71, 72, 73, 74, 75, 76, 77] (by decide +kernel) (by decide +kernel)
set_option maxRecDepth 20000 in
theorem gX3_digest_X3_barrelTold : GoodIn wsX3_digest (wsV RX3 121 RX3 yX3_barrelTold wsX3_barrelTold) := goodIn_app (goodIn_of _ (by decide +kernel)) ggX3_digest_X3_barrelTold
set_option maxRecDepth 20000 in
theorem ggX3_digest_X3_craneTold : GoodIn wsX3_digest wsX3_craneTold := goodIn_r _ [52, 12, 53, 54, 55, 56, 57, 34, 58, 48, 59, 60, 61, 9, 62, 63, 64, 65, 66, 67, 68, 69, 70, 71, 72, 73, 74, 75, 76, 77] (by decide +kernel) (by decide +kernel)
set_option maxRecDepth 20000 in
theorem gX3_digest_X3_craneTold : GoodIn wsX3_digest (wsV RX3 124 RX3 yX3_craneTold wsX3_craneTold) := goodIn_app (goodIn_of _ (by decide +kernel)) ggX3_digest_X3_craneTold
theorem dX3_digest_0 : decode cX3_digest 0 = .ok (.aload_n 0, 1) := by decide +kernel
theorem dX3_digest_1 : decode cX3_digest 1 = .ok (.iconst 0, 1) := by decide +kernel
theorem dX3_digest_2 : decode cX3_digest 2 = .ok (.putfield 43, 3) := by decide +kernel
theorem dX3_digest_5 : decode cX3_digest 5 = .ok (.ldc2_w 133, 3) := by decide +kernel
theorem dX3_digest_8 : decode cX3_digest 8 = .ok (.lstore_n 1, 1) := by decide +kernel
theorem dX3_digest_9 : decode cX3_digest 9 = .ok (.iconst 0, 1) := by decide +kernel
theorem dX3_digest_10 : decode cX3_digest 10 = .ok (.istore_n 3, 1) := by decide +kernel
theorem dX3_digest_11 : decode cX3_digest 11 = .ok (.iload_n 3, 1) := by decide +kernel
theorem dX3_digest_12 : decode cX3_digest 12 = .ok (.bipush 7, 2) := by decide +kernel
theorem dX3_digest_14 : decode cX3_digest 14 = .ok (.if_icmp .ge 22, 3) := by decide +kernel
theorem dX3_digest_17 : decode cX3_digest 17 = .ok (.lload_n 1, 1) := by decide +kernel
theorem dX3_digest_18 : decode cX3_digest 18 = .ok (.ldc2_w 135, 3) := by decide +kernel
theorem dX3_digest_21 : decode cX3_digest 21 = .ok (.lmul, 1) := by decide +kernel
theorem dX3_digest_22 : decode cX3_digest 22 = .ok (.aload_n 0, 1) := by decide +kernel
theorem dX3_digest_23 : decode cX3_digest 23 = .ok (.iload_n 3, 1) := by decide +kernel
theorem dX3_digest_24 : decode cX3_digest 24 = .ok (.invokevirtual 127, 3) := by decide +kernel
theorem dX3_digest_27 : decode cX3_digest 27 = .ok (.i2l, 1) := by decide +kernel
theorem dX3_digest_28 : decode cX3_digest 28 = .ok (.ladd, 1) := by decide +kernel
theorem dX3_digest_29 : decode cX3_digest 29 = .ok (.lstore_n 1, 1) := by decide +kernel
theorem dX3_digest_30 : decode cX3_digest 30 = .ok (.iinc 3 1, 3) := by decide +kernel
theorem dX3_digest_33 : decode cX3_digest 33 = .ok (.goto (-22), 3) := by decide +kernel
theorem dX3_digest_36 : decode cX3_digest 36 = .ok (.iconst 0, 1) := by decide +kernel
theorem dX3_digest_37 : decode cX3_digest 37 = .ok (.istore_n 3, 1) := by decide +kernel
theorem dX3_digest_38 : decode cX3_digest 38 = .ok (.iload_n 3, 1) := by decide +kernel
theorem dX3_digest_39 : decode cX3_digest 39 = .ok (.bipush 16, 2) := by decide +kernel
theorem dX3_digest_41 : decode cX3_digest 41 = .ok (.if_icmp .ge 39, 3) := by decide +kernel
theorem dX3_digest_44 : decode cX3_digest 44 = .ok (.iconst 0, 1) := by decide +kernel
theorem dX3_digest_45 : decode cX3_digest 45 = .ok (.istore 4, 2) := by decide +kernel
theorem dX3_digest_47 : decode cX3_digest 47 = .ok (.iload 4, 2) := by decide +kernel
theorem dX3_digest_49 : decode cX3_digest 49 = .ok (.iconst 4, 1) := by decide +kernel
theorem dX3_digest_50 : decode cX3_digest 50 = .ok (.if_icmp .ge 24, 3) := by decide +kernel
theorem dX3_digest_53 : decode cX3_digest 53 = .ok (.lload_n 1, 1) := by decide +kernel
theorem dX3_digest_54 : decode cX3_digest 54 = .ok (.ldc2_w 135, 3) := by decide +kernel
theorem dX3_digest_57 : decode cX3_digest 57 = .ok (.lmul, 1) := by decide +kernel
theorem dX3_digest_58 : decode cX3_digest 58 = .ok (.aload_n 0, 1) := by decide +kernel
theorem dX3_digest_59 : decode cX3_digest 59 = .ok (.iload_n 3, 1) := by decide +kernel
theorem dX3_digest_60 : decode cX3_digest 60 = .ok (.iload 4, 2) := by decide +kernel
theorem dX3_digest_62 : decode cX3_digest 62 = .ok (.invokevirtual 115, 3) := by decide +kernel
theorem dX3_digest_65 : decode cX3_digest 65 = .ok (.i2l, 1) := by decide +kernel
theorem dX3_digest_66 : decode cX3_digest 66 = .ok (.ladd, 1) := by decide +kernel
theorem dX3_digest_67 : decode cX3_digest 67 = .ok (.lstore_n 1, 1) := by decide +kernel
theorem dX3_digest_68 : decode cX3_digest 68 = .ok (.iinc 4 1, 3) := by decide +kernel
theorem dX3_digest_71 : decode cX3_digest 71 = .ok (.goto (-24), 3) := by decide +kernel
theorem dX3_digest_74 : decode cX3_digest 74 = .ok (.iinc 3 1, 3) := by decide +kernel
theorem dX3_digest_77 : decode cX3_digest 77 = .ok (.goto (-39), 3) := by decide +kernel
theorem dX3_digest_80 : decode cX3_digest 80 = .ok (.iconst 0, 1) := by decide +kernel
theorem dX3_digest_81 : decode cX3_digest 81 = .ok (.istore_n 3, 1) := by decide +kernel
theorem dX3_digest_82 : decode cX3_digest 82 = .ok (.iload_n 3, 1) := by decide +kernel
theorem dX3_digest_83 : decode cX3_digest 83 = .ok (.aload_n 0, 1) := by decide +kernel
theorem dX3_digest_84 : decode cX3_digest 84 = .ok (.getfield 54, 3) := by decide +kernel
theorem dX3_digest_87 : decode cX3_digest 87 = .ok (.if_icmp .ge 39, 3) := by decide +kernel
theorem dX3_digest_90 : decode cX3_digest 90 = .ok (.iconst 0, 1) := by decide +kernel
theorem dX3_digest_91 : decode cX3_digest 91 = .ok (.istore 4, 2) := by decide +kernel
theorem dX3_digest_93 : decode cX3_digest 93 = .ok (.iload 4, 2) := by decide +kernel
theorem dX3_digest_95 : decode cX3_digest 95 = .ok (.iconst 5, 1) := by decide +kernel
theorem dX3_digest_96 : decode cX3_digest 96 = .ok (.if_icmp .ge 24, 3) := by decide +kernel
theorem dX3_digest_99 : decode cX3_digest 99 = .ok (.lload_n 1, 1) := by decide +kernel
theorem dX3_digest_100 : decode cX3_digest 100 = .ok (.ldc2_w 135, 3) := by decide +kernel
theorem dX3_digest_103 : decode cX3_digest 103 = .ok (.lmul, 1) := by decide +kernel
theorem dX3_digest_104 : decode cX3_digest 104 = .ok (.aload_n 0, 1) := by decide +kernel
theorem dX3_digest_105 : decode cX3_digest 105 = .ok (.iload_n 3, 1) := by decide +kernel
theorem dX3_digest_106 : decode cX3_digest 106 = .ok (.iload 4, 2) := by decide +kernel
theorem dX3_digest_108 : decode cX3_digest 108 = .ok (.invokevirtual 121, 3) := by decide +kernel
theorem dX3_digest_111 : decode cX3_digest 111 = .ok (.i2l, 1) := by decide +kernel
theorem dX3_digest_112 : decode cX3_digest 112 = .ok (.ladd, 1) := by decide +kernel
theorem dX3_digest_113 : decode cX3_digest 113 = .ok (.lstore_n 1, 1) := by decide +kernel
theorem dX3_digest_114 : decode cX3_digest 114 = .ok (.iinc 4 1, 3) := by decide +kernel
theorem dX3_digest_117 : decode cX3_digest 117 = .ok (.goto (-24), 3) := by decide +kernel
theorem dX3_digest_120 : decode cX3_digest 120 = .ok (.iinc 3 1, 3) := by decide +kernel
theorem dX3_digest_123 : decode cX3_digest 123 = .ok (.goto (-41), 3) := by decide +kernel
theorem dX3_digest_126 : decode cX3_digest 126 = .ok (.iconst 0, 1) := by decide +kernel
theorem dX3_digest_127 : decode cX3_digest 127 = .ok (.istore_n 3, 1) := by decide +kernel
theorem dX3_digest_128 : decode cX3_digest 128 = .ok (.iload_n 3, 1) := by decide +kernel
theorem dX3_digest_129 : decode cX3_digest 129 = .ok (.aload_n 0, 1) := by decide +kernel
theorem dX3_digest_130 : decode cX3_digest 130 = .ok (.getfield 51, 3) := by decide +kernel
theorem dX3_digest_133 : decode cX3_digest 133 = .ok (.if_icmp .ge 40, 3) := by decide +kernel
theorem dX3_digest_136 : decode cX3_digest 136 = .ok (.iconst 0, 1) := by decide +kernel
theorem dX3_digest_137 : decode cX3_digest 137 = .ok (.istore 4, 2) := by decide +kernel
theorem dX3_digest_139 : decode cX3_digest 139 = .ok (.iload 4, 2) := by decide +kernel
theorem dX3_digest_141 : decode cX3_digest 141 = .ok (.bipush 9, 2) := by decide +kernel
theorem dX3_digest_143 : decode cX3_digest 143 = .ok (.if_icmp .ge 24, 3) := by decide +kernel
theorem dX3_digest_146 : decode cX3_digest 146 = .ok (.lload_n 1, 1) := by decide +kernel
theorem dX3_digest_147 : decode cX3_digest 147 = .ok (.ldc2_w 135, 3) := by decide +kernel
theorem dX3_digest_150 : decode cX3_digest 150 = .ok (.lmul, 1) := by decide +kernel
theorem dX3_digest_151 : decode cX3_digest 151 = .ok (.aload_n 0, 1) := by decide +kernel
theorem dX3_digest_152 : decode cX3_digest 152 = .ok (.iload_n 3, 1) := by decide +kernel
theorem dX3_digest_153 : decode cX3_digest 153 = .ok (.iload 4, 2) := by decide +kernel
theorem dX3_digest_155 : decode cX3_digest 155 = .ok (.invokevirtual 124, 3) := by decide +kernel
theorem dX3_digest_158 : decode cX3_digest 158 = .ok (.i2l, 1) := by decide +kernel
theorem dX3_digest_159 : decode cX3_digest 159 = .ok (.ladd, 1) := by decide +kernel
theorem dX3_digest_160 : decode cX3_digest 160 = .ok (.lstore_n 1, 1) := by decide +kernel
theorem dX3_digest_161 : decode cX3_digest 161 = .ok (.iinc 4 1, 3) := by decide +kernel
theorem dX3_digest_164 : decode cX3_digest 164 = .ok (.goto (-25), 3) := by decide +kernel
theorem dX3_digest_167 : decode cX3_digest 167 = .ok (.iinc 3 1, 3) := by decide +kernel
theorem dX3_digest_170 : decode cX3_digest 170 = .ok (.goto (-42), 3) := by decide +kernel
theorem dX3_digest_173 : decode cX3_digest 173 = .ok (.lload_n 1, 1) := by decide +kernel
theorem dX3_digest_174 : decode cX3_digest 174 = .ok (.lreturn, 1) := by decide +kernel
theorem dJ9_abs_0f7a4_0 : decode cJ9_abs_0f7a4 0 = .ok (.iload_n 0, 1) := by decide +kernel
theorem dJ9_abs_0f7a4_1 : decode cJ9_abs_0f7a4 1 = .ok (.ifCond .ge 8, 3) := by decide +kernel
theorem dJ9_abs_0f7a4_4 : decode cJ9_abs_0f7a4 4 = .ok (.iload_n 0, 1) := by decide +kernel
theorem dJ9_abs_0f7a4_5 : decode cJ9_abs_0f7a4 5 = .ok (.ineg, 1) := by decide +kernel
theorem dJ9_abs_0f7a4_6 : decode cJ9_abs_0f7a4 6 = .ok (.goto 4, 3) := by decide +kernel
theorem dJ9_abs_0f7a4_9 : decode cJ9_abs_0f7a4 9 = .ok (.iload_n 0, 1) := by decide +kernel
theorem dJ9_abs_0f7a4_10 : decode cJ9_abs_0f7a4 10 = .ok (.ireturn, 1) := by decide +kernel
theorem dJ9_max_7cf53_0 : decode cJ9_max_7cf53 0 = .ok (.iload_n 0, 1) := by decide +kernel
theorem dJ9_max_7cf53_1 : decode cJ9_max_7cf53 1 = .ok (.iload_n 1, 1) := by decide +kernel
theorem dJ9_max_7cf53_2 : decode cJ9_max_7cf53 2 = .ok (.if_icmp .lt 7, 3) := by decide +kernel
theorem dJ9_max_7cf53_5 : decode cJ9_max_7cf53 5 = .ok (.iload_n 0, 1) := by decide +kernel
theorem dJ9_max_7cf53_6 : decode cJ9_max_7cf53 6 = .ok (.goto 4, 3) := by decide +kernel
theorem dJ9_max_7cf53_9 : decode cJ9_max_7cf53 9 = .ok (.iload_n 1, 1) := by decide +kernel
theorem dJ9_max_7cf53_10 : decode cJ9_max_7cf53 10 = .ok (.ireturn, 1) := by decide +kernel
theorem dJ9_min_7cf53_0 : decode cJ9_min_7cf53 0 = .ok (.iload_n 0, 1) := by decide +kernel
theorem dJ9_min_7cf53_1 : decode cJ9_min_7cf53 1 = .ok (.iload_n 1, 1) := by decide +kernel
theorem dJ9_min_7cf53_2 : decode cJ9_min_7cf53 2 = .ok (.if_icmp .gt 7, 3) := by decide +kernel
theorem dJ9_min_7cf53_5 : decode cJ9_min_7cf53 5 = .ok (.iload_n 0, 1) := by decide +kernel
theorem dJ9_min_7cf53_6 : decode cJ9_min_7cf53 6 = .ok (.goto 4, 3) := by decide +kernel
theorem dJ9_min_7cf53_9 : decode cJ9_min_7cf53 9 = .ok (.iload_n 1, 1) := by decide +kernel
theorem dJ9_min_7cf53_10 : decode cJ9_min_7cf53 10 = .ok (.ireturn, 1) := by decide +kernel
theorem dJxa1e45_init_da8c8_0 : decode cJxa1e45_init_da8c8 0 = .ok (.aload_n 0, 1) := by decide +kernel
theorem dJxa1e45_init_da8c8_1 : decode cJxa1e45_init_da8c8 1 = .ok (.invokespecial 1, 3) := by decide +kernel
theorem dJxa1e45_init_da8c8_4 : decode cJxa1e45_init_da8c8 4 = .ok (.return_, 1) := by decide +kernel
set_option maxRecDepth 20000 in
theorem ggJxc12de_init_da8c8_Jxa1e45_init_da8c8 : GoodIn wsJxc12de_init_da8c8 wsJxa1e45_init_da8c8 := goodIn_r _ [5, 6, 7, 8] (by decide +kernel) (by decide +kernel)
set_option maxRecDepth 20000 in
theorem gJxc12de_init_da8c8_Jxa1e45_init_da8c8 : GoodIn wsJxc12de_init_da8c8 (wsJxa1e45_init_da8c8) := ggJxc12de_init_da8c8_Jxa1e45_init_da8c8
theorem dJxc12de_init_da8c8_0 : decode cJxc12de_init_da8c8 0 = .ok (.aload_n 0, 1) := by decide +kernel
theorem dJxc12de_init_da8c8_1 : decode cJxc12de_init_da8c8 1 = .ok (.invokespecial 1, 3) := by decide +kernel
theorem dJxc12de_init_da8c8_4 : decode cJxc12de_init_da8c8 4 = .ok (.aload_n 0, 1) := by decide +kernel
theorem dJxc12de_init_da8c8_5 : decode cJxc12de_init_da8c8 5 = .ok (.iconst 0, 1) := by decide +kernel
theorem dJxc12de_init_da8c8_6 : decode cJxc12de_init_da8c8 6 = .ok (.putfield 7, 3) := by decide +kernel
theorem dJxc12de_init_da8c8_9 : decode cJxc12de_init_da8c8 9 = .ok (.return_, 1) := by decide +kernel
set_option maxRecDepth 20000 in
theorem ggJx4a65c_init_da8c8_Jxc12de_init_da8c8 : GoodIn wsJx4a65c_init_da8c8 wsJxc12de_init_da8c8 := goodIn_r _ [6, 7, 8, 9, 10, 11, 12, 13, 14, 15, 16, 17] (by decide +kernel) (by decide +kernel)
set_option maxRecDepth 20000 in
theorem gJx4a65c_init_da8c8_Jxc12de_init_da8c8 : GoodIn wsJx4a65c_init_da8c8 (wsJxc12de_init_da8c8) := ggJx4a65c_init_da8c8_Jxc12de_init_da8c8
theorem dJx4a65c_init_da8c8_0 : decode cJx4a65c_init_da8c8 0 = .ok (.aload_n 0, 1) := by decide +kernel
theorem dJx4a65c_init_da8c8_1 : decode cJx4a65c_init_da8c8 1 = .ok (.invokespecial 1, 3) := by decide +kernel
theorem dJx4a65c_init_da8c8_4 : decode cJx4a65c_init_da8c8 4 = .ok (.aload_n 0, 1) := by decide +kernel
theorem dJx4a65c_init_da8c8_5 : decode cJx4a65c_init_da8c8 5 = .ok (.getstatic 39, 3) := by decide +kernel
theorem dJx4a65c_init_da8c8_8 : decode cJx4a65c_init_da8c8 8 = .ok (.putfield 9, 3) := by decide +kernel
theorem dJx4a65c_init_da8c8_11 : decode cJx4a65c_init_da8c8 11 = .ok (.return_, 1) := by decide +kernel
set_option maxRecDepth 20000 in
theorem ggJx4a65c_grow_92f84_J8_newLength_cabcc : GoodIn wsJx4a65c_grow_92f84 wsJ8_newLength_cabcc := goodIn_r _ [11, 12, 4, 5, 6, 13, 14, 15, 10, 16] (by decide +kernel) (by decide +kernel)
set_option maxRecDepth 20000 in
theorem gJx4a65c_grow_92f84_J8_newLength_cabcc : GoodIn wsJx4a65c_grow_92f84 (va_wsS RJx4a65c 73 yJ8_newLength_cabcc wsJ8_newLength_cabcc) := goodIn_app (goodIn_of _ (by decide +kernel)) ggJx4a65c_grow_92f84_J8_newLength_cabcc
set_option maxRecDepth 20000 in
theorem ggJx4a65c_grow_92f84_J7_copyOf_1904c : GoodIn wsJx4a65c_grow_92f84 wsJ7_copyOf_1904c := goodIn_r _ [20, 21, 22, 23, 24, 25, 26, 19, 27, 28, 29, 30, 31, 5, 32, 33, 34, 35, 36] (by decide +kernel) (by decide +kernel)
set_option maxRecDepth 20000 in
theorem gJx4a65c_grow_92f84_J7_copyOf_1904c : GoodIn wsJx4a65c_grow_92f84 (va_wsS RJx4a65c 66 yJ7_copyOf_1904c wsJ7_copyOf_1904c) := goodIn_app (goodIn_of _ (by decide +kernel)) ggJx4a65c_grow_92f84_J7_copyOf_1904c
theorem dJx4a65c_grow_92f84_0 : decode cJx4a65c_grow_92f84 0 = .ok (.aload_n 0, 1) := by decide +kernel
theorem dJx4a65c_grow_92f84_1 : decode cJx4a65c_grow_92f84 1 = .ok (.getfield 9, 3) := by decide +kernel
theorem dJx4a65c_grow_92f84_4 : decode cJx4a65c_grow_92f84 4 = .ok (.arraylength, 1) := by decide +kernel
theorem dJx4a65c_grow_92f84_5 : decode cJx4a65c_grow_92f84 5 = .ok (.istore_n 2, 1) := by decide +kernel
theorem dJx4a65c_grow_92f84_6 : decode cJx4a65c_grow_92f84 6 = .ok (.iload_n 2, 1) := by decide +kernel
theorem dJx4a65c_grow_92f84_7 : decode cJx4a65c_grow_92f84 7 = .ok (.ifCond .gt 13, 3) := by decide +kernel
theorem dJx4a65c_grow_92f84_10 : decode cJx4a65c_grow_92f84 10 = .ok (.aload_n 0, 1) := by decide +kernel
theorem dJx4a65c_grow_92f84_11 : decode cJx4a65c_grow_92f84 11 = .ok (.getfield 9, 3) := by decide +kernel
theorem dJx4a65c_grow_92f84_14 : decode cJx4a65c_grow_92f84 14 = .ok (.getstatic 39, 3) := by decide +kernel
theorem dJx4a65c_grow_92f84_17 : decode cJx4a65c_grow_92f84 17 = .ok (.if_acmp .eq 28, 3) := by decide +kernel
theorem dJx4a65c_grow_92f84_20 : decode cJx4a65c_grow_92f84 20 = .ok (.iload_n 2, 1) := by decide +kernel
theorem dJx4a65c_grow_92f84_21 : decode cJx4a65c_grow_92f84 21 = .ok (.iload_n 1, 1) := by decide +kernel
theorem dJx4a65c_grow_92f84_22 : decode cJx4a65c_grow_92f84 22 = .ok (.iload_n 2, 1) := by decide +kernel
theorem dJx4a65c_grow_92f84_23 : decode cJx4a65c_grow_92f84 23 = .ok (.isub, 1) := by decide +kernel
theorem dJx4a65c_grow_92f84_24 : decode cJx4a65c_grow_92f84 24 = .ok (.iload_n 2, 1) := by decide +kernel
theorem dJx4a65c_grow_92f84_25 : decode cJx4a65c_grow_92f84 25 = .ok (.iconst 1, 1) := by decide +kernel
theorem dJx4a65c_grow_92f84_26 : decode cJx4a65c_grow_92f84 26 = .ok (.ishr, 1) := by decide +kernel
theorem dJx4a65c_grow_92f84_27 : decode cJx4a65c_grow_92f84 27 = .ok (.invokestatic 73, 3) := by decide +kernel
theorem dJx4a65c_grow_92f84_30 : decode cJx4a65c_grow_92f84 30 = .ok (.istore_n 3, 1) := by decide +kernel
theorem dJx4a65c_grow_92f84_31 : decode cJx4a65c_grow_92f84 31 = .ok (.aload_n 0, 1) := by decide +kernel
theorem dJx4a65c_grow_92f84_32 : decode cJx4a65c_grow_92f84 32 = .ok (.aload_n 0, 1) := by decide +kernel
theorem dJx4a65c_grow_92f84_33 : decode cJx4a65c_grow_92f84 33 = .ok (.getfield 9, 3) := by decide +kernel
theorem dJx4a65c_grow_92f84_36 : decode cJx4a65c_grow_92f84 36 = .ok (.iload_n 3, 1) := by decide +kernel
theorem dJx4a65c_grow_92f84_37 : decode cJx4a65c_grow_92f84 37 = .ok (.invokestatic 66, 3) := by decide +kernel
theorem dJx4a65c_grow_92f84_40 : decode cJx4a65c_grow_92f84 40 = .ok (.dup_x1, 1) := by decide +kernel
theorem dJx4a65c_grow_92f84_41 : decode cJx4a65c_grow_92f84 41 = .ok (.putfield 9, 3) := by decide +kernel
theorem dJx4a65c_grow_92f84_44 : decode cJx4a65c_grow_92f84 44 = .ok (.areturn, 1) := by decide +kernel
theorem dJx4a65c_grow_92f84_45 : decode cJx4a65c_grow_92f84 45 = .ok (.aload_n 0, 1) := by decide +kernel
theorem dJx4a65c_grow_92f84_46 : decode cJx4a65c_grow_92f84 46 = .ok (.bipush 10, 2) := by decide +kernel
theorem dJx4a65c_grow_92f84_48 : decode cJx4a65c_grow_92f84 48 = .ok (.iload_n 1, 1) := by decide +kernel
theorem dJx4a65c_grow_92f84_49 : decode cJx4a65c_grow_92f84 49 = .ok (.invokestatic 79, 3) := by decide +kernel
theorem dJx4a65c_grow_92f84_52 : decode cJx4a65c_grow_92f84 52 = .ok (.anewarray 7, 3) := by decide +kernel
theorem dJx4a65c_grow_92f84_55 : decode cJx4a65c_grow_92f84 55 = .ok (.dup_x1, 1) := by decide +kernel
theorem dJx4a65c_grow_92f84_56 : decode cJx4a65c_grow_92f84 56 = .ok (.putfield 9, 3) := by decide +kernel
theorem dJx4a65c_grow_92f84_59 : decode cJx4a65c_grow_92f84 59 = .ok (.areturn, 1) := by decide +kernel
set_option maxRecDepth 20000 in
theorem ggJx4a65c_grow_d5877_Jx4a65c_grow_92f84 : GoodIn wsJx4a65c_grow_d5877 wsJx4a65c_grow_92f84 := goodIn_r _ [6, 7, 8, 9, 10, 11, 12, 13, 14, 15, 16, 17, 18, 19, 20, 21, 22, 23, 24, 25, 26, 27, 28, 29, 30, 31, 32, 33, 34, 35, 36, 37, 38, 39, 40, 41, 42, 43, 44, 45] (by decide +kernel) (by decide +kernel)
set_option maxRecDepth 20000 in
theorem gJx4a65c_grow_d5877_Jx4a65c_grow_92f84 : GoodIn wsJx4a65c_grow_d5877 (wsV RJx4a65c 69 RJx4a65c yJx4a65c_grow_92f84 wsJx4a65c_grow_92f84) := goodIn_app (goodIn_of _ (by decide +kernel)) ggJx4a65c_grow_d5877_Jx4a65c_grow_92f84
theorem dJx4a65c_grow_d5877_0 : decode cJx4a65c_grow_d5877 0 = .ok (.aload_n 0, 1) := by decide +kernel
theorem dJx4a65c_grow_d5877_1 : decode cJx4a65c_grow_d5877 1 = .ok (.aload_n 0, 1) := by decide +kernel
theorem dJx4a65c_grow_d5877_2 : decode cJx4a65c_grow_d5877 2 = .ok (.getfield 48, 3) := by decide +kernel
theorem dJx4a65c_grow_d5877_5 : decode cJx4a65c_grow_d5877 5 = .ok (.iconst 1, 1) := by decide +kernel
theorem dJx4a65c_grow_d5877_6 : decode cJx4a65c_grow_d5877 6 = .ok (.iadd, 1) := by decide +kernel
theorem dJx4a65c_grow_d5877_7 : decode cJx4a65c_grow_d5877 7 = .ok (.invokevirtual 69, 3) := by decide +kernel
theorem dJx4a65c_grow_d5877_10 : decode cJx4a65c_grow_d5877 10 = .ok (.areturn, 1) := by decide +kernel
theorem dJx4a65c_size_8abf5_0 : decode cJx4a65c_size_8abf5 0 = .ok (.aload_n 0, 1) := by decide +kernel
theorem dJx4a65c_size_8abf5_1 : decode cJx4a65c_size_8abf5 1 = .ok (.getfield 48, 3) := by decide +kernel
theorem dJx4a65c_size_8abf5_4 : decode cJx4a65c_size_8abf5 4 = .ok (.ireturn, 1) := by decide +kernel
theorem dJx4a65c_elementData_915e3_0 : decode cJx4a65c_elementData_915e3 0 = .ok (.aload_n 0, 1) := by decide +kernel
theorem dJx4a65c_elementData_915e3_1 : decode cJx4a65c_elementData_915e3 1 = .ok (.getfield 9, 3) := by decide +kernel
theorem dJx4a65c_elementData_915e3_4 : decode cJx4a65c_elementData_915e3 4 = .ok (.iload_n 1, 1) := by decide +kernel
theorem dJx4a65c_elementData_915e3_5 : decode cJx4a65c_elementData_915e3 5 = .ok (.aaload, 1) := by decide +kernel
theorem dJx4a65c_elementData_915e3_6 : decode cJx4a65c_elementData_915e3 6 = .ok (.areturn, 1) := by decide +kernel
set_option maxRecDepth 20000 in
theorem ggJx4a65c_get_915e3_J15_checkIndex_7cf53 : GoodIn wsJx4a65c_get_915e3 wsJ15_checkIndex_7cf53 := goodIn_r _ [5, 6, 7, 8, 9] (by decide +kernel) (by decide +kernel)
set_option maxRecDepth 20000 in
theorem gJx4a65c_get_915e3_J15_checkIndex_7cf53 : GoodIn wsJx4a65c_get_915e3 (va_wsS RJx4a65c 118 yJ15_checkIndex_7cf53 wsJ15_checkIndex_7cf53) := goodIn_app (goodIn_of _ (by decide +kernel)) ggJx4a65c_get_915e3_J15_checkIndex_7cf53
set_option maxRecDepth 20000 in
theorem ggJx4a65c_get_915e3_Jx4a65c_elementData_915e3 : GoodIn wsJx4a65c_get_915e3 wsJx4a65c_elementData_915e3 := goodIn_r _ [14, 15, 16, 17, 18] (by decide +kernel) (by decide +kernel)
set_option maxRecDepth 20000 in
theorem gJx4a65c_get_915e3_Jx4a65c_elementData_915e3 : GoodIn wsJx4a65c_get_915e3 (wsV RJx4a65c 123 RJx4a65c yJx4a65c_elementData_915e3 wsJx4a65c_elementData_915e3) := goodIn_app (goodIn_of _ (by decide +kernel)) ggJx4a65c_get_915e3_Jx4a65c_elementData_915e3
theorem dJx4a65c_get_915e3_0 : decode cJx4a65c_get_915e3 0 = .ok (.iload_n 1, 1) := by decide +kernel
theorem dJx4a65c_get_915e3_1 : decode cJx4a65c_get_915e3 1 = .ok (.aload_n 0, 1) := by decide +kernel
theorem dJx4a65c_get_915e3_2 : decode cJx4a65c_get_915e3 2 = .ok (.getfield 48, 3) := by decide +kernel
theorem dJx4a65c_get_915e3_5 : decode cJx4a65c_get_915e3 5 = .ok (.invokestatic 118, 3) := by decide +kernel
theorem dJx4a65c_get_915e3_8 : decode cJx4a65c_get_915e3 8 = .ok (.pop, 1) := by decide +kernel
theorem dJx4a65c_get_915e3_9 : decode cJx4a65c_get_915e3 9 = .ok (.aload_n 0, 1) := by decide +kernel
theorem dJx4a65c_get_915e3_10 : decode cJx4a65c_get_915e3 10 = .ok (.iload_n 1, 1) := by decide +kernel
theorem dJx4a65c_get_915e3_11 : decode cJx4a65c_get_915e3 11 = .ok (.invokevirtual 123, 3) := by decide +kernel
theorem dJx4a65c_get_915e3_14 : decode cJx4a65c_get_915e3 14 = .ok (.areturn, 1) := by decide +kernel
set_option maxRecDepth 20000 in
theorem ggJx4a65c_add_72be8_Jx4a65c_grow_d5877 : GoodIn wsJx4a65c_add_72be8 wsJx4a65c_grow_d5877 := goodIn_r _ [6, 1, 7, 8, 9, 5, 10, 11, 12, 13, 14, 15, 16, 17, 18, 19, 20, 21, 22, 23, 24, 25, 26, 27, 28, 29, 30, 31, 32, 33, 34, 35, 36, 37, 38, 39, 40, 41, 42, 43, 44, 45, 46, 47, 48, 49] (by decide +kernel) (by decide +kernel)
set_option maxRecDepth 20000 in
theorem gJx4a65c_add_72be8_Jx4a65c_grow_d5877 : GoodIn wsJx4a65c_add_72be8 (wsV RJx4a65c 129 RJx4a65c yJx4a65c_grow_d5877 wsJx4a65c_grow_d5877) := goodIn_app (goodIn_of _ (by decide +kernel)) ggJx4a65c_add_72be8_Jx4a65c_grow_d5877
theorem dJx4a65c_add_72be8_0 : decode cJx4a65c_add_72be8 0 = .ok (.iload_n 3, 1) := by decide +kernel
theorem dJx4a65c_add_72be8_1 : decode cJx4a65c_add_72be8 1 = .ok (.aload_n 2, 1) := by decide +kernel
theorem dJx4a65c_add_72be8_2 : decode cJx4a65c_add_72be8 2 = .ok (.arraylength, 1) := by decide +kernel
theorem dJx4a65c_add_72be8_3 : decode cJx4a65c_add_72be8 3 = .ok (.if_icmp .ne 8, 3) := by decide +kernel
theorem dJx4a65c_add_72be8_6 : decode cJx4a65c_add_72be8 6 = .ok (.aload_n 0, 1) := by decide +kernel
theorem dJx4a65c_add_72be8_7 : decode cJx4a65c_add_72be8 7 = .ok (.invokevirtual 129, 3) := by decide +kernel
theorem dJx4a65c_add_72be8_10 : decode cJx4a65c_add_72be8 10 = .ok (.astore_n 2, 1) := by decide +kernel
theorem dJx4a65c_add_72be8_11 : decode cJx4a65c_add_72be8 11 = .ok (.aload_n 2, 1) := by decide +kernel
theorem dJx4a65c_add_72be8_12 : decode cJx4a65c_add_72be8 12 = .ok (.iload_n 3, 1) := by decide +kernel
theorem dJx4a65c_add_72be8_13 : decode cJx4a65c_add_72be8 13 = .ok (.aload_n 1, 1) := by decide +kernel
theorem dJx4a65c_add_72be8_14 : decode cJx4a65c_add_72be8 14 = .ok (.aastore, 1) := by decide +kernel
theorem dJx4a65c_add_72be8_15 : decode cJx4a65c_add_72be8 15 = .ok (.aload_n 0, 1) := by decide +kernel
theorem dJx4a65c_add_72be8_16 : decode cJx4a65c_add_72be8 16 = .ok (.iload_n 3, 1) := by decide +kernel
theorem dJx4a65c_add_72be8_17 : decode cJx4a65c_add_72be8 17 = .ok (.iconst 1, 1) := by decide +kernel
theorem dJx4a65c_add_72be8_18 : decode cJx4a65c_add_72be8 18 = .ok (.iadd, 1) := by decide +kernel
theorem dJx4a65c_add_72be8_19 : decode cJx4a65c_add_72be8 19 = .ok (.putfield 48, 3) := by decide +kernel
theorem dJx4a65c_add_72be8_22 : decode cJx4a65c_add_72be8 22 = .ok (.return_, 1) := by decide +kernel
set_option maxRecDepth 20000 in
theorem ggJx4a65c_add_9ea2d_Jx4a65c_add_72be8 : GoodIn wsJx4a65c_add_9ea2d wsJx4a65c_add_72be8 := goodIn_r _ [9, 4, 10, 11, 12, 8, 13, 14, 15, 16, 17, 3, 18, 19, 20, 21, 22, 23, 24, 25, 26, 27, 28, 29, 30, 31, 32, 33, 34, 35, 36, 37, 38, 39, 40, 41, 42, 43, 44, 45, 46, 47, 48, 49, 50, 51, 52, 53, 54, 55] (by decide +kernel) (by decide +kernel)
set_option maxRecDepth 20000 in
theorem gJx4a65c_add_9ea2d_Jx4a65c_add_72be8 : GoodIn wsJx4a65c_add_9ea2d (wsV RJx4a65c 131 RJx4a65c yJx4a65c_add_72be8 wsJx4a65c_add_72be8) := goodIn_app (goodIn_of _ (by decide +kernel)) ggJx4a65c_add_9ea2d_Jx4a65c_add_72be8
theorem dJx4a65c_add_9ea2d_0 : decode cJx4a65c_add_9ea2d 0 = .ok (.aload_n 0, 1) := by decide +kernel
theorem dJx4a65c_add_9ea2d_1 : decode cJx4a65c_add_9ea2d 1 = .ok (.dup, 1) := by decide +kernel
theorem dJx4a65c_add_9ea2d_2 : decode cJx4a65c_add_9ea2d 2 = .ok (.getfield 63, 3) := by decide +kernel
theorem dJx4a65c_add_9ea2d_5 : decode cJx4a65c_add_9ea2d 5 = .ok (.iconst 1, 1) := by decide +kernel
theorem dJx4a65c_add_9ea2d_6 : decode cJx4a65c_add_9ea2d 6 = .ok (.iadd, 1) := by decide +kernel
theorem dJx4a65c_add_9ea2d_7 : decode cJx4a65c_add_9ea2d 7 = .ok (.putfield 63, 3) := by decide +kernel
theorem dJx4a65c_add_9ea2d_10 : decode cJx4a65c_add_9ea2d 10 = .ok (.aload_n 0, 1) := by decide +kernel
theorem dJx4a65c_add_9ea2d_11 : decode cJx4a65c_add_9ea2d 11 = .ok (.aload_n 1, 1) := by decide +kernel
theorem dJx4a65c_add_9ea2d_12 : decode cJx4a65c_add_9ea2d 12 = .ok (.aload_n 0, 1) := by decide +kernel
theorem dJx4a65c_add_9ea2d_13 : decode cJx4a65c_add_9ea2d 13 = .ok (.getfield 9, 3) := by decide +kernel
theorem dJx4a65c_add_9ea2d_16 : decode cJx4a65c_add_9ea2d 16 = .ok (.aload_n 0, 1) := by decide +kernel
theorem dJx4a65c_add_9ea2d_17 : decode cJx4a65c_add_9ea2d 17 = .ok (.getfield 48, 3) := by decide +kernel
theorem dJx4a65c_add_9ea2d_20 : decode cJx4a65c_add_9ea2d 20 = .ok (.invokevirtual 131, 3) := by decide +kernel
theorem dJx4a65c_add_9ea2d_23 : decode cJx4a65c_add_9ea2d 23 = .ok (.iconst 1, 1) := by decide +kernel
theorem dJx4a65c_add_9ea2d_24 : decode cJx4a65c_add_9ea2d 24 = .ok (.ireturn, 1) := by decide +kernel
set_option maxRecDepth 20000 in
theorem ggJ7_copyOf_1904c_J7_copyOf_6403c : GoodIn wsJ7_copyOf_1904c wsJ7_copyOf_6403c := goodIn_r _ [8, 9, 10, 11, 12, 13, 14, 15, 16, 17, 18] (by decide +kernel) (by decide +kernel)
set_option maxRecDepth 20000 in
theorem gJ7_copyOf_1904c_J7_copyOf_6403c : GoodIn wsJ7_copyOf_1904c (va_wsS RJ7 300 yJ7_copyOf_6403c wsJ7_copyOf_6403c) := goodIn_app (goodIn_of _ (by decide +kernel)) ggJ7_copyOf_1904c_J7_copyOf_6403c
theorem dJ7_copyOf_1904c_0 : decode cJ7_copyOf_1904c 0 = .ok (.aload_n 0, 1) := by decide +kernel
theorem dJ7_copyOf_1904c_1 : decode cJ7_copyOf_1904c 1 = .ok (.iload_n 1, 1) := by decide +kernel
theorem dJ7_copyOf_1904c_2 : decode cJ7_copyOf_1904c 2 = .ok (.aload_n 0, 1) := by decide +kernel
theorem dJ7_copyOf_1904c_3 : decode cJ7_copyOf_1904c 3 = .ok (.invokevirtual 86, 3) := by decide +kernel
theorem dJ7_copyOf_1904c_6 : decode cJ7_copyOf_1904c 6 = .ok (.invokestatic 300, 3) := by decide +kernel
theorem dJ7_copyOf_1904c_9 : decode cJ7_copyOf_1904c 9 = .ok (.areturn, 1) := by decide +kernel
theorem dJ7_copyOf_6403c_0 : decode cJ7_copyOf_6403c 0 = .ok (.aload_n 2, 1) := by decide +kernel
theorem dJ7_copyOf_6403c_1 : decode cJ7_copyOf_6403c 1 = .ok (.ldc 110, 2) := by decide +kernel
theorem dJ7_copyOf_6403c_3 : decode cJ7_copyOf_6403c 3 = .ok (.if_acmp .ne 10, 3) := by decide +kernel
theorem dJ7_copyOf_6403c_6 : decode cJ7_copyOf_6403c 6 = .ok (.iload_n 1, 1) := by decide +kernel
theorem dJ7_copyOf_6403c_7 : decode cJ7_copyOf_6403c 7 = .ok (.anewarray 2, 3) := by decide +kernel
theorem dJ7_copyOf_6403c_10 : decode cJ7_copyOf_6403c 10 = .ok (.goto 14, 3) := by decide +kernel
theorem dJ7_copyOf_6403c_13 : decode cJ7_copyOf_6403c 13 = .ok (.aload_n 2, 1) := by decide +kernel
theorem dJ7_copyOf_6403c_14 : decode cJ7_copyOf_6403c 14 = .ok (.invokevirtual 90, 3) := by decide +kernel
theorem dJ7_copyOf_6403c_17 : decode cJ7_copyOf_6403c 17 = .ok (.iload_n 1, 1) := by decide +kernel
theorem dJ7_copyOf_6403c_18 : decode cJ7_copyOf_6403c 18 = .ok (.invokestatic 95, 3) := by decide +kernel
theorem dJ7_copyOf_6403c_21 : decode cJ7_copyOf_6403c 21 = .ok (.checkcast 110, 3) := by decide +kernel
theorem dJ7_copyOf_6403c_24 : decode cJ7_copyOf_6403c 24 = .ok (.astore_n 3, 1) := by decide +kernel
theorem dJ7_copyOf_6403c_25 : decode cJ7_copyOf_6403c 25 = .ok (.aload_n 0, 1) := by decide +kernel
theorem dJ7_copyOf_6403c_26 : decode cJ7_copyOf_6403c 26 = .ok (.iconst 0, 1) := by decide +kernel
theorem dJ7_copyOf_6403c_27 : decode cJ7_copyOf_6403c 27 = .ok (.aload_n 3, 1) := by decide +kernel
theorem dJ7_copyOf_6403c_28 : decode cJ7_copyOf_6403c 28 = .ok (.iconst 0, 1) := by decide +kernel
theorem dJ7_copyOf_6403c_29 : decode cJ7_copyOf_6403c 29 = .ok (.aload_n 0, 1) := by decide +kernel
theorem dJ7_copyOf_6403c_30 : decode cJ7_copyOf_6403c 30 = .ok (.arraylength, 1) := by decide +kernel
theorem dJ7_copyOf_6403c_31 : decode cJ7_copyOf_6403c 31 = .ok (.iload_n 1, 1) := by decide +kernel
theorem dJ7_copyOf_6403c_32 : decode cJ7_copyOf_6403c 32 = .ok (.invokestatic 304, 3) := by decide +kernel
theorem dJ7_copyOf_6403c_35 : decode cJ7_copyOf_6403c 35 = .ok (.invokestatic 150, 3) := by decide +kernel
theorem dJ7_copyOf_6403c_38 : decode cJ7_copyOf_6403c 38 = .ok (.aload_n 3, 1) := by decide +kernel
theorem dJ7_copyOf_6403c_39 : decode cJ7_copyOf_6403c 39 = .ok (.areturn, 1) := by decide +kernel
set_option maxRecDepth 20000 in
theorem ggJ15_checkIndex_7cf53_J3_checkIndex_8e157 : GoodIn wsJ15_checkIndex_7cf53 wsJ3_checkIndex_8e157 := goodIn_r _ [4] (by decide +kernel) (by decide +kernel)
set_option maxRecDepth 20000 in
theorem gJ15_checkIndex_7cf53_J3_checkIndex_8e157 : GoodIn wsJ15_checkIndex_7cf53 (va_wsS RJ15 105 yJ3_checkIndex_8e157 wsJ3_checkIndex_8e157) := goodIn_app (goodIn_of _ (by decide +kernel)) ggJ15_checkIndex_7cf53_J3_checkIndex_8e157
theorem dJ15_checkIndex_7cf53_0 : decode cJ15_checkIndex_7cf53 0 = .ok (.iload_n 0, 1) := by decide +kernel
theorem dJ15_checkIndex_7cf53_1 : decode cJ15_checkIndex_7cf53 1 = .ok (.iload_n 1, 1) := by decide +kernel
theorem dJ15_checkIndex_7cf53_2 : decode cJ15_checkIndex_7cf53 2 = .ok (.aconst_null, 1) := by decide +kernel
theorem dJ15_checkIndex_7cf53_3 : decode cJ15_checkIndex_7cf53 3 = .ok (.invokestatic 105, 3) := by decide +kernel
theorem dJ15_checkIndex_7cf53_6 : decode cJ15_checkIndex_7cf53 6 = .ok (.ireturn, 1) := by decide +kernel
set_option maxRecDepth 20000 in
theorem ggJ8_newLength_cabcc_J8_hugeLength_7cf53 : GoodIn wsJ8_newLength_cabcc wsJ8_hugeLength_7cf53 := goodIn_r _ [9, 5] (by decide +kernel) (by decide +kernel)
set_option maxRecDepth 20000 in
theorem gJ8_newLength_cabcc_J8_hugeLength_7cf53 : GoodIn wsJ8_newLength_cabcc (va_wsS RJ8 201 yJ8_hugeLength_7cf53 wsJ8_hugeLength_7cf53) := goodIn_app (goodIn_of _ (by decide +kernel)) ggJ8_newLength_cabcc_J8_hugeLength_7cf53
theorem dJ8_newLength_cabcc_0 : decode cJ8_newLength_cabcc 0 = .ok (.iload_n 0, 1) := by decide +kernel
theorem dJ8_newLength_cabcc_1 : decode cJ8_newLength_cabcc 1 = .ok (.iload_n 1, 1) := by decide +kernel
theorem dJ8_newLength_cabcc_2 : decode cJ8_newLength_cabcc 2 = .ok (.iload_n 2, 1) := by decide +kernel
theorem dJ8_newLength_cabcc_3 : decode cJ8_newLength_cabcc 3 = .ok (.invokestatic 194, 3) := by decide +kernel
theorem dJ8_newLength_cabcc_6 : decode cJ8_newLength_cabcc 6 = .ok (.iadd, 1) := by decide +kernel
theorem dJ8_newLength_cabcc_7 : decode cJ8_newLength_cabcc 7 = .ok (.istore_n 3, 1) := by decide +kernel
theorem dJ8_newLength_cabcc_8 : decode cJ8_newLength_cabcc 8 = .ok (.iconst 0, 1) := by decide +kernel
theorem dJ8_newLength_cabcc_9 : decode cJ8_newLength_cabcc 9 = .ok (.iload_n 3, 1) := by decide +kernel
theorem dJ8_newLength_cabcc_10 : decode cJ8_newLength_cabcc 10 = .ok (.if_icmp .ge 11, 3) := by decide +kernel
theorem dJ8_newLength_cabcc_13 : decode cJ8_newLength_cabcc 13 = .ok (.iload_n 3, 1) := by decide +kernel
theorem dJ8_newLength_cabcc_14 : decode cJ8_newLength_cabcc 14 = .ok (.ldc 200, 2) := by decide +kernel
theorem dJ8_newLength_cabcc_16 : decode cJ8_newLength_cabcc 16 = .ok (.if_icmp .gt 5, 3) := by decide +kernel
theorem dJ8_newLength_cabcc_19 : decode cJ8_newLength_cabcc 19 = .ok (.iload_n 3, 1) := by decide +kernel
theorem dJ8_newLength_cabcc_20 : decode cJ8_newLength_cabcc 20 = .ok (.ireturn, 1) := by decide +kernel
theorem dJ8_newLength_cabcc_21 : decode cJ8_newLength_cabcc 21 = .ok (.iload_n 0, 1) := by decide +kernel
theorem dJ8_newLength_cabcc_22 : decode cJ8_newLength_cabcc 22 = .ok (.iload_n 1, 1) := by decide +kernel
theorem dJ8_newLength_cabcc_23 : decode cJ8_newLength_cabcc 23 = .ok (.invokestatic 201, 3) := by decide +kernel
theorem dJ8_newLength_cabcc_26 : decode cJ8_newLength_cabcc 26 = .ok (.ireturn, 1) := by decide +kernel
theorem dJ8_hugeLength_7cf53_0 : decode cJ8_hugeLength_7cf53 0 = .ok (.iload_n 0, 1) := by decide +kernel
theorem dJ8_hugeLength_7cf53_1 : decode cJ8_hugeLength_7cf53 1 = .ok (.iload_n 1, 1) := by decide +kernel
theorem dJ8_hugeLength_7cf53_2 : decode cJ8_hugeLength_7cf53 2 = .ok (.iadd, 1) := by decide +kernel
theorem dJ8_hugeLength_7cf53_3 : decode cJ8_hugeLength_7cf53 3 = .ok (.istore_n 2, 1) := by decide +kernel
theorem dJ8_hugeLength_7cf53_4 : decode cJ8_hugeLength_7cf53 4 = .ok (.iload_n 2, 1) := by decide +kernel
theorem dJ8_hugeLength_7cf53_5 : decode cJ8_hugeLength_7cf53 5 = .ok (.ifCond .ge 44, 3) := by decide +kernel
theorem dJ8_hugeLength_7cf53_8 : decode cJ8_hugeLength_7cf53 8 = .ok (.new 204, 3) := by decide +kernel
theorem dJ8_hugeLength_7cf53_11 : decode cJ8_hugeLength_7cf53 11 = .ok (.dup, 1) := by decide +kernel
theorem dJ8_hugeLength_7cf53_12 : decode cJ8_hugeLength_7cf53 12 = .ok (.new 89, 3) := by decide +kernel
theorem dJ8_hugeLength_7cf53_15 : decode cJ8_hugeLength_7cf53 15 = .ok (.dup, 1) := by decide +kernel
theorem dJ8_hugeLength_7cf53_16 : decode cJ8_hugeLength_7cf53 16 = .ok (.invokespecial 91, 3) := by decide +kernel
theorem dJ8_hugeLength_7cf53_19 : decode cJ8_hugeLength_7cf53 19 = .ok (.ldc 206, 2) := by decide +kernel
theorem dJ8_hugeLength_7cf53_21 : decode cJ8_hugeLength_7cf53 21 = .ok (.invokevirtual 94, 3) := by decide +kernel
theorem dJ8_hugeLength_7cf53_24 : decode cJ8_hugeLength_7cf53 24 = .ok (.iload_n 0, 1) := by decide +kernel
theorem dJ8_hugeLength_7cf53_25 : decode cJ8_hugeLength_7cf53 25 = .ok (.invokevirtual 98, 3) := by decide +kernel
theorem dJ8_hugeLength_7cf53_28 : decode cJ8_hugeLength_7cf53 28 = .ok (.ldc 208, 2) := by decide +kernel
theorem dJ8_hugeLength_7cf53_30 : decode cJ8_hugeLength_7cf53 30 = .ok (.invokevirtual 94, 3) := by decide +kernel
theorem dJ8_hugeLength_7cf53_33 : decode cJ8_hugeLength_7cf53 33 = .ok (.iload_n 1, 1) := by decide +kernel
theorem dJ8_hugeLength_7cf53_34 : decode cJ8_hugeLength_7cf53 34 = .ok (.invokevirtual 98, 3) := by decide +kernel
theorem dJ8_hugeLength_7cf53_37 : decode cJ8_hugeLength_7cf53 37 = .ok (.ldc 210, 2) := by decide +kernel
theorem dJ8_hugeLength_7cf53_39 : decode cJ8_hugeLength_7cf53 39 = .ok (.invokevirtual 94, 3) := by decide +kernel
theorem dJ8_hugeLength_7cf53_42 : decode cJ8_hugeLength_7cf53 42 = .ok (.invokevirtual 101, 3) := by decide +kernel
theorem dJ8_hugeLength_7cf53_45 : decode cJ8_hugeLength_7cf53 45 = .ok (.invokespecial 212, 3) := by decide +kernel
theorem dJ8_hugeLength_7cf53_48 : decode cJ8_hugeLength_7cf53 48 = .ok (.athrow, 1) := by decide +kernel
theorem dJ8_hugeLength_7cf53_49 : decode cJ8_hugeLength_7cf53 49 = .ok (.iload_n 2, 1) := by decide +kernel
theorem dJ8_hugeLength_7cf53_50 : decode cJ8_hugeLength_7cf53 50 = .ok (.ldc 200, 2) := by decide +kernel
theorem dJ8_hugeLength_7cf53_52 : decode cJ8_hugeLength_7cf53 52 = .ok (.if_icmp .gt 6, 3) := by decide +kernel
theorem dJ8_hugeLength_7cf53_55 : decode cJ8_hugeLength_7cf53 55 = .ok (.ldc 200, 2) := by decide +kernel
theorem dJ8_hugeLength_7cf53_57 : decode cJ8_hugeLength_7cf53 57 = .ok (.ireturn, 1) := by decide +kernel
theorem dJ8_hugeLength_7cf53_58 : decode cJ8_hugeLength_7cf53 58 = .ok (.iload_n 2, 1) := by decide +kernel
theorem dJ8_hugeLength_7cf53_59 : decode cJ8_hugeLength_7cf53 59 = .ok (.ireturn, 1) := by decide +kernel
theorem dJ3_checkIndex_8e157_0 : decode cJ3_checkIndex_8e157 0 = .ok (.iload_n 0, 1) := by decide +kernel
theorem dJ3_checkIndex_8e157_1 : decode cJ3_checkIndex_8e157 1 = .ok (.ifCond .lt 8, 3) := by decide +kernel
theorem dJ3_checkIndex_8e157_4 : decode cJ3_checkIndex_8e157 4 = .ok (.iload_n 0, 1) := by decide +kernel
theorem dJ3_checkIndex_8e157_5 : decode cJ3_checkIndex_8e157 5 = .ok (.iload_n 1, 1) := by decide +kernel
theorem dJ3_checkIndex_8e157_6 : decode cJ3_checkIndex_8e157 6 = .ok (.if_icmp .lt 10, 3) := by decide +kernel
theorem dJ3_checkIndex_8e157_9 : decode cJ3_checkIndex_8e157 9 = .ok (.aload_n 2, 1) := by decide +kernel
theorem dJ3_checkIndex_8e157_10 : decode cJ3_checkIndex_8e157 10 = .ok (.iload_n 0, 1) := by decide +kernel
theorem dJ3_checkIndex_8e157_11 : decode cJ3_checkIndex_8e157 11 = .ok (.iload_n 1, 1) := by decide +kernel
theorem dJ3_checkIndex_8e157_12 : decode cJ3_checkIndex_8e157 12 = .ok (.invokestatic 95, 3) := by decide +kernel
theorem dJ3_checkIndex_8e157_15 : decode cJ3_checkIndex_8e157 15 = .ok (.athrow, 1) := by decide +kernel
theorem dJ3_checkIndex_8e157_16 : decode cJ3_checkIndex_8e157 16 = .ok (.iload_n 0, 1) := by decide +kernel
theorem dJ3_checkIndex_8e157_17 : decode cJ3_checkIndex_8e157 17 = .ok (.ireturn, 1) := by decide +kernel
set_option maxRecDepth 20000 in
theorem ggL_land_X2_land : GoodIn wsL_land wsX2_land := goodIn_ca (goodIn_ca (goodIn_ca (goodIn_r _ [8, 9, 10, 11, 12, 13, 14, 15, 16, 17, 7, 18, 19, 20, 21, 22, 23, 24, 25, 26, 27, 28, 29, 30, 31, 32, 33, 34, 35, 36, 37, 38, 39, 40, 41, 42, 43, 44, 45, 46, 47, 48, 49, 50, 51, 52, 53, 54, 55, 56, 57, 58, 59, 60, 61, 62, 63, 64, 65, 66, 67, 68, 69, 70, 71, 72, 73, 74, 75, 76, 77, 78, 79, 80, 81, 82, 83, 84, 85, 86, 87, 88, 89, 90, 91, 92, 93, 94, 95, 96, 97, 98, 99, 100, 101, 102, 103, 104, 105, 106, 107, 108, 109, 110, 111, 112, 113, 114, 115, 116, 117, 118, 119, 120, 121, 122, 123, 124, 125, 126, 127, 128, 129, 130, 131, 132, 133, 134, 135, 136, 137, 138, 139, 140, 141, 142, 143, 144, 145, 146, 147, 148, 149, 150, 151, 152, 153, 154, 155, 156, 157, 158, 159, 160, 161, 162, 163, 164, 165, 166, 167, 168, 169] (by decide +kernel) (by decide +kernel)) (goodIn_sub (fun _ h => List.mem_cons_of_mem _ (List.mem_append_left _ (List.mem_append_left _ (List.mem_append_right _ h)))) (by decide +kernel))) (goodIn_sub (fun _ h => List.mem_cons_of_mem _ (List.mem_append_left _ (List.mem_append_right _ h))) (by decide +kernel))) (goodIn_sub (fun _ h => List.mem_cons_of_mem _ (List.mem_append_right _ h)) (by decide +kernel))
set_option maxRecDepth 20000 in
theorem gL_land_X2_land : GoodIn wsL_land (wsV RL 7 RX2 yX2_land wsX2_land) := goodIn_app (goodIn_of _ (by decide +kernel)) ggL_land_X2_land
theorem dL_land_0 : decode cL_land 0 = .ok (.aload_n 3, 1) := by decide +kernel
theorem dL_land_1 : decode cL_land 1 = .ok (.iconst 0, 1) := by decide +kernel
theorem dL_land_2 : decode cL_land 2 = .ok (.aload_n 0, 1) := by decide +kernel
theorem dL_land_3 : decode cL_land 3 = .ok (.iload_n 1, 1) := by decide +kernel
theorem dL_land_4 : decode cL_land 4 = .ok (.iload_n 2, 1) := by decide +kernel
theorem dL_land_5 : decode cL_land 5 = .ok (.invokevirtual 7, 3) := by decide +kernel
theorem dL_land_8 : decode cL_land 8 = .ok (.i2l, 1) := by decide +kernel
theorem dL_land_9 : decode cL_land 9 = .ok (.lastore, 1) := by decide +kernel
theorem dL_land_10 : decode cL_land 10 = .ok (.goto 15, 3) := by decide +kernel
theorem dL_land_13 : decode cL_land 13 = .ok (.astore 4, 2) := by decide +kernel
theorem dL_land_15 : decode cL_land 15 = .ok (.iconst 1, 1) := by decide +kernel
theorem dL_land_16 : decode cL_land 16 = .ok (.ireturn, 1) := by decide +kernel
theorem dL_land_17 : decode cL_land 17 = .ok (.astore 4, 2) := by decide +kernel
theorem dL_land_19 : decode cL_land 19 = .ok (.iconst 2, 1) := by decide +kernel
theorem dL_land_20 : decode cL_land 20 = .ok (.ireturn, 1) := by decide +kernel
theorem dL_land_21 : decode cL_land 21 = .ok (.astore 4, 2) := by decide +kernel
theorem dL_land_23 : decode cL_land 23 = .ok (.iconst 3, 1) := by decide +kernel
theorem dL_land_24 : decode cL_land 24 = .ok (.ireturn, 1) := by decide +kernel
theorem dL_land_25 : decode cL_land 25 = .ok (.iconst 0, 1) := by decide +kernel
theorem dL_land_26 : decode cL_land 26 = .ok (.ireturn, 1) := by decide +kernel
set_option maxRecDepth 20000 in
theorem ggL_build_X2_build : GoodIn wsL_build wsX2_build := goodIn_ca (goodIn_ca (goodIn_ca (goodIn_r _ [8, 9, 10, 11, 12, 13, 14, 15, 16, 17, 18, 7, 19, 20, 21, 22, 23, 24, 25, 26, 27, 28, 29, 30, 31, 32, 33, 34, 35, 36, 37, 38, 39, 40, 41, 42, 43, 44, 45, 46, 47, 48, 49, 50, 51, 52, 53, 54, 55, 56, 57, 58, 59, 60, 61, 62, 63, 64, 65, 66, 67, 68, 69, 70, 71, 72, 73, 74, 75, 76, 77, 78, 79, 80, 81, 82, 83, 84, 85, 86, 87, 88, 89, 90, 91, 92, 93, 94, 95, 96, 97, 98, 99, 100, 101, 102, 103, 104, 105, 106, 107, 108, 109, 110, 111, 112, 113, 114, 115, 116, 117] (by decide +kernel) (by decide +kernel)) (goodIn_sub (fun _ h => List.mem_cons_of_mem _ (List.mem_append_left _ (List.mem_append_left _ (List.mem_append_right _ h)))) (by decide +kernel))) (goodIn_sub (fun _ h => List.mem_cons_of_mem _ (List.mem_append_left _ (List.mem_append_right _ h))) (by decide +kernel))) (goodIn_sub (fun _ h => List.mem_cons_of_mem _ (List.mem_append_right _ h)) (by decide +kernel))
set_option maxRecDepth 20000 in
theorem gL_build_X2_build : GoodIn wsL_build (wsV RL 19 RX2 yX2_build wsX2_build) := goodIn_app (goodIn_of _ (by decide +kernel)) ggL_build_X2_build
theorem dL_build_0 : decode cL_build 0 = .ok (.aload 5, 2) := by decide +kernel
theorem dL_build_2 : decode cL_build 2 = .ok (.iconst 0, 1) := by decide +kernel
theorem dL_build_3 : decode cL_build 3 = .ok (.aload_n 0, 1) := by decide +kernel
theorem dL_build_4 : decode cL_build 4 = .ok (.iload_n 1, 1) := by decide +kernel
theorem dL_build_5 : decode cL_build 5 = .ok (.iload_n 2, 1) := by decide +kernel
theorem dL_build_6 : decode cL_build 6 = .ok (.iload_n 3, 1) := by decide +kernel
theorem dL_build_7 : decode cL_build 7 = .ok (.iload 4, 2) := by decide +kernel
theorem dL_build_9 : decode cL_build 9 = .ok (.invokevirtual 19, 3) := by decide +kernel
theorem dL_build_12 : decode cL_build 12 = .ok (.i2l, 1) := by decide +kernel
theorem dL_build_13 : decode cL_build 13 = .ok (.lastore, 1) := by decide +kernel
theorem dL_build_14 : decode cL_build 14 = .ok (.goto 15, 3) := by decide +kernel
theorem dL_build_17 : decode cL_build 17 = .ok (.astore 6, 2) := by decide +kernel
theorem dL_build_19 : decode cL_build 19 = .ok (.iconst 1, 1) := by decide +kernel
theorem dL_build_20 : decode cL_build 20 = .ok (.ireturn, 1) := by decide +kernel
theorem dL_build_21 : decode cL_build 21 = .ok (.astore 6, 2) := by decide +kernel
theorem dL_build_23 : decode cL_build 23 = .ok (.iconst 2, 1) := by decide +kernel
theorem dL_build_24 : decode cL_build 24 = .ok (.ireturn, 1) := by decide +kernel
theorem dL_build_25 : decode cL_build 25 = .ok (.astore 6, 2) := by decide +kernel
theorem dL_build_27 : decode cL_build 27 = .ok (.iconst 3, 1) := by decide +kernel
theorem dL_build_28 : decode cL_build 28 = .ok (.ireturn, 1) := by decide +kernel
theorem dL_build_29 : decode cL_build 29 = .ok (.iconst 0, 1) := by decide +kernel
theorem dL_build_30 : decode cL_build 30 = .ok (.ireturn, 1) := by decide +kernel
set_option maxRecDepth 20000 in
theorem ggL_man_X2_man : GoodIn wsL_man wsX2_man := goodIn_ca (goodIn_ca (goodIn_r _ [7, 8, 9, 10, 11, 12, 13, 6, 14, 15, 16, 17, 18, 19, 20, 21, 22, 23, 24, 25, 26, 27, 28, 29, 30, 31, 32, 33, 34, 35, 36, 37, 38, 39, 40, 41, 42, 43, 44, 45, 46, 47, 48, 49, 50, 51, 52, 53, 54, 55, 56, 57, 58, 59, 60, 61, 62] (by decide +kernel) (by decide +kernel)) (goodIn_sub (fun _ h => List.mem_cons_of_mem _ (List.mem_append_left _ (List.mem_append_right _ h))) (by decide +kernel))) (goodIn_sub (fun _ h => List.mem_cons_of_mem _ (List.mem_append_right _ h)) (by decide +kernel))
set_option maxRecDepth 20000 in
theorem gL_man_X2_man : GoodIn wsL_man (wsV RL 23 RX2 yX2_man wsX2_man) := goodIn_app (goodIn_of _ (by decide +kernel)) ggL_man_X2_man
theorem dL_man_0 : decode cL_man 0 = .ok (.aload_n 3, 1) := by decide +kernel
theorem dL_man_1 : decode cL_man 1 = .ok (.iconst 0, 1) := by decide +kernel
theorem dL_man_2 : decode cL_man 2 = .ok (.aload_n 0, 1) := by decide +kernel
theorem dL_man_3 : decode cL_man 3 = .ok (.iload_n 1, 1) := by decide +kernel
theorem dL_man_4 : decode cL_man 4 = .ok (.iload_n 2, 1) := by decide +kernel
theorem dL_man_5 : decode cL_man 5 = .ok (.invokevirtual 23, 3) := by decide +kernel
theorem dL_man_8 : decode cL_man 8 = .ok (.i2l, 1) := by decide +kernel
theorem dL_man_9 : decode cL_man 9 = .ok (.lastore, 1) := by decide +kernel
theorem dL_man_10 : decode cL_man 10 = .ok (.goto 11, 3) := by decide +kernel
theorem dL_man_13 : decode cL_man 13 = .ok (.astore 4, 2) := by decide +kernel
theorem dL_man_15 : decode cL_man 15 = .ok (.iconst 1, 1) := by decide +kernel
theorem dL_man_16 : decode cL_man 16 = .ok (.ireturn, 1) := by decide +kernel
theorem dL_man_17 : decode cL_man 17 = .ok (.astore 4, 2) := by decide +kernel
theorem dL_man_19 : decode cL_man 19 = .ok (.iconst 2, 1) := by decide +kernel
theorem dL_man_20 : decode cL_man 20 = .ok (.ireturn, 1) := by decide +kernel
theorem dL_man_21 : decode cL_man 21 = .ok (.iconst 0, 1) := by decide +kernel
theorem dL_man_22 : decode cL_man 22 = .ok (.ireturn, 1) := by decide +kernel
set_option maxRecDepth 20000 in
theorem ggL_mend_X2_mend : GoodIn wsL_mend wsX2_mend := goodIn_ca (goodIn_r _ [6, 7, 8, 9, 10, 11, 12, 5, 13, 14, 15, 16, 17, 18, 19, 20, 21, 22, 23, 24, 25, 26, 27, 28, 29, 30, 31, 32, 33, 34, 35, 36, 37, 38, 39, 40, 41, 42, 43, 44, 45, 46, 47, 48, 49, 50, 51, 52, 53, 54, 55, 56] (by decide +kernel) (by decide +kernel)) (goodIn_sub (fun _ h => List.mem_cons_of_mem _ (List.mem_append_right _ h)) (by decide +kernel))
set_option maxRecDepth 20000 in
theorem gL_mend_X2_mend : GoodIn wsL_mend (wsV RL 26 RX2 yX2_mend wsX2_mend) := goodIn_app (goodIn_of _ (by decide +kernel)) ggL_mend_X2_mend
theorem dL_mend_0 : decode cL_mend 0 = .ok (.aload_n 2, 1) := by decide +kernel
theorem dL_mend_1 : decode cL_mend 1 = .ok (.iconst 0, 1) := by decide +kernel
theorem dL_mend_2 : decode cL_mend 2 = .ok (.aload_n 0, 1) := by decide +kernel
theorem dL_mend_3 : decode cL_mend 3 = .ok (.iload_n 1, 1) := by decide +kernel
theorem dL_mend_4 : decode cL_mend 4 = .ok (.invokevirtual 26, 3) := by decide +kernel
theorem dL_mend_7 : decode cL_mend 7 = .ok (.i2l, 1) := by decide +kernel
theorem dL_mend_8 : decode cL_mend 8 = .ok (.lastore, 1) := by decide +kernel
theorem dL_mend_9 : decode cL_mend 9 = .ok (.goto 6, 3) := by decide +kernel
theorem dL_mend_12 : decode cL_mend 12 = .ok (.astore_n 3, 1) := by decide +kernel
theorem dL_mend_13 : decode cL_mend 13 = .ok (.iconst 1, 1) := by decide +kernel
theorem dL_mend_14 : decode cL_mend 14 = .ok (.ireturn, 1) := by decide +kernel
theorem dL_mend_15 : decode cL_mend 15 = .ok (.iconst 0, 1) := by decide +kernel
theorem dL_mend_16 : decode cL_mend 16 = .ok (.ireturn, 1) := by decide +kernel
set_option maxRecDepth 20000 in
theorem ggL_turn_X2_turn : GoodIn wsL_turn wsX2_turn := goodIn_ca (goodIn_ca (goodIn_r _ [7, 8, 9, 10, 11, 12, 13, 14, 15, 16, 17, 6, 18, 19, 20, 21, 22, 23, 24, 25, 26, 27, 28, 29, 30, 31, 32, 33, 34, 35, 36, 37, 38, 39, 40, 41, 42, 43, 44, 45, 46, 47, 48, 49, 50, 51, 52, 53, 54, 55, 56, 57, 58, 59, 60, 61, 62, 63, 64, 65, 66, 67, 68, 69, 70, 71, 72, 73, 74, 75, 76, 77, 78, 79, 80, 81, 82, 83, 84, 85, 86, 87, 88, 89, 90, 91, 92, 93, 94, 95, 96, 97, 98, 99, 100, 101, 102, 103, 104, 105, 106, 107, 108, 109, 110, 111, 112, 113] (by decide +kernel) (by decide +kernel)) (goodIn_sub (fun _ h => List.mem_cons_of_mem _ (List.mem_append_left _ (List.mem_append_right _ h))) (by decide +kernel))) (goodIn_sub (fun _ h => List.mem_cons_of_mem _ (List.mem_append_right _ h)) (by decide +kernel))
set_option maxRecDepth 20000 in
theorem gL_turn_X2_turn : GoodIn wsL_turn (wsV RL 30 RX2 yX2_turn wsX2_turn) := goodIn_app (goodIn_of _ (by decide +kernel)) ggL_turn_X2_turn
theorem dL_turn_0 : decode cL_turn 0 = .ok (.aload_n 3, 1) := by decide +kernel
theorem dL_turn_1 : decode cL_turn 1 = .ok (.iconst 0, 1) := by decide +kernel
theorem dL_turn_2 : decode cL_turn 2 = .ok (.aload_n 0, 1) := by decide +kernel
theorem dL_turn_3 : decode cL_turn 3 = .ok (.iload_n 1, 1) := by decide +kernel
theorem dL_turn_4 : decode cL_turn 4 = .ok (.iload_n 2, 1) := by decide +kernel
theorem dL_turn_5 : decode cL_turn 5 = .ok (.invokevirtual 30, 3) := by decide +kernel
theorem dL_turn_8 : decode cL_turn 8 = .ok (.i2l, 1) := by decide +kernel
theorem dL_turn_9 : decode cL_turn 9 = .ok (.lastore, 1) := by decide +kernel
theorem dL_turn_10 : decode cL_turn 10 = .ok (.goto 11, 3) := by decide +kernel
theorem dL_turn_13 : decode cL_turn 13 = .ok (.astore 4, 2) := by decide +kernel
theorem dL_turn_15 : decode cL_turn 15 = .ok (.iconst 1, 1) := by decide +kernel
theorem dL_turn_16 : decode cL_turn 16 = .ok (.ireturn, 1) := by decide +kernel
theorem dL_turn_17 : decode cL_turn 17 = .ok (.astore 4, 2) := by decide +kernel
theorem dL_turn_19 : decode cL_turn 19 = .ok (.iconst 2, 1) := by decide +kernel
theorem dL_turn_20 : decode cL_turn 20 = .ok (.ireturn, 1) := by decide +kernel
theorem dL_turn_21 : decode cL_turn 21 = .ok (.iconst 0, 1) := by decide +kernel
theorem dL_turn_22 : decode cL_turn 22 = .ok (.ireturn, 1) := by decide +kernel
set_option maxRecDepth 20000 in
theorem ggL_hoist_X2_hoist : GoodIn wsL_hoist wsX2_hoist := goodIn_ca (goodIn_ca (goodIn_ca (goodIn_r _ [8, 9, 10, 11, 12, 13, 14, 15, 16, 17, 18, 19, 20, 21, 7, 22, 23, 24, 25, 26, 27, 28, 29, 30, 31, 32, 33, 34, 35, 36, 37, 38, 39, 40, 41, 42, 43, 44, 45, 46, 47, 48, 49, 50, 51, 52, 53, 54, 55, 56, 57, 58, 59, 60, 61, 62, 63, 64, 65, 66, 67, 68, 69, 70, 71, 72, 73, 74, 75, 76, 77, 78, 79, 80, 81, 82, 83, 84, 85, 86, 87, 88, 89, 90, 91, 92, 93, 94, 95, 96, 97, 98, 99, 100, 101, 102, 103, 104, 105, 106, 107, 108, 109, 110, 111, 112, 113, 114, 115, 116, 117, 118, 119, 120, 121, 122, 123, 124, 125, 126, 127] (by decide +kernel) (by decide +kernel)) (goodIn_sub (fun _ h => List.mem_cons_of_mem _ (List.mem_append_left _ (List.mem_append_left _ (List.mem_append_right _ h)))) (by decide +kernel))) (goodIn_sub (fun _ h => List.mem_cons_of_mem _ (List.mem_append_left _ (List.mem_append_right _ h))) (by decide +kernel))) (goodIn_sub (fun _ h => List.mem_cons_of_mem _ (List.mem_append_right _ h)) (by decide +kernel))
set_option maxRecDepth 20000 in
theorem gL_hoist_X2_hoist : GoodIn wsL_hoist (wsV RL 33 RX2 yX2_hoist wsX2_hoist) := goodIn_app (goodIn_of _ (by decide +kernel)) ggL_hoist_X2_hoist
theorem dL_hoist_0 : decode cL_hoist 0 = .ok (.aload_n 3, 1) := by decide +kernel
theorem dL_hoist_1 : decode cL_hoist 1 = .ok (.iconst 0, 1) := by decide +kernel
theorem dL_hoist_2 : decode cL_hoist 2 = .ok (.aload_n 0, 1) := by decide +kernel
theorem dL_hoist_3 : decode cL_hoist 3 = .ok (.iload_n 1, 1) := by decide +kernel
theorem dL_hoist_4 : decode cL_hoist 4 = .ok (.iload_n 2, 1) := by decide +kernel
theorem dL_hoist_5 : decode cL_hoist 5 = .ok (.invokevirtual 33, 3) := by decide +kernel
theorem dL_hoist_8 : decode cL_hoist 8 = .ok (.i2l, 1) := by decide +kernel
theorem dL_hoist_9 : decode cL_hoist 9 = .ok (.lastore, 1) := by decide +kernel
theorem dL_hoist_10 : decode cL_hoist 10 = .ok (.goto 15, 3) := by decide +kernel
theorem dL_hoist_13 : decode cL_hoist 13 = .ok (.astore 4, 2) := by decide +kernel
theorem dL_hoist_15 : decode cL_hoist 15 = .ok (.iconst 1, 1) := by decide +kernel
theorem dL_hoist_16 : decode cL_hoist 16 = .ok (.ireturn, 1) := by decide +kernel
theorem dL_hoist_17 : decode cL_hoist 17 = .ok (.astore 4, 2) := by decide +kernel
theorem dL_hoist_19 : decode cL_hoist 19 = .ok (.iconst 2, 1) := by decide +kernel
theorem dL_hoist_20 : decode cL_hoist 20 = .ok (.ireturn, 1) := by decide +kernel
theorem dL_hoist_21 : decode cL_hoist 21 = .ok (.astore 4, 2) := by decide +kernel
theorem dL_hoist_23 : decode cL_hoist 23 = .ok (.iconst 3, 1) := by decide +kernel
theorem dL_hoist_24 : decode cL_hoist 24 = .ok (.ireturn, 1) := by decide +kernel
theorem dL_hoist_25 : decode cL_hoist 25 = .ok (.iconst 0, 1) := by decide +kernel
theorem dL_hoist_26 : decode cL_hoist 26 = .ok (.ireturn, 1) := by decide +kernel
set_option maxRecDepth 20000 in
theorem ggL_take_X2_take : GoodIn wsL_take wsX2_take := goodIn_ca (goodIn_ca (goodIn_r _ [7, 8, 9, 10, 11, 12, 13, 14, 15, 16, 17, 18, 19, 6, 20, 21, 22, 23, 24, 25, 26, 27, 28, 29, 30, 31, 32, 33, 34, 35, 36, 37, 38, 39, 40, 41, 42, 43, 44, 45, 46, 47, 48, 49, 50, 51, 52, 53, 54, 55, 56, 57, 58, 59, 60, 61, 62, 63, 64, 65, 66, 67, 68, 69, 70, 71, 72, 73, 74, 75, 76, 77, 78, 79, 80, 81, 82, 83, 84, 85, 86, 87, 88, 89] (by decide +kernel) (by decide +kernel)) (goodIn_sub (fun _ h => List.mem_cons_of_mem _ (List.mem_append_left _ (List.mem_append_right _ h))) (by decide +kernel))) (goodIn_sub (fun _ h => List.mem_cons_of_mem _ (List.mem_append_right _ h)) (by decide +kernel))
set_option maxRecDepth 20000 in
theorem gL_take_X2_take : GoodIn wsL_take (wsV RL 36 RX2 yX2_take wsX2_take) := goodIn_app (goodIn_of _ (by decide +kernel)) ggL_take_X2_take
theorem dL_take_0 : decode cL_take 0 = .ok (.aload_n 2, 1) := by decide +kernel
theorem dL_take_1 : decode cL_take 1 = .ok (.iconst 0, 1) := by decide +kernel
theorem dL_take_2 : decode cL_take 2 = .ok (.aload_n 0, 1) := by decide +kernel
theorem dL_take_3 : decode cL_take 3 = .ok (.iload_n 1, 1) := by decide +kernel
theorem dL_take_4 : decode cL_take 4 = .ok (.invokevirtual 36, 3) := by decide +kernel
theorem dL_take_7 : decode cL_take 7 = .ok (.i2l, 1) := by decide +kernel
theorem dL_take_8 : decode cL_take 8 = .ok (.lastore, 1) := by decide +kernel
theorem dL_take_9 : decode cL_take 9 = .ok (.goto 9, 3) := by decide +kernel
theorem dL_take_12 : decode cL_take 12 = .ok (.astore_n 3, 1) := by decide +kernel
theorem dL_take_13 : decode cL_take 13 = .ok (.iconst 1, 1) := by decide +kernel
theorem dL_take_14 : decode cL_take 14 = .ok (.ireturn, 1) := by decide +kernel
theorem dL_take_15 : decode cL_take 15 = .ok (.astore_n 3, 1) := by decide +kernel
theorem dL_take_16 : decode cL_take 16 = .ok (.iconst 2, 1) := by decide +kernel
theorem dL_take_17 : decode cL_take 17 = .ok (.ireturn, 1) := by decide +kernel
theorem dL_take_18 : decode cL_take 18 = .ok (.iconst 0, 1) := by decide +kernel
theorem dL_take_19 : decode cL_take 19 = .ok (.ireturn, 1) := by decide +kernel
set_option maxRecDepth 20000 in
theorem ggL_lay_X2_lay : GoodIn wsL_lay wsX2_lay := goodIn_ca (goodIn_ca (goodIn_r _ [7, 8, 9, 10, 11, 12, 13, 14, 15, 16, 17, 18, 6, 19, 20, 21, 22, 23, 24, 25, 26, 27, 28, 29, 30, 31, 32, 33, 34, 35, 36, 37, 38, 39, 40, 41, 42, 43, 44, 45, 46, 47, 48, 49, 50, 51, 52, 53, 54, 55, 56, 57, 58, 59, 60, 61, 62, 63, 64, 65, 66, 67, 68, 69, 70, 71, 72, 73, 74, 75, 76, 77, 78, 79, 80, 81, 82, 83, 84, 85, 86, 87, 88, 89, 90, 91, 92, 93, 94, 95, 96, 97, 98] (by decide +kernel) (by decide +kernel)) (goodIn_sub (fun _ h => List.mem_cons_of_mem _ (List.mem_append_left _ (List.mem_append_right _ h))) (by decide +kernel))) (goodIn_sub (fun _ h => List.mem_cons_of_mem _ (List.mem_append_right _ h)) (by decide +kernel))
set_option maxRecDepth 20000 in
theorem gL_lay_X2_lay : GoodIn wsL_lay (wsV RL 39 RX2 yX2_lay wsX2_lay) := goodIn_app (goodIn_of _ (by decide +kernel)) ggL_lay_X2_lay
theorem dL_lay_0 : decode cL_lay 0 = .ok (.aload_n 2, 1) := by decide +kernel
theorem dL_lay_1 : decode cL_lay 1 = .ok (.iconst 0, 1) := by decide +kernel
theorem dL_lay_2 : decode cL_lay 2 = .ok (.aload_n 0, 1) := by decide +kernel
theorem dL_lay_3 : decode cL_lay 3 = .ok (.iload_n 1, 1) := by decide +kernel
theorem dL_lay_4 : decode cL_lay 4 = .ok (.invokevirtual 39, 3) := by decide +kernel
theorem dL_lay_7 : decode cL_lay 7 = .ok (.i2l, 1) := by decide +kernel
theorem dL_lay_8 : decode cL_lay 8 = .ok (.lastore, 1) := by decide +kernel
theorem dL_lay_9 : decode cL_lay 9 = .ok (.goto 9, 3) := by decide +kernel
theorem dL_lay_12 : decode cL_lay 12 = .ok (.astore_n 3, 1) := by decide +kernel
theorem dL_lay_13 : decode cL_lay 13 = .ok (.iconst 1, 1) := by decide +kernel
theorem dL_lay_14 : decode cL_lay 14 = .ok (.ireturn, 1) := by decide +kernel
theorem dL_lay_15 : decode cL_lay 15 = .ok (.astore_n 3, 1) := by decide +kernel
theorem dL_lay_16 : decode cL_lay 16 = .ok (.iconst 2, 1) := by decide +kernel
theorem dL_lay_17 : decode cL_lay 17 = .ok (.ireturn, 1) := by decide +kernel
theorem dL_lay_18 : decode cL_lay 18 = .ok (.iconst 0, 1) := by decide +kernel
theorem dL_lay_19 : decode cL_lay 19 = .ok (.ireturn, 1) := by decide +kernel
set_option maxRecDepth 20000 in
theorem ggL_place_X2_place : GoodIn wsL_place wsX2_place := goodIn_ca (goodIn_r _ [6, 7, 8, 5, 9, 10, 11, 12, 13, 14, 15, 16, 17, 18, 19, 20, 21, 22, 23, 24, 25, 26, 27, 28, 29, 30, 31, 32, 33, 34, 35, 36, 37, 38, 39, 40, 41, 42, 43, 44, 45, 46, 47, 48, 49, 50, 51, 52, 53, 54, 55, 56, 57, 58, 59, 60, 61, 62, 63, 64, 65, 66, 67, 68, 69, 70, 71, 72, 73, 74, 75, 76, 77, 78, 79, 80, 81, 82, 83, 84, 85, 86, 87, 88, 89, 90, 91, 92, 93, 94, 95, 96] (by decide +kernel) (by decide +kernel)) (goodIn_sub (fun _ h => List.mem_cons_of_mem _ (List.mem_append_right _ h)) (by decide +kernel))
set_option maxRecDepth 20000 in
theorem gL_place_X2_place : GoodIn wsL_place (wsV RL 42 RX2 yX2_place wsX2_place) := goodIn_app (goodIn_of _ (by decide +kernel)) ggL_place_X2_place
theorem dL_place_0 : decode cL_place 0 = .ok (.aload_n 3, 1) := by decide +kernel
theorem dL_place_1 : decode cL_place 1 = .ok (.iconst 0, 1) := by decide +kernel
theorem dL_place_2 : decode cL_place 2 = .ok (.aload_n 0, 1) := by decide +kernel
theorem dL_place_3 : decode cL_place 3 = .ok (.iload_n 1, 1) := by decide +kernel
theorem dL_place_4 : decode cL_place 4 = .ok (.iload_n 2, 1) := by decide +kernel
theorem dL_place_5 : decode cL_place 5 = .ok (.invokevirtual 42, 3) := by decide +kernel
theorem dL_place_8 : decode cL_place 8 = .ok (.i2l, 1) := by decide +kernel
theorem dL_place_9 : decode cL_place 9 = .ok (.lastore, 1) := by decide +kernel
theorem dL_place_10 : decode cL_place 10 = .ok (.goto 7, 3) := by decide +kernel
theorem dL_place_13 : decode cL_place 13 = .ok (.astore 4, 2) := by decide +kernel
theorem dL_place_15 : decode cL_place 15 = .ok (.iconst 1, 1) := by decide +kernel
theorem dL_place_16 : decode cL_place 16 = .ok (.ireturn, 1) := by decide +kernel
theorem dL_place_17 : decode cL_place 17 = .ok (.iconst 0, 1) := by decide +kernel
theorem dL_place_18 : decode cL_place 18 = .ok (.ireturn, 1) := by decide +kernel
set_option maxRecDepth 20000 in
theorem ggL_barrel_X2_barrel : GoodIn wsL_barrel wsX2_barrel := goodIn_ca (goodIn_r _ [6, 7, 8, 9, 10, 11, 12, 13, 14, 15, 16, 17, 18, 5, 19, 20, 21, 22, 23, 24, 25, 26, 27, 28, 29, 30, 31, 32, 33, 34, 35, 36, 37, 38, 39, 40, 41, 42, 43, 44, 45, 46, 47, 48, 49, 50, 51, 52, 53, 54, 55, 56, 57, 58, 59, 60, 61, 62, 63, 64, 65, 66, 67, 68, 69, 70, 71, 72, 73, 74] (by decide +kernel) (by decide +kernel)) (goodIn_sub (fun _ h => List.mem_cons_of_mem _ (List.mem_append_right _ h)) (by decide +kernel))
set_option maxRecDepth 20000 in
theorem gL_barrel_X2_barrel : GoodIn wsL_barrel (wsV RL 45 RX2 yX2_barrel wsX2_barrel) := goodIn_app (goodIn_of _ (by decide +kernel)) ggL_barrel_X2_barrel
theorem dL_barrel_0 : decode cL_barrel 0 = .ok (.aload_n 3, 1) := by decide +kernel
theorem dL_barrel_1 : decode cL_barrel 1 = .ok (.iconst 0, 1) := by decide +kernel
theorem dL_barrel_2 : decode cL_barrel 2 = .ok (.aload_n 0, 1) := by decide +kernel
theorem dL_barrel_3 : decode cL_barrel 3 = .ok (.iload_n 1, 1) := by decide +kernel
theorem dL_barrel_4 : decode cL_barrel 4 = .ok (.iload_n 2, 1) := by decide +kernel
theorem dL_barrel_5 : decode cL_barrel 5 = .ok (.invokevirtual 45, 3) := by decide +kernel
theorem dL_barrel_8 : decode cL_barrel 8 = .ok (.i2l, 1) := by decide +kernel
theorem dL_barrel_9 : decode cL_barrel 9 = .ok (.lastore, 1) := by decide +kernel
theorem dL_barrel_10 : decode cL_barrel 10 = .ok (.goto 7, 3) := by decide +kernel
theorem dL_barrel_13 : decode cL_barrel 13 = .ok (.astore 4, 2) := by decide +kernel
theorem dL_barrel_15 : decode cL_barrel 15 = .ok (.iconst 1, 1) := by decide +kernel
theorem dL_barrel_16 : decode cL_barrel 16 = .ok (.ireturn, 1) := by decide +kernel
theorem dL_barrel_17 : decode cL_barrel 17 = .ok (.iconst 0, 1) := by decide +kernel
theorem dL_barrel_18 : decode cL_barrel 18 = .ok (.ireturn, 1) := by decide +kernel
set_option maxRecDepth 20000 in
theorem ggL_crane_X2_crane : GoodIn wsL_crane wsX2_crane := goodIn_ca (goodIn_r _ [6, 7, 8, 9, 10, 11, 5, 12, 13, 14, 15, 16, 17, 18, 19, 20, 21, 22, 23, 24, 25, 26, 27, 28, 29, 30, 31, 32, 33, 34, 35, 36, 37, 38, 39, 40, 41, 42, 43, 44, 45, 46, 47, 48, 49, 50, 51, 52, 53, 54, 55, 56, 57, 58, 59, 60, 61, 62, 63, 64, 65, 66, 67, 68, 69, 70, 71, 72, 73, 74, 75, 76, 77, 78, 79, 80, 81, 82, 83, 84, 85, 86, 87] (by decide +kernel) (by decide +kernel)) (goodIn_sub (fun _ h => List.mem_cons_of_mem _ (List.mem_append_right _ h)) (by decide +kernel))
set_option maxRecDepth 20000 in
theorem gL_crane_X2_crane : GoodIn wsL_crane (wsV RL 48 RX2 yX2_crane wsX2_crane) := goodIn_app (goodIn_of _ (by decide +kernel)) ggL_crane_X2_crane
theorem dL_crane_0 : decode cL_crane 0 = .ok (.aload_n 3, 1) := by decide +kernel
theorem dL_crane_1 : decode cL_crane 1 = .ok (.iconst 0, 1) := by decide +kernel
theorem dL_crane_2 : decode cL_crane 2 = .ok (.aload_n 0, 1) := by decide +kernel
theorem dL_crane_3 : decode cL_crane 3 = .ok (.iload_n 1, 1) := by decide +kernel
theorem dL_crane_4 : decode cL_crane 4 = .ok (.iload_n 2, 1) := by decide +kernel
theorem dL_crane_5 : decode cL_crane 5 = .ok (.invokevirtual 48, 3) := by decide +kernel
theorem dL_crane_8 : decode cL_crane 8 = .ok (.i2l, 1) := by decide +kernel
theorem dL_crane_9 : decode cL_crane 9 = .ok (.lastore, 1) := by decide +kernel
theorem dL_crane_10 : decode cL_crane 10 = .ok (.goto 7, 3) := by decide +kernel
theorem dL_crane_13 : decode cL_crane 13 = .ok (.astore 4, 2) := by decide +kernel
theorem dL_crane_15 : decode cL_crane 15 = .ok (.iconst 1, 1) := by decide +kernel
theorem dL_crane_16 : decode cL_crane 16 = .ok (.ireturn, 1) := by decide +kernel
theorem dL_crane_17 : decode cL_crane 17 = .ok (.iconst 0, 1) := by decide +kernel
theorem dL_crane_18 : decode cL_crane 18 = .ok (.ireturn, 1) := by decide +kernel
set_option maxRecDepth 20000 in
theorem ggL_count_X2_count : GoodIn wsL_count wsX2_count := goodIn_ca (goodIn_r _ [6, 7, 8, 5, 9, 10, 11, 12, 13, 14, 15, 16, 17, 18, 19, 20, 21, 22, 23, 24, 25, 26, 27, 28, 29, 30, 31, 32, 33, 34, 35, 36, 37, 38, 39, 40, 41, 42, 43, 44, 45, 46, 47, 48, 49, 50, 51, 52, 53, 54, 55, 56, 57, 58, 59, 60, 61, 62, 63, 64, 65, 66, 67, 68, 69, 70, 71, 72, 73, 74, 75, 76, 77, 78, 79, 80, 81, 82, 83, 84, 85, 86, 87, 88, 89, 90, 91, 92, 93, 94, 95, 96, 97, 98, 99, 100] (by decide +kernel) (by decide +kernel)) (goodIn_sub (fun _ h => List.mem_cons_of_mem _ (List.mem_append_right _ h)) (by decide +kernel))
set_option maxRecDepth 20000 in
theorem gL_count_X2_count : GoodIn wsL_count (wsV RL 51 RX2 yX2_count wsX2_count) := goodIn_app (goodIn_of _ (by decide +kernel)) ggL_count_X2_count
theorem dL_count_0 : decode cL_count 0 = .ok (.aload_n 2, 1) := by decide +kernel
theorem dL_count_1 : decode cL_count 1 = .ok (.iconst 0, 1) := by decide +kernel
theorem dL_count_2 : decode cL_count 2 = .ok (.aload_n 0, 1) := by decide +kernel
theorem dL_count_3 : decode cL_count 3 = .ok (.iload_n 1, 1) := by decide +kernel
theorem dL_count_4 : decode cL_count 4 = .ok (.invokevirtual 51, 3) := by decide +kernel
theorem dL_count_7 : decode cL_count 7 = .ok (.i2l, 1) := by decide +kernel
theorem dL_count_8 : decode cL_count 8 = .ok (.lastore, 1) := by decide +kernel
theorem dL_count_9 : decode cL_count 9 = .ok (.goto 6, 3) := by decide +kernel
theorem dL_count_12 : decode cL_count 12 = .ok (.astore_n 3, 1) := by decide +kernel
theorem dL_count_13 : decode cL_count 13 = .ok (.iconst 1, 1) := by decide +kernel
theorem dL_count_14 : decode cL_count 14 = .ok (.ireturn, 1) := by decide +kernel
theorem dL_count_15 : decode cL_count 15 = .ok (.iconst 0, 1) := by decide +kernel
theorem dL_count_16 : decode cL_count 16 = .ok (.ireturn, 1) := by decide +kernel
set_option maxRecDepth 20000 in
theorem ggL_move_X2_move : GoodIn wsL_move wsX2_move := goodIn_ca (goodIn_r _ [6, 7, 8, 9, 10, 11, 5, 12, 13, 14, 15, 16, 17, 18, 19, 20, 21, 22, 23, 24, 25, 26, 27, 28, 29, 30, 31, 32, 33, 34, 35, 36, 37, 38, 39, 40, 41, 42, 43, 44, 45, 46, 47, 48, 49, 50, 51, 52, 53, 54, 55, 56, 57, 58, 59, 60, 61, 62, 63, 64, 65, 66, 67, 68, 69, 70, 71, 72, 73, 74, 75, 76, 77, 78, 79, 80, 81, 82, 83, 84, 85, 86, 87, 88, 89, 90, 91, 92, 93, 94, 95, 96, 97, 98, 99, 100, 101, 102, 103, 104, 105, 106, 107, 108, 109, 110, 111, 112, 113, 114, 115, 116, 117, 118, 119, 120, 121, 122, 123, 124, 125, 126, 127, 128, 129, 130, 131, 132, 133, 134, 135] (by decide +kernel) (by decide +kernel)) (goodIn_sub (fun _ h => List.mem_cons_of_mem _ (List.mem_append_right _ h)) (by decide +kernel))
set_option maxRecDepth 20000 in
theorem gL_move_X2_move : GoodIn wsL_move (wsV RL 54 RX2 yX2_move wsX2_move) := goodIn_app (goodIn_of _ (by decide +kernel)) ggL_move_X2_move
theorem dL_move_0 : decode cL_move 0 = .ok (.aload 4, 2) := by decide +kernel
theorem dL_move_2 : decode cL_move 2 = .ok (.iconst 0, 1) := by decide +kernel
theorem dL_move_3 : decode cL_move 3 = .ok (.aload_n 0, 1) := by decide +kernel
theorem dL_move_4 : decode cL_move 4 = .ok (.iload_n 1, 1) := by decide +kernel
theorem dL_move_5 : decode cL_move 5 = .ok (.iload_n 2, 1) := by decide +kernel
theorem dL_move_6 : decode cL_move 6 = .ok (.iload_n 3, 1) := by decide +kernel
theorem dL_move_7 : decode cL_move 7 = .ok (.invokevirtual 54, 3) := by decide +kernel
theorem dL_move_10 : decode cL_move 10 = .ok (.i2l, 1) := by decide +kernel
theorem dL_move_11 : decode cL_move 11 = .ok (.lastore, 1) := by decide +kernel
theorem dL_move_12 : decode cL_move 12 = .ok (.goto 7, 3) := by decide +kernel
theorem dL_move_15 : decode cL_move 15 = .ok (.astore 5, 2) := by decide +kernel
theorem dL_move_17 : decode cL_move 17 = .ok (.iconst 1, 1) := by decide +kernel
theorem dL_move_18 : decode cL_move 18 = .ok (.ireturn, 1) := by decide +kernel
theorem dL_move_19 : decode cL_move 19 = .ok (.iconst 0, 1) := by decide +kernel
theorem dL_move_20 : decode cL_move 20 = .ok (.ireturn, 1) := by decide +kernel
set_option maxRecDepth 20000 in
theorem ggL_best_X2_best : GoodIn wsL_best wsX2_best := goodIn_ca (goodIn_r _ [6, 7, 8, 9, 10, 5, 11, 12, 13, 14, 15, 16, 17, 18, 19, 20, 21, 22, 23, 24, 25, 26, 27, 28, 29, 30, 31, 32, 33, 34, 35, 36, 37, 38, 39, 40, 41, 42, 43, 44, 45, 46, 47, 48, 49, 50, 51, 52, 53, 54, 55, 56, 57, 58, 59, 60, 61, 62, 63, 64, 65, 66, 67, 68, 69, 70, 71, 72, 73, 74, 75, 76, 77, 78, 79, 80, 81, 82, 83, 84, 85, 86, 87, 88, 89, 90, 91, 92, 93, 94, 95, 96, 97, 98, 99, 100, 101, 102, 103, 104, 105, 106, 107, 108, 109, 110, 111, 112, 113, 114, 115, 116, 117, 118, 119, 120, 121, 122, 123, 124, 125, 126, 127, 128, 129, 130, 131] (by decide +kernel) (by decide +kernel)) (goodIn_sub (fun _ h => List.mem_cons_of_mem _ (List.mem_append_right _ h)) (by decide +kernel))
set_option maxRecDepth 20000 in
theorem gL_best_X2_best : GoodIn wsL_best (wsV RL 58 RX2 yX2_best wsX2_best) := goodIn_app (goodIn_of _ (by decide +kernel)) ggL_best_X2_best
theorem dL_best_0 : decode cL_best 0 = .ok (.aload_n 3, 1) := by decide +kernel
theorem dL_best_1 : decode cL_best 1 = .ok (.iconst 0, 1) := by decide +kernel
theorem dL_best_2 : decode cL_best 2 = .ok (.aload_n 0, 1) := by decide +kernel
theorem dL_best_3 : decode cL_best 3 = .ok (.iload_n 1, 1) := by decide +kernel
theorem dL_best_4 : decode cL_best 4 = .ok (.iload_n 2, 1) := by decide +kernel
theorem dL_best_5 : decode cL_best 5 = .ok (.invokevirtual 58, 3) := by decide +kernel
theorem dL_best_8 : decode cL_best 8 = .ok (.i2l, 1) := by decide +kernel
theorem dL_best_9 : decode cL_best 9 = .ok (.lastore, 1) := by decide +kernel
theorem dL_best_10 : decode cL_best 10 = .ok (.goto 7, 3) := by decide +kernel
theorem dL_best_13 : decode cL_best 13 = .ok (.astore 4, 2) := by decide +kernel
theorem dL_best_15 : decode cL_best 15 = .ok (.iconst 1, 1) := by decide +kernel
theorem dL_best_16 : decode cL_best 16 = .ok (.ireturn, 1) := by decide +kernel
theorem dL_best_17 : decode cL_best 17 = .ok (.iconst 0, 1) := by decide +kernel
theorem dL_best_18 : decode cL_best 18 = .ok (.ireturn, 1) := by decide +kernel
set_option maxRecDepth 20000 in
theorem ggL_lasts_X2_lasts : GoodIn wsL_lasts wsX2_lasts := goodIn_ca (goodIn_ca (goodIn_r _ [7, 8, 9, 10, 11, 12, 13, 6, 14, 15, 16, 17, 18, 19, 20, 21, 22, 23, 24, 25, 26, 27, 28, 29, 30, 31, 32, 33, 34, 35, 36, 37, 38, 39, 40, 41, 42, 43, 44, 45, 46, 47, 48, 49, 50, 51, 52, 53, 54, 55, 56, 57, 58, 59, 60, 61, 62, 63, 64, 65] (by decide +kernel) (by decide +kernel)) (goodIn_sub (fun _ h => List.mem_cons_of_mem _ (List.mem_append_left _ (List.mem_append_right _ h))) (by decide +kernel))) (goodIn_sub (fun _ h => List.mem_cons_of_mem _ (List.mem_append_right _ h)) (by decide +kernel))
set_option maxRecDepth 20000 in
theorem gL_lasts_X2_lasts : GoodIn wsL_lasts (wsV RL 61 RX2 yX2_lasts wsX2_lasts) := goodIn_app (goodIn_of _ (by decide +kernel)) ggL_lasts_X2_lasts
theorem dL_lasts_0 : decode cL_lasts 0 = .ok (.aload_n 3, 1) := by decide +kernel
theorem dL_lasts_1 : decode cL_lasts 1 = .ok (.iconst 0, 1) := by decide +kernel
theorem dL_lasts_2 : decode cL_lasts 2 = .ok (.aload_n 0, 1) := by decide +kernel
theorem dL_lasts_3 : decode cL_lasts 3 = .ok (.iload_n 1, 1) := by decide +kernel
theorem dL_lasts_4 : decode cL_lasts 4 = .ok (.iload_n 2, 1) := by decide +kernel
theorem dL_lasts_5 : decode cL_lasts 5 = .ok (.invokevirtual 61, 3) := by decide +kernel
theorem dL_lasts_8 : decode cL_lasts 8 = .ok (.i2l, 1) := by decide +kernel
theorem dL_lasts_9 : decode cL_lasts 9 = .ok (.lastore, 1) := by decide +kernel
theorem dL_lasts_10 : decode cL_lasts 10 = .ok (.goto 11, 3) := by decide +kernel
theorem dL_lasts_13 : decode cL_lasts 13 = .ok (.astore 4, 2) := by decide +kernel
theorem dL_lasts_15 : decode cL_lasts 15 = .ok (.iconst 1, 1) := by decide +kernel
theorem dL_lasts_16 : decode cL_lasts 16 = .ok (.ireturn, 1) := by decide +kernel
theorem dL_lasts_17 : decode cL_lasts 17 = .ok (.astore 4, 2) := by decide +kernel
theorem dL_lasts_19 : decode cL_lasts 19 = .ok (.iconst 2, 1) := by decide +kernel
theorem dL_lasts_20 : decode cL_lasts 20 = .ok (.ireturn, 1) := by decide +kernel
theorem dL_lasts_21 : decode cL_lasts 21 = .ok (.iconst 0, 1) := by decide +kernel
theorem dL_lasts_22 : decode cL_lasts 22 = .ok (.ireturn, 1) := by decide +kernel
set_option maxRecDepth 20000 in
theorem ggL_within_X2_within : GoodIn wsL_within wsX2_within := goodIn_ca (goodIn_r _ [6, 7, 8, 9, 10, 11, 12, 13, 14, 15, 5, 16, 17, 18, 19, 20, 21, 22, 23, 24, 25, 26, 27, 28, 29, 30, 31, 32, 33, 34, 35, 36, 37, 38, 39, 40, 41, 42, 43, 44, 45, 46, 47, 48, 49, 50, 51, 52, 53, 54, 55, 56, 57, 58, 59, 60, 61, 62, 63, 64, 65, 66, 67, 68, 69, 70, 71, 72, 73, 74, 75, 76, 77, 78, 79, 80, 81, 82, 83, 84, 85, 86, 87, 88, 89] (by decide +kernel) (by decide +kernel)) (goodIn_sub (fun _ h => List.mem_cons_of_mem _ (List.mem_append_right _ h)) (by decide +kernel))
set_option maxRecDepth 20000 in
theorem gL_within_X2_within : GoodIn wsL_within (wsV RL 64 RX2 yX2_within wsX2_within) := goodIn_app (goodIn_of _ (by decide +kernel)) ggL_within_X2_within
theorem dL_within_0 : decode cL_within 0 = .ok (.aload_n 2, 1) := by decide +kernel
theorem dL_within_1 : decode cL_within 1 = .ok (.iconst 0, 1) := by decide +kernel
theorem dL_within_2 : decode cL_within 2 = .ok (.aload_n 0, 1) := by decide +kernel
theorem dL_within_3 : decode cL_within 3 = .ok (.iload_n 1, 1) := by decide +kernel
theorem dL_within_4 : decode cL_within 4 = .ok (.invokevirtual 64, 3) := by decide +kernel
theorem dL_within_7 : decode cL_within 7 = .ok (.i2l, 1) := by decide +kernel
theorem dL_within_8 : decode cL_within 8 = .ok (.lastore, 1) := by decide +kernel
theorem dL_within_9 : decode cL_within 9 = .ok (.goto 6, 3) := by decide +kernel
theorem dL_within_12 : decode cL_within 12 = .ok (.astore_n 3, 1) := by decide +kernel
theorem dL_within_13 : decode cL_within 13 = .ok (.iconst 1, 1) := by decide +kernel
theorem dL_within_14 : decode cL_within 14 = .ok (.ireturn, 1) := by decide +kernel
theorem dL_within_15 : decode cL_within 15 = .ok (.iconst 0, 1) := by decide +kernel
theorem dL_within_16 : decode cL_within 16 = .ok (.ireturn, 1) := by decide +kernel
set_option maxRecDepth 20000 in
theorem ggL_law_X2_init : GoodIn wsL_law wsX2_init := goodIn_r _ [9, 10, 11, 12, 13, 14, 15, 16, 17, 18, 19, 20, 21, 22, 23, 24, 25, 26, 27, 28, 29, 30, 31, 32, 33, 34, 597, 598, 599, 600, 616, 617, 618] (by decide +kernel) (by decide +kernel)
set_option maxRecDepth 20000 in
theorem gL_law_X2_init : GoodIn wsL_law (wsX2_init) := ggL_law_X2_init
set_option maxRecDepth 20000 in
theorem ggL_law_X3_init : GoodIn wsL_law wsX3_init := goodIn_r _ [37, 38, 11, 12, 39, 40, 41, 42, 43, 44, 45, 46, 47, 48, 49, 50, 601, 602, 603, 604, 605, 606, 607, 608, 609, 610, 611, 612, 613, 614, 615] (by decide +kernel) (by decide +kernel)
set_option maxRecDepth 20000 in
theorem gL_law_X3_init : GoodIn wsL_law (wsX3_init) := ggL_law_X3_init
set_option maxRecDepth 20000 in
theorem ggL_law_L_land : GoodIn wsL_law wsL_land := goodIn_ca (goodIn_ca (goodIn_ca (goodIn_r _ [54, 55, 56, 57, 58, 59, 60, 2, 61, 62, 63, 18, 13, 64, 65, 66, 67, 68, 69, 70, 71, 72, 73, 74, 75, 76, 77, 78, 79, 80, 81, 82, 83, 84, 85, 17, 86, 87, 88, 89, 90, 91, 92, 93, 94, 95, 96, 14, 97, 98, 99, 100, 19, 101, 102, 103, 104, 105, 106, 107, 108, 109, 110, 111, 112, 113, 114, 115, 116, 117, 118, 119, 24, 120, 121, 122, 123, 124, 125, 126, 127, 128, 129, 11, 12, 130, 131, 132, 133, 134, 135, 136, 137, 138, 139, 140, 141, 142, 143, 144, 145, 146, 147, 148, 149, 150, 151, 23, 152, 153, 154, 155, 156, 157, 158, 159, 160, 161, 162, 163, 164, 165, 166, 167, 168, 169, 170, 171, 172, 173, 174, 175, 176, 177, 178, 179, 180, 181, 182, 183, 184, 185, 186, 187, 188, 189, 190, 191, 597, 598, 599, 600, 619, 620, 621, 622, 623, 624, 625, 616, 617, 618, 626, 627, 628, 629, 630, 631, 632, 633] (by decide +kernel) (by decide +kernel)) (goodIn_sub (fun _ h => List.mem_append_left _ (List.mem_append_left _ (List.mem_append_right _ h))) (by decide +kernel))) (goodIn_sub (fun _ h => List.mem_append_left _ (List.mem_append_right _ h)) (by decide +kernel))) (goodIn_sub (fun _ h => List.mem_append_right _ h) (by decide +kernel))
set_option maxRecDepth 20000 in
theorem gL_law_L_land : GoodIn wsL_law (va_wsS RL 71 yL_land wsL_land) := goodIn_app (goodIn_of _ (by decide +kernel)) ggL_law_L_land
set_option maxRecDepth 20000 in
theorem ggL_law_X3_land : GoodIn wsL_law wsX3_land := goodIn_r _ [195, 196, 197, 40, 41, 42, 198, 199, 5, 200, 201, 202, 203, 204, 205, 206, 207, 208, 209, 210, 211, 212, 213, 214, 215, 216, 48, 49, 217, 218, 219, 220, 50, 601, 602, 603, 604, 605, 606, 607, 608, 609, 610, 611, 612, 613, 614, 615] (by decide +kernel) (by decide +kernel)
set_option maxRecDepth 20000 in
theorem gL_law_X3_land : GoodIn wsL_law (wsV RL 76 RX3 yX3_land wsX3_land) := goodIn_app (goodIn_of _ (by decide +kernel)) ggL_law_X3_land
set_option maxRecDepth 20000 in
theorem ggL_law_X3_thrown : GoodIn wsL_law wsX3_thrown := goodIn_r _ [224, 196, 601, 602, 603, 604, 605, 606, 607, 608, 609, 610, 611, 612, 613, 614, 615] (by decide +kernel) (by decide +kernel)
set_option maxRecDepth 20000 in
theorem gL_law_X3_thrown : GoodIn wsL_law (wsV RL 77 RX3 yX3_thrown wsX3_thrown) := goodIn_app (goodIn_of _ (by decide +kernel)) ggL_law_X3_thrown
set_option maxRecDepth 20000 in
theorem ggL_law_L_build : GoodIn wsL_law wsL_build := goodIn_ca (goodIn_ca (goodIn_ca (goodIn_r _ [227, 55, 56, 57, 228, 229, 230, 2, 231, 81, 82, 62, 63, 19, 232, 233, 123, 67, 68, 69, 70, 71, 72, 73, 74, 75, 76, 77, 234, 235, 236, 83, 84, 85, 17, 86, 87, 237, 238, 239, 240, 11, 12, 241, 242, 243, 244, 245, 246, 134, 135, 136, 137, 138, 139, 24, 140, 141, 142, 143, 144, 145, 146, 147, 148, 149, 150, 151, 23, 152, 153, 154, 155, 156, 157, 158, 159, 160, 161, 162, 163, 164, 165, 166, 167, 168, 169, 170, 171, 172, 173, 174, 175, 176, 177, 178, 179, 180, 181, 182, 183, 184, 185, 597, 598, 599, 600, 626, 627, 628, 629, 630, 631, 632, 633, 616, 617, 618] (by decide +kernel) (by decide +kernel)) (goodIn_sub (fun _ h => List.mem_append_right _ h) (by decide +kernel))) (goodIn_sub (fun _ h => List.mem_append_left _ (List.mem_append_left _ (List.mem_append_right _ h))) (by decide +kernel))) (goodIn_sub (fun _ h => List.mem_append_left _ (List.mem_append_right _ h)) (by decide +kernel))
set_option maxRecDepth 20000 in
theorem gL_law_L_build : GoodIn wsL_law (va_wsS RL 81 yL_build wsL_build) := goodIn_app (goodIn_of _ (by decide +kernel)) ggL_law_L_build
set_option maxRecDepth 20000 in
theorem ggL_law_X3_build : GoodIn wsL_law wsX3_build := goodIn_r _ [250, 196, 216, 43, 44, 45, 46, 48, 49, 50, 198, 199, 5, 200, 201, 202, 203, 204, 205, 206, 207, 601, 602, 603, 604, 605, 606, 607, 608, 609, 610, 611, 612, 613, 614, 615] (by decide +kernel) (by decide +kernel)
set_option maxRecDepth 20000 in
theorem gL_law_X3_build : GoodIn wsL_law (wsV RL 84 RX3 yX3_build wsX3_build) := goodIn_app (goodIn_of _ (by decide +kernel)) ggL_law_X3_build
set_option maxRecDepth 20000 in
theorem ggL_law_L_man : GoodIn wsL_law wsL_man := goodIn_ca (goodIn_ca (goodIn_r _ [253, 55, 56, 254, 255, 256, 2, 257, 19, 101, 258, 259, 260, 261, 262, 70, 71, 83, 84, 85, 17, 86, 87, 75, 76, 77, 234, 235, 236, 81, 82, 104, 105, 106, 107, 108, 109, 110, 111, 112, 113, 114, 115, 116, 117, 118, 119, 24, 597, 598, 599, 600, 626, 627, 628, 629, 630, 631, 632, 633, 616, 617, 618] (by decide +kernel) (by decide +kernel)) (goodIn_sub (fun _ h => List.mem_append_left _ (List.mem_append_right _ h)) (by decide +kernel))) (goodIn_sub (fun _ h => List.mem_append_right _ h) (by decide +kernel))
set_option maxRecDepth 20000 in
theorem gL_law_L_man : GoodIn wsL_law (va_wsS RL 85 yL_man wsL_man) := goodIn_app (goodIn_of _ (by decide +kernel)) ggL_law_L_man
set_option maxRecDepth 20000 in
theorem ggL_law_X3_man : GoodIn wsL_law wsX3_man := goodIn_r _ [266, 196, 46, 267, 268, 269, 5, 270, 216, 201, 202, 203, 204, 205, 206, 207, 601, 602, 603, 604, 605, 606, 607, 608, 609, 610, 611, 612, 613, 614, 615] (by decide +kernel) (by decide +kernel)
set_option maxRecDepth 20000 in
theorem gL_law_X3_man : GoodIn wsL_law (wsV RL 87 RX3 yX3_man wsX3_man) := goodIn_app (goodIn_of _ (by decide +kernel)) ggL_law_X3_man
set_option maxRecDepth 20000 in
theorem ggL_law_L_mend : GoodIn wsL_law wsL_mend := goodIn_ca (goodIn_r _ [273, 55, 274, 275, 276, 2, 277, 19, 101, 278, 259, 260, 261, 262, 70, 71, 83, 84, 85, 17, 86, 87, 75, 76, 77, 104, 105, 106, 107, 108, 109, 110, 111, 112, 113, 114, 115, 116, 117, 118, 119, 24, 597, 598, 599, 600, 626, 627, 628, 629, 630, 631, 632, 633, 616, 617, 618] (by decide +kernel) (by decide +kernel)) (goodIn_sub (fun _ h => List.mem_append_left _ (List.mem_append_right _ h)) (by decide +kernel))
set_option maxRecDepth 20000 in
theorem gL_law_L_mend : GoodIn wsL_law (va_wsS RL 88 yL_mend wsL_mend) := goodIn_app (goodIn_of _ (by decide +kernel)) ggL_law_L_mend
set_option maxRecDepth 20000 in
theorem ggL_law_X3_mend : GoodIn wsL_law wsX3_mend := goodIn_r _ [282, 196, 47, 267, 268, 269, 5, 270, 216, 201, 202, 203, 204, 205, 206, 207, 601, 602, 603, 604, 605, 606, 607, 608, 609, 610, 611, 612, 613, 614, 615] (by decide +kernel) (by decide +kernel)
set_option maxRecDepth 20000 in
theorem gL_law_X3_mend : GoodIn wsL_law (wsV RL 91 RX3 yX3_mend wsX3_mend) := goodIn_app (goodIn_of _ (by decide +kernel)) ggL_law_X3_mend
set_option maxRecDepth 20000 in
theorem ggL_law_L_turn : GoodIn wsL_law wsL_turn := goodIn_ca (goodIn_ca (goodIn_r _ [285, 55, 57, 286, 287, 288, 2, 289, 62, 63, 19, 101, 103, 102, 290, 259, 260, 261, 262, 70, 71, 83, 84, 85, 17, 86, 87, 75, 76, 77, 67, 68, 69, 72, 73, 74, 104, 105, 106, 107, 108, 109, 110, 111, 112, 113, 114, 115, 116, 117, 118, 119, 24, 291, 292, 293, 123, 294, 242, 243, 295, 296, 297, 298, 154, 299, 300, 301, 302, 303, 304, 180, 181, 305, 153, 155, 88, 89, 90, 91, 92, 93, 94, 95, 96, 14, 120, 121, 122, 124, 125, 306, 597, 598, 599, 600, 626, 627, 628, 629, 630, 631, 632, 633, 616, 617, 618, 619, 620, 621, 622, 623, 624, 625] (by decide +kernel) (by decide +kernel)) (goodIn_sub (fun _ h => List.mem_append_left _ (List.mem_append_left _ (List.mem_append_right _ h))) (by decide +kernel))) (goodIn_sub (fun _ h => List.mem_append_left _ (List.mem_append_right _ h)) (by decide +kernel))
set_option maxRecDepth 20000 in
theorem gL_law_L_turn : GoodIn wsL_law (va_wsS RL 92 yL_turn wsL_turn) := goodIn_app (goodIn_of _ (by decide +kernel)) ggL_law_L_turn
set_option maxRecDepth 20000 in
theorem ggL_law_X3_turn : GoodIn wsL_law wsX3_turn := goodIn_r _ [310, 196, 49, 48, 311, 298, 154, 299, 312, 267, 268, 269, 5, 270, 216, 201, 202, 203, 198, 199, 200, 204, 205, 206, 207, 313, 314, 315, 316, 43, 44, 317, 318, 319, 320, 321, 180, 181, 322, 153, 155, 208, 209, 210, 211, 197, 41, 217, 218, 219, 220, 50, 601, 602, 603, 604, 605, 606, 607, 608, 609, 610, 611, 612, 613, 614, 615] (by decide +kernel) (by decide +kernel)
set_option maxRecDepth 20000 in
theorem gL_law_X3_turn : GoodIn wsL_law (wsV RL 94 RX3 yX3_turn wsX3_turn) := goodIn_app (goodIn_of _ (by decide +kernel)) ggL_law_X3_turn
set_option maxRecDepth 20000 in
theorem ggL_law_L_hoist : GoodIn wsL_law wsL_hoist := goodIn_ca (goodIn_ca (goodIn_ca (goodIn_r _ [325, 55, 56, 57, 326, 327, 328, 2, 329, 81, 82, 62, 63, 19, 101, 102, 330, 103, 331, 259, 260, 261, 262, 70, 71, 83, 84, 85, 17, 86, 87, 75, 76, 77, 104, 105, 106, 107, 108, 109, 110, 111, 112, 113, 114, 115, 116, 117, 118, 119, 24, 88, 89, 90, 91, 92, 93, 94, 95, 96, 14, 72, 73, 74, 120, 121, 122, 123, 124, 125, 332, 333, 334, 335, 336, 337, 338, 339, 244, 245, 340, 341, 342, 343, 278, 290, 344, 345, 346, 347, 348, 349, 350, 351, 352, 353, 354, 355, 356, 357, 358, 359, 360, 361, 362, 363, 597, 598, 599, 600, 626, 627, 628, 629, 630, 631, 632, 633, 619, 620, 621, 622, 623, 624, 625, 616, 617, 618] (by decide +kernel) (by decide +kernel)) (goodIn_sub (fun _ h => List.mem_append_right _ h) (by decide +kernel))) (goodIn_sub (fun _ h => List.mem_append_left _ (List.mem_append_left _ (List.mem_append_right _ h))) (by decide +kernel))) (goodIn_sub (fun _ h => List.mem_append_left _ (List.mem_append_right _ h)) (by decide +kernel))
set_option maxRecDepth 20000 in
theorem gL_law_L_hoist : GoodIn wsL_law (va_wsS RL 95 yL_hoist wsL_hoist) := goodIn_app (goodIn_of _ (by decide +kernel)) ggL_law_L_hoist
set_option maxRecDepth 20000 in
theorem ggL_law_X3_hoist : GoodIn wsL_law wsX3_hoist := goodIn_r _ [367, 196, 49, 48, 311, 298, 154, 299, 50, 40, 47, 312, 267, 268, 269, 5, 270, 216, 201, 202, 203, 204, 205, 206, 207, 208, 209, 210, 211, 197, 41, 217, 218, 219, 220, 368, 369, 370, 371, 372, 373, 374, 375, 46, 45, 376, 377, 378, 379, 380, 381, 382, 383, 601, 602, 603, 604, 605, 606, 607, 608, 609, 610, 611, 612, 613, 614, 615] (by decide +kernel) (by decide +kernel)
set_option maxRecDepth 20000 in
theorem gL_law_X3_hoist : GoodIn wsL_law (wsV RL 97 RX3 yX3_hoist wsX3_hoist) := goodIn_app (goodIn_of _ (by decide +kernel)) ggL_law_X3_hoist
set_option maxRecDepth 20000 in
theorem ggL_law_L_take : GoodIn wsL_law wsL_take := goodIn_ca (goodIn_ca (goodIn_r _ [386, 55, 57, 387, 388, 389, 2, 390, 62, 63, 19, 101, 102, 330, 103, 358, 66, 259, 260, 261, 262, 70, 71, 83, 84, 85, 17, 86, 87, 75, 76, 77, 104, 105, 106, 107, 108, 109, 110, 111, 112, 113, 114, 115, 116, 117, 118, 119, 24, 93, 94, 95, 96, 14, 72, 73, 74, 88, 89, 90, 91, 92, 391, 392, 393, 394, 191, 190, 597, 598, 599, 600, 626, 627, 628, 629, 630, 631, 632, 633, 619, 620, 621, 622, 623, 624, 625, 616, 617, 618] (by decide +kernel) (by decide +kernel)) (goodIn_sub (fun _ h => List.mem_append_left _ (List.mem_append_left _ (List.mem_append_right _ h))) (by decide +kernel))) (goodIn_sub (fun _ h => List.mem_append_left _ (List.mem_append_right _ h)) (by decide +kernel))
set_option maxRecDepth 20000 in
theorem gL_law_L_take : GoodIn wsL_law (va_wsS RL 98 yL_take wsL_take) := goodIn_app (goodIn_of _ (by decide +kernel)) ggL_law_L_take
set_option maxRecDepth 20000 in
theorem ggL_law_X3_take : GoodIn wsL_law wsX3_take := goodIn_r _ [398, 196, 48, 50, 49, 41, 267, 268, 269, 5, 270, 216, 201, 202, 203, 204, 205, 206, 207, 208, 209, 210, 211, 197, 399, 400, 401, 402, 42, 601, 602, 603, 604, 605, 606, 607, 608, 609, 610, 611, 612, 613, 614, 615] (by decide +kernel) (by decide +kernel)
set_option maxRecDepth 20000 in
theorem gL_law_X3_take : GoodIn wsL_law (wsV RL 100 RX3 yX3_take wsX3_take) := goodIn_app (goodIn_of _ (by decide +kernel)) ggL_law_X3_take
set_option maxRecDepth 20000 in
theorem ggL_law_L_lay : GoodIn wsL_law wsL_lay := goodIn_ca (goodIn_ca (goodIn_r _ [405, 55, 57, 406, 407, 408, 2, 409, 62, 63, 19, 101, 330, 102, 103, 358, 259, 260, 261, 262, 70, 71, 83, 84, 85, 17, 86, 87, 75, 76, 77, 104, 105, 106, 107, 108, 109, 110, 111, 112, 113, 114, 115, 116, 117, 118, 119, 24, 88, 89, 90, 91, 92, 93, 94, 95, 96, 14, 72, 73, 74, 97, 98, 99, 100, 120, 121, 122, 123, 124, 125, 186, 187, 188, 189, 190, 191, 597, 598, 599, 600, 626, 627, 628, 629, 630, 631, 632, 633, 619, 620, 621, 622, 623, 624, 625, 616, 617, 618] (by decide +kernel) (by decide +kernel)) (goodIn_sub (fun _ h => List.mem_append_left _ (List.mem_append_left _ (List.mem_append_right _ h))) (by decide +kernel))) (goodIn_sub (fun _ h => List.mem_append_left _ (List.mem_append_right _ h)) (by decide +kernel))
set_option maxRecDepth 20000 in
theorem gL_law_L_lay : GoodIn wsL_law (va_wsS RL 101 yL_lay wsL_lay) := goodIn_app (goodIn_of _ (by decide +kernel)) ggL_law_L_lay
set_option maxRecDepth 20000 in
theorem ggL_law_X3_lay : GoodIn wsL_law wsX3_lay := goodIn_r _ [413, 196, 48, 50, 49, 41, 42, 267, 268, 269, 5, 270, 216, 201, 202, 203, 204, 205, 206, 207, 208, 209, 210, 211, 197, 212, 213, 214, 215, 217, 218, 219, 220, 601, 602, 603, 604, 605, 606, 607, 608, 609, 610, 611, 612, 613, 614, 615] (by decide +kernel) (by decide +kernel)
set_option maxRecDepth 20000 in
theorem gL_law_X3_lay : GoodIn wsL_law (wsV RL 103 RX3 yX3_lay wsX3_lay) := goodIn_app (goodIn_of _ (by decide +kernel)) ggL_law_X3_lay
set_option maxRecDepth 20000 in
theorem ggL_law_L_place : GoodIn wsL_law wsL_place := goodIn_ca (goodIn_r _ [416, 55, 417, 418, 419, 2, 420, 67, 68, 69, 70, 71, 72, 73, 74, 75, 76, 77, 421, 422, 423, 424, 425, 426, 427, 88, 89, 90, 91, 92, 93, 94, 95, 96, 14, 428, 429, 430, 66, 431, 432, 433, 434, 331, 191, 435, 436, 437, 438, 19, 101, 102, 83, 84, 85, 17, 86, 87, 104, 105, 106, 107, 108, 109, 110, 111, 112, 113, 114, 115, 116, 117, 118, 119, 24, 619, 620, 621, 622, 623, 624, 625, 597, 598, 599, 600, 626, 627, 628, 629, 630, 631, 632, 633, 616, 617, 618] (by decide +kernel) (by decide +kernel)) (goodIn_sub (fun _ h => List.mem_append_left _ (List.mem_append_right _ h)) (by decide +kernel))
set_option maxRecDepth 20000 in
theorem gL_law_L_place : GoodIn wsL_law (va_wsS RL 104 yL_place wsL_place) := goodIn_app (goodIn_of _ (by decide +kernel)) ggL_law_L_place
set_option maxRecDepth 20000 in
theorem ggL_law_X3_place : GoodIn wsL_law wsX3_place := goodIn_r _ [442, 196, 198, 199, 5, 200, 201, 202, 203, 443, 444, 445, 446, 197, 41, 40, 216, 48, 39, 208, 209, 210, 211, 399, 400, 401, 402, 42, 204, 205, 206, 207, 601, 602, 603, 604, 605, 606, 607, 608, 609, 610, 611, 612, 613, 614, 615] (by decide +kernel) (by decide +kernel)
set_option maxRecDepth 20000 in
theorem gL_law_X3_place : GoodIn wsL_law (wsV RL 106 RX3 yX3_place wsX3_place) := goodIn_app (goodIn_of _ (by decide +kernel)) ggL_law_X3_place
set_option maxRecDepth 20000 in
theorem ggL_law_L_barrel : GoodIn wsL_law wsL_barrel := goodIn_ca (goodIn_r _ [449, 55, 450, 451, 452, 2, 453, 70, 71, 18, 454, 83, 84, 85, 17, 86, 87, 75, 76, 77, 421, 422, 423, 104, 105, 106, 107, 108, 109, 110, 111, 112, 113, 114, 115, 116, 117, 118, 119, 24, 455, 456, 457, 458, 331, 190, 92, 358, 359, 88, 89, 90, 91, 93, 94, 95, 96, 14, 72, 73, 74, 597, 598, 599, 600, 616, 617, 618, 619, 620, 621, 622, 623, 624, 625] (by decide +kernel) (by decide +kernel)) (goodIn_sub (fun _ h => List.mem_append_left _ (List.mem_append_right _ h)) (by decide +kernel))
set_option maxRecDepth 20000 in
theorem gL_law_L_barrel : GoodIn wsL_law (va_wsS RL 107 yL_barrel wsL_barrel) := goodIn_app (goodIn_of _ (by decide +kernel)) ggL_law_L_barrel
set_option maxRecDepth 20000 in
theorem ggL_law_X3_barrel : GoodIn wsL_law wsX3_barrel := goodIn_r _ [462, 196, 197, 201, 202, 5, 203, 463, 464, 465, 466, 41, 39, 40, 42, 208, 209, 210, 211, 467, 468, 469, 470, 216, 50, 204, 205, 206, 207, 601, 602, 603, 604, 605, 606, 607, 608, 609, 610, 611, 612, 613, 614, 615] (by decide +kernel) (by decide +kernel)
set_option maxRecDepth 20000 in
theorem gL_law_X3_barrel : GoodIn wsL_law (wsV RL 109 RX3 yX3_barrel wsX3_barrel) := goodIn_app (goodIn_of _ (by decide +kernel)) ggL_law_X3_barrel
set_option maxRecDepth 20000 in
theorem ggL_law_L_crane : GoodIn wsL_law wsL_crane := goodIn_ca (goodIn_r _ [473, 55, 474, 475, 476, 2, 477, 19, 101, 259, 260, 261, 262, 70, 71, 83, 84, 85, 17, 86, 87, 75, 76, 77, 421, 422, 423, 104, 105, 106, 107, 108, 109, 110, 111, 112, 113, 114, 115, 116, 117, 118, 119, 24, 478, 479, 480, 481, 482, 483, 258, 278, 102, 103, 330, 428, 429, 430, 66, 484, 337, 338, 123, 339, 244, 245, 597, 598, 599, 600, 616, 617, 618, 626, 627, 628, 629, 630, 631, 632, 633, 619, 620, 621, 622, 623, 624, 625] (by decide +kernel) (by decide +kernel)) (goodIn_sub (fun _ h => List.mem_append_left _ (List.mem_append_right _ h)) (by decide +kernel))
set_option maxRecDepth 20000 in
theorem gL_law_L_crane : GoodIn wsL_law (va_wsS RL 110 yL_crane wsL_crane) := goodIn_app (goodIn_of _ (by decide +kernel)) ggL_law_L_crane
set_option maxRecDepth 20000 in
theorem ggL_law_X3_crane : GoodIn wsL_law wsX3_crane := goodIn_r _ [488, 196, 267, 268, 269, 5, 270, 216, 201, 202, 203, 489, 490, 491, 492, 39, 43, 44, 45, 46, 47, 48, 49, 50, 372, 373, 374, 375, 204, 205, 206, 207, 601, 602, 603, 604, 605, 606, 607, 608, 609, 610, 611, 612, 613, 614, 615] (by decide +kernel) (by decide +kernel)
set_option maxRecDepth 20000 in
theorem gL_law_X3_crane : GoodIn wsL_law (wsV RL 112 RX3 yX3_crane wsX3_crane) := goodIn_app (goodIn_of _ (by decide +kernel)) ggL_law_X3_crane
set_option maxRecDepth 20000 in
theorem ggL_law_L_count : GoodIn wsL_law wsL_count := goodIn_ca (goodIn_r _ [495, 55, 496, 497, 498, 2, 499, 421, 422, 423, 70, 71, 75, 76, 77, 500, 501, 502, 503, 290, 18, 19, 83, 84, 85, 17, 86, 87, 504, 505, 506, 507, 88, 89, 90, 91, 92, 93, 94, 95, 96, 14, 72, 73, 74, 508, 509, 510, 511, 101, 330, 104, 105, 106, 107, 108, 109, 110, 111, 112, 113, 114, 115, 116, 117, 118, 119, 24, 300, 301, 302, 303, 304, 180, 154, 181, 305, 153, 155, 597, 598, 599, 600, 616, 617, 618, 619, 620, 621, 622, 623, 624, 625, 626, 627, 628, 629, 630, 631, 632, 633] (by decide +kernel) (by decide +kernel)) (goodIn_sub (fun _ h => List.mem_append_left _ (List.mem_append_right _ h)) (by decide +kernel))
set_option maxRecDepth 20000 in
theorem gL_law_L_count : GoodIn wsL_law (va_wsS RL 113 yL_count wsL_count) := goodIn_app (goodIn_of _ (by decide +kernel)) ggL_law_L_count
set_option maxRecDepth 20000 in
theorem ggL_law_X3_count : GoodIn wsL_law wsX3_count := goodIn_r _ [515, 196, 201, 202, 5, 203, 516, 517, 518, 519, 197, 41, 39, 312, 216, 317, 318, 319, 320, 321, 180, 154, 181, 322, 153, 155, 208, 209, 210, 211, 204, 205, 206, 207, 601, 602, 603, 604, 605, 606, 607, 608, 609, 610, 611, 612, 613, 614, 615] (by decide +kernel) (by decide +kernel)
set_option maxRecDepth 20000 in
theorem gL_law_X3_count : GoodIn wsL_law (wsV RL 115 RX3 yX3_count wsX3_count) := goodIn_app (goodIn_of _ (by decide +kernel)) ggL_law_X3_count
set_option maxRecDepth 20000 in
theorem ggL_law_L_move : GoodIn wsL_law wsL_move := goodIn_ca (goodIn_r _ [522, 55, 523, 524, 525, 2, 526, 19, 101, 259, 260, 261, 262, 70, 71, 83, 84, 85, 17, 86, 87, 75, 76, 77, 67, 68, 69, 72, 73, 74, 104, 105, 106, 107, 108, 109, 110, 111, 112, 113, 114, 115, 116, 117, 118, 119, 24, 527, 528, 529, 530, 331, 103, 102, 305, 153, 154, 155, 93, 94, 95, 96, 14, 332, 333, 334, 123, 335, 336, 337, 338, 339, 244, 245, 531, 532, 533, 534, 330, 291, 292, 293, 294, 242, 243, 295, 296, 297, 298, 299, 88, 89, 90, 91, 92, 300, 301, 302, 303, 304, 180, 181, 344, 345, 346, 347, 348, 349, 350, 351, 352, 353, 354, 306, 597, 598, 599, 600, 616, 617, 618, 619, 620, 621, 622, 623, 624, 625, 626, 627, 628, 629, 630, 631, 632, 633] (by decide +kernel) (by decide +kernel)) (goodIn_sub (fun _ h => List.mem_append_left _ (List.mem_append_right _ h)) (by decide +kernel))
set_option maxRecDepth 20000 in
theorem gL_law_L_move : GoodIn wsL_law (va_wsS RL 116 yL_move wsL_move) := goodIn_app (goodIn_of _ (by decide +kernel)) ggL_law_L_move
set_option maxRecDepth 20000 in
theorem ggL_law_X3_move : GoodIn wsL_law wsX3_move := goodIn_r _ [538, 196, 267, 268, 269, 5, 270, 216, 201, 202, 203, 198, 199, 200, 539, 540, 541, 542, 50, 40, 49, 48, 322, 153, 154, 155, 47, 311, 298, 299, 208, 209, 210, 211, 197, 41, 313, 314, 315, 316, 43, 44, 399, 400, 401, 402, 42, 372, 373, 374, 375, 46, 45, 317, 318, 319, 320, 321, 180, 181, 376, 377, 378, 379, 204, 205, 206, 207, 601, 602, 603, 604, 605, 606, 607, 608, 609, 610, 611, 612, 613, 614, 615] (by decide +kernel) (by decide +kernel)
set_option maxRecDepth 20000 in
theorem gL_law_X3_move : GoodIn wsL_law (wsV RL 119 RX3 yX3_move wsX3_move) := goodIn_app (goodIn_of _ (by decide +kernel)) ggL_law_X3_move
set_option maxRecDepth 20000 in
theorem ggL_law_L_best : GoodIn wsL_law wsL_best := goodIn_ca (goodIn_r _ [545, 55, 546, 547, 548, 2, 549, 19, 101, 67, 68, 69, 70, 71, 72, 73, 74, 75, 76, 77, 83, 84, 85, 17, 86, 87, 104, 105, 106, 107, 108, 109, 110, 111, 112, 113, 114, 115, 116, 117, 118, 119, 24, 527, 528, 529, 530, 331, 103, 102, 305, 153, 154, 155, 93, 94, 95, 96, 14, 332, 333, 334, 123, 335, 336, 337, 338, 339, 244, 245, 531, 532, 533, 534, 330, 291, 292, 293, 294, 242, 243, 295, 296, 297, 298, 299, 88, 89, 90, 91, 92, 300, 301, 302, 303, 304, 180, 181, 344, 345, 346, 347, 348, 349, 350, 351, 352, 353, 354, 306, 597, 598, 599, 600, 616, 617, 618, 619, 620, 621, 622, 623, 624, 625, 626, 627, 628, 629, 630, 631, 632, 633] (by decide +kernel) (by decide +kernel)) (goodIn_sub (fun _ h => List.mem_append_left _ (List.mem_append_right _ h)) (by decide +kernel))
set_option maxRecDepth 20000 in
theorem gL_law_L_best : GoodIn wsL_law (va_wsS RL 120 yL_best wsL_best) := goodIn_app (goodIn_of _ (by decide +kernel)) ggL_law_L_best
set_option maxRecDepth 20000 in
theorem ggL_law_X3_best : GoodIn wsL_law wsX3_best := goodIn_r _ [553, 196, 216, 198, 199, 5, 200, 201, 202, 203, 204, 205, 206, 207, 539, 540, 541, 542, 50, 40, 49, 48, 322, 153, 154, 155, 47, 311, 298, 299, 208, 209, 210, 211, 197, 41, 313, 314, 315, 316, 43, 44, 399, 400, 401, 402, 42, 372, 373, 374, 375, 46, 45, 317, 318, 319, 320, 321, 180, 181, 376, 377, 378, 379, 601, 602, 603, 604, 605, 606, 607, 608, 609, 610, 611, 612, 613, 614, 615] (by decide +kernel) (by decide +kernel)
set_option maxRecDepth 20000 in
theorem gL_law_X3_best : GoodIn wsL_law (wsV RL 122 RX3 yX3_best wsX3_best) := goodIn_app (goodIn_of _ (by decide +kernel)) ggL_law_X3_best
set_option maxRecDepth 20000 in
theorem ggL_law_L_lasts : GoodIn wsL_law wsL_lasts := goodIn_ca (goodIn_ca (goodIn_r _ [556, 55, 56, 557, 558, 559, 2, 560, 19, 101, 278, 259, 260, 261, 262, 70, 71, 83, 84, 85, 17, 86, 87, 75, 76, 77, 78, 79, 80, 81, 82, 561, 353, 354, 104, 105, 106, 107, 108, 109, 110, 111, 112, 113, 114, 115, 116, 117, 118, 119, 24, 597, 598, 599, 600, 626, 627, 628, 629, 630, 631, 632, 633, 616, 617, 618] (by decide +kernel) (by decide +kernel)) (goodIn_sub (fun _ h => List.mem_append_left _ (List.mem_append_right _ h)) (by decide +kernel))) (goodIn_sub (fun _ h => List.mem_append_right _ h) (by decide +kernel))
set_option maxRecDepth 20000 in
theorem gL_law_L_lasts : GoodIn wsL_law (va_wsS RL 123 yL_lasts wsL_lasts) := goodIn_app (goodIn_of _ (by decide +kernel)) ggL_law_L_lasts
set_option maxRecDepth 20000 in
theorem ggL_law_X3_lasts : GoodIn wsL_law wsX3_lasts := goodIn_r _ [565, 196, 47, 267, 268, 269, 5, 270, 216, 201, 202, 203, 204, 205, 206, 207, 601, 602, 603, 604, 605, 606, 607, 608, 609, 610, 611, 612, 613, 614, 615] (by decide +kernel) (by decide +kernel)
set_option maxRecDepth 20000 in
theorem gL_law_X3_lasts : GoodIn wsL_law (wsV RL 125 RX3 yX3_lasts wsX3_lasts) := goodIn_app (goodIn_of _ (by decide +kernel)) ggL_law_X3_lasts
set_option maxRecDepth 20000 in
theorem ggL_law_L_within : GoodIn wsL_law wsL_within := goodIn_ca (goodIn_r _ [568, 55, 569, 570, 571, 2, 572, 19, 101, 18, 454, 190, 331, 259, 260, 261, 262, 70, 71, 83, 84, 85, 17, 86, 87, 75, 76, 77, 104, 105, 106, 107, 108, 109, 110, 111, 112, 113, 114, 115, 116, 117, 118, 119, 24, 291, 292, 293, 123, 294, 242, 243, 295, 296, 297, 298, 154, 299, 332, 333, 334, 335, 336, 337, 338, 339, 244, 245, 597, 598, 599, 600, 619, 620, 621, 622, 623, 624, 625, 616, 617, 618, 626, 627, 628, 629, 630, 631, 632, 633] (by decide +kernel) (by decide +kernel)) (goodIn_sub (fun _ h => List.mem_append_left _ (List.mem_append_right _ h)) (by decide +kernel))
set_option maxRecDepth 20000 in
theorem gL_law_L_within : GoodIn wsL_law (va_wsS RL 126 yL_within wsL_within) := goodIn_app (goodIn_of _ (by decide +kernel)) ggL_law_L_within
set_option maxRecDepth 20000 in
theorem ggL_law_X3_within : GoodIn wsL_law wsX3_within := goodIn_r _ [576, 196, 197, 41, 40, 267, 268, 269, 5, 270, 216, 201, 202, 203, 204, 205, 206, 207, 313, 314, 315, 316, 43, 311, 298, 154, 299, 44, 372, 373, 374, 375, 46, 45, 601, 602, 603, 604, 605, 606, 607, 608, 609, 610, 611, 612, 613, 614, 615] (by decide +kernel) (by decide +kernel)
set_option maxRecDepth 20000 in
theorem gL_law_X3_within : GoodIn wsL_law (wsV RL 128 RX3 yX3_within wsX3_within) := goodIn_app (goodIn_of _ (by decide +kernel)) ggL_law_X3_within
set_option maxRecDepth 20000 in
theorem ggL_law_X2_mean : GoodIn wsL_law wsX2_mean := goodIn_r _ [580, 18, 454, 359, 331, 83, 84, 85, 17, 86, 87, 104, 105, 106, 107, 108, 109, 110, 111, 112, 113, 114, 115, 116, 117, 118, 119, 24, 597, 598, 599, 600, 619, 620, 621, 622, 623, 624, 625, 616, 617, 618] (by decide +kernel) (by decide +kernel)
set_option maxRecDepth 20000 in
theorem gL_law_X2_mean : GoodIn wsL_law (wsV RL 129 RX2 yX2_mean wsX2_mean) := goodIn_app (goodIn_of _ (by decide +kernel)) ggL_law_X2_mean
set_option maxRecDepth 20000 in
theorem ggL_law_X3_mean : GoodIn wsL_law wsX3_mean := goodIn_r _ [584, 196, 197, 41, 40, 601, 602, 603, 604, 605, 606, 607, 608, 609, 610, 611, 612, 613, 614, 615] (by decide +kernel) (by decide +kernel)
set_option maxRecDepth 20000 in
theorem gL_law_X3_mean : GoodIn wsL_law (wsV RL 133 RX3 yX3_mean wsX3_mean) := goodIn_app (goodIn_of _ (by decide +kernel)) ggL_law_X3_mean
set_option maxRecDepth 20000 in
theorem ggL_law_X2_digest : GoodIn wsL_law wsX2_digest := goodIn_r _ [588, 589, 590, 18, 454, 19, 101, 500, 501, 502, 2, 503, 290, 83, 84, 85, 17, 86, 87, 504, 505, 506, 507, 88, 89, 90, 91, 92, 93, 94, 95, 96, 14, 72, 73, 74, 75, 76, 77, 508, 509, 510, 511, 330, 104, 105, 106, 107, 108, 109, 110, 111, 112, 113, 114, 115, 116, 117, 118, 119, 24, 300, 301, 302, 303, 304, 180, 154, 181, 305, 153, 155, 424, 425, 426, 427, 428, 429, 430, 66, 431, 432, 433, 434, 331, 191, 435, 436, 437, 438, 102, 455, 456, 457, 458, 190, 358, 359, 478, 479, 480, 481, 482, 483, 258, 278, 103, 484, 337, 338, 123, 339, 244, 245, 597, 598, 599, 600, 616, 617, 618, 619, 620, 621, 622, 623, 624, 625, 626, 627, 628, 629, 630, 631, 632, 633] (by decide +kernel) (by decide +kernel)
set_option maxRecDepth 20000 in
theorem gL_law_X2_digest : GoodIn wsL_law (wsV RL 134 RX2 yX2_digest wsX2_digest) := goodIn_app (goodIn_of _ (by decide +kernel)) ggL_law_X2_digest
set_option maxRecDepth 20000 in
theorem ggL_law_X3_digest : GoodIn wsL_law wsX3_digest := goodIn_r _ [594, 196, 595, 596, 197, 216, 516, 517, 518, 5, 519, 41, 39, 312, 317, 318, 319, 320, 321, 180, 154, 181, 322, 153, 155, 208, 209, 210, 211, 443, 444, 445, 446, 40, 48, 399, 400, 401, 402, 42, 463, 464, 465, 466, 467, 468, 469, 470, 50, 489, 490, 491, 492, 43, 44, 45, 46, 47, 49, 372, 373, 374, 375, 601, 602, 603, 604, 605, 606, 607, 608, 609, 610, 611, 612, 613, 614, 615] (by decide +kernel) (by decide +kernel)
set_option maxRecDepth 20000 in
theorem gL_law_X3_digest : GoodIn wsL_law (wsV RL 138 RX3 yX3_digest wsX3_digest) := goodIn_app (goodIn_of _ (by decide +kernel)) ggL_law_X3_digest
theorem dL_law_0 : decode cL_law 0 = .ok (.new 8, 3) := by decide +kernel
theorem dL_law_3 : decode cL_law 3 = .ok (.dup, 1) := by decide +kernel
theorem dL_law_4 : decode cL_law 4 = .ok (.invokespecial 67, 3) := by decide +kernel
theorem dL_law_7 : decode cL_law 7 = .ok (.astore_n 1, 1) := by decide +kernel
theorem dL_law_8 : decode cL_law 8 = .ok (.new 68, 3) := by decide +kernel
theorem dL_law_11 : decode cL_law 11 = .ok (.dup, 1) := by decide +kernel
theorem dL_law_12 : decode cL_law 12 = .ok (.invokespecial 70, 3) := by decide +kernel
theorem dL_law_15 : decode cL_law 15 = .ok (.astore_n 2, 1) := by decide +kernel
theorem dL_law_16 : decode cL_law 16 = .ok (.iconst 1, 1) := by decide +kernel
theorem dL_law_17 : decode cL_law 17 = .ok (.newarray .long, 2) := by decide +kernel
theorem dL_law_19 : decode cL_law 19 = .ok (.astore_n 3, 1) := by decide +kernel
theorem dL_law_20 : decode cL_law 20 = .ok (.iconst 0, 1) := by decide +kernel
theorem dL_law_21 : decode cL_law 21 = .ok (.istore 4, 2) := by decide +kernel
theorem dL_law_23 : decode cL_law 23 = .ok (.iload 4, 2) := by decide +kernel
theorem dL_law_25 : decode cL_law 25 = .ok (.aload_n 0, 1) := by decide +kernel
theorem dL_law_26 : decode cL_law 26 = .ok (.arraylength, 1) := by decide +kernel
theorem dL_law_27 : decode cL_law 27 = .ok (.iconst 5, 1) := by decide +kernel
theorem dL_law_28 : decode cL_law 28 = .ok (.isub, 1) := by decide +kernel
theorem dL_law_29 : decode cL_law 29 = .ok (.if_icmp .gt 1220, 3) := by decide +kernel
theorem dL_law_32 : decode cL_law 32 = .ok (.aload_n 0, 1) := by decide +kernel
theorem dL_law_33 : decode cL_law 33 = .ok (.iload 4, 2) := by decide +kernel
theorem dL_law_35 : decode cL_law 35 = .ok (.iaload, 1) := by decide +kernel
theorem dL_law_36 : decode cL_law 36 = .ok (.bipush 31, 2) := by decide +kernel
theorem dL_law_38 : decode cL_law 38 = .ok (.iand, 1) := by decide +kernel
theorem dL_law_39 : decode cL_law 39 = .ok (.tableswitch 1204 0 17 #[85, 153, 245, 313, 369, 437, 505, 561, 617, 685, 753, 821, 877, 957, 1025, 1093, 1149, 1190], 85) := by decide +kernel
theorem dL_law_124 : decode cL_law 124 = .ok (.aload_n 1, 1) := by decide +kernel
theorem dL_law_125 : decode cL_law 125 = .ok (.aload_n 0, 1) := by decide +kernel
theorem dL_law_126 : decode cL_law 126 = .ok (.iload 4, 2) := by decide +kernel
theorem dL_law_128 : decode cL_law 128 = .ok (.iconst 1, 1) := by decide +kernel
theorem dL_law_129 : decode cL_law 129 = .ok (.iadd, 1) := by decide +kernel
theorem dL_law_130 : decode cL_law 130 = .ok (.iaload, 1) := by decide +kernel
theorem dL_law_131 : decode cL_law 131 = .ok (.aload_n 0, 1) := by decide +kernel
theorem dL_law_132 : decode cL_law 132 = .ok (.iload 4, 2) := by decide +kernel
theorem dL_law_134 : decode cL_law 134 = .ok (.iconst 2, 1) := by decide +kernel
theorem dL_law_135 : decode cL_law 135 = .ok (.iadd, 1) := by decide +kernel
theorem dL_law_136 : decode cL_law 136 = .ok (.iaload, 1) := by decide +kernel
theorem dL_law_137 : decode cL_law 137 = .ok (.aload_n 3, 1) := by decide +kernel
theorem dL_law_138 : decode cL_law 138 = .ok (.invokestatic 71, 3) := by decide +kernel
theorem dL_law_141 : decode cL_law 141 = .ok (.istore 5, 2) := by decide +kernel
theorem dL_law_143 : decode cL_law 143 = .ok (.aload_n 2, 1) := by decide +kernel
theorem dL_law_144 : decode cL_law 144 = .ok (.aload_n 0, 1) := by decide +kernel
theorem dL_law_145 : decode cL_law 145 = .ok (.iload 4, 2) := by decide +kernel
theorem dL_law_147 : decode cL_law 147 = .ok (.iconst 1, 1) := by decide +kernel
theorem dL_law_148 : decode cL_law 148 = .ok (.iadd, 1) := by decide +kernel
theorem dL_law_149 : decode cL_law 149 = .ok (.iaload, 1) := by decide +kernel
theorem dL_law_150 : decode cL_law 150 = .ok (.aload_n 0, 1) := by decide +kernel
theorem dL_law_151 : decode cL_law 151 = .ok (.iload 4, 2) := by decide +kernel
theorem dL_law_153 : decode cL_law 153 = .ok (.iconst 2, 1) := by decide +kernel
theorem dL_law_154 : decode cL_law 154 = .ok (.iadd, 1) := by decide +kernel
theorem dL_law_155 : decode cL_law 155 = .ok (.iaload, 1) := by decide +kernel
theorem dL_law_156 : decode cL_law 156 = .ok (.invokevirtual 76, 3) := by decide +kernel
theorem dL_law_159 : decode cL_law 159 = .ok (.istore 6, 2) := by decide +kernel
theorem dL_law_161 : decode cL_law 161 = .ok (.aload_n 2, 1) := by decide +kernel
theorem dL_law_162 : decode cL_law 162 = .ok (.invokevirtual 77, 3) := by decide +kernel
theorem dL_law_165 : decode cL_law 165 = .ok (.iload 5, 2) := by decide +kernel
theorem dL_law_167 : decode cL_law 167 = .ok (.if_icmp .eq 5, 3) := by decide +kernel
theorem dL_law_170 : decode cL_law 170 = .ok (.iconst 0, 1) := by decide +kernel
theorem dL_law_171 : decode cL_law 171 = .ok (.ireturn, 1) := by decide +kernel
theorem dL_law_172 : decode cL_law 172 = .ok (.iload 5, 2) := by decide +kernel
theorem dL_law_174 : decode cL_law 174 = .ok (.ifCond .ne 15, 3) := by decide +kernel
theorem dL_law_177 : decode cL_law 177 = .ok (.aload_n 3, 1) := by decide +kernel
theorem dL_law_178 : decode cL_law 178 = .ok (.iconst 0, 1) := by decide +kernel
theorem dL_law_179 : decode cL_law 179 = .ok (.laload, 1) := by decide +kernel
theorem dL_law_180 : decode cL_law 180 = .ok (.iload 6, 2) := by decide +kernel
theorem dL_law_182 : decode cL_law 182 = .ok (.i2l, 1) := by decide +kernel
theorem dL_law_183 : decode cL_law 183 = .ok (.lcmp, 1) := by decide +kernel
theorem dL_law_184 : decode cL_law 184 = .ok (.ifCond .eq 5, 3) := by decide +kernel
theorem dL_law_187 : decode cL_law 187 = .ok (.iconst 0, 1) := by decide +kernel
theorem dL_law_188 : decode cL_law 188 = .ok (.ireturn, 1) := by decide +kernel
theorem dL_law_189 : decode cL_law 189 = .ok (.goto 1054, 3) := by decide +kernel
theorem dL_law_192 : decode cL_law 192 = .ok (.aload_n 1, 1) := by decide +kernel
theorem dL_law_193 : decode cL_law 193 = .ok (.aload_n 0, 1) := by decide +kernel
theorem dL_law_194 : decode cL_law 194 = .ok (.iload 4, 2) := by decide +kernel
theorem dL_law_196 : decode cL_law 196 = .ok (.iconst 1, 1) := by decide +kernel
theorem dL_law_197 : decode cL_law 197 = .ok (.iadd, 1) := by decide +kernel
theorem dL_law_198 : decode cL_law 198 = .ok (.iaload, 1) := by decide +kernel
theorem dL_law_199 : decode cL_law 199 = .ok (.aload_n 0, 1) := by decide +kernel
theorem dL_law_200 : decode cL_law 200 = .ok (.iload 4, 2) := by decide +kernel
theorem dL_law_202 : decode cL_law 202 = .ok (.iconst 2, 1) := by decide +kernel
theorem dL_law_203 : decode cL_law 203 = .ok (.iadd, 1) := by decide +kernel
theorem dL_law_204 : decode cL_law 204 = .ok (.iaload, 1) := by decide +kernel
theorem dL_law_205 : decode cL_law 205 = .ok (.aload_n 0, 1) := by decide +kernel
theorem dL_law_206 : decode cL_law 206 = .ok (.iload 4, 2) := by decide +kernel
theorem dL_law_208 : decode cL_law 208 = .ok (.iconst 3, 1) := by decide +kernel
theorem dL_law_209 : decode cL_law 209 = .ok (.iadd, 1) := by decide +kernel
theorem dL_law_210 : decode cL_law 210 = .ok (.iaload, 1) := by decide +kernel
theorem dL_law_211 : decode cL_law 211 = .ok (.aload_n 0, 1) := by decide +kernel
theorem dL_law_212 : decode cL_law 212 = .ok (.iload 4, 2) := by decide +kernel
theorem dL_law_214 : decode cL_law 214 = .ok (.iconst 4, 1) := by decide +kernel
theorem dL_law_215 : decode cL_law 215 = .ok (.iadd, 1) := by decide +kernel
theorem dL_law_216 : decode cL_law 216 = .ok (.iaload, 1) := by decide +kernel
theorem dL_law_217 : decode cL_law 217 = .ok (.aload_n 3, 1) := by decide +kernel
theorem dL_law_218 : decode cL_law 218 = .ok (.invokestatic 81, 3) := by decide +kernel
theorem dL_law_221 : decode cL_law 221 = .ok (.istore 5, 2) := by decide +kernel
theorem dL_law_223 : decode cL_law 223 = .ok (.aload_n 2, 1) := by decide +kernel
theorem dL_law_224 : decode cL_law 224 = .ok (.aload_n 0, 1) := by decide +kernel
theorem dL_law_225 : decode cL_law 225 = .ok (.iload 4, 2) := by decide +kernel
theorem dL_law_227 : decode cL_law 227 = .ok (.iconst 1, 1) := by decide +kernel
theorem dL_law_228 : decode cL_law 228 = .ok (.iadd, 1) := by decide +kernel
theorem dL_law_229 : decode cL_law 229 = .ok (.iaload, 1) := by decide +kernel
theorem dL_law_230 : decode cL_law 230 = .ok (.aload_n 0, 1) := by decide +kernel
theorem dL_law_231 : decode cL_law 231 = .ok (.iload 4, 2) := by decide +kernel
theorem dL_law_233 : decode cL_law 233 = .ok (.iconst 2, 1) := by decide +kernel
theorem dL_law_234 : decode cL_law 234 = .ok (.iadd, 1) := by decide +kernel
theorem dL_law_235 : decode cL_law 235 = .ok (.iaload, 1) := by decide +kernel
theorem dL_law_236 : decode cL_law 236 = .ok (.aload_n 0, 1) := by decide +kernel
theorem dL_law_237 : decode cL_law 237 = .ok (.iload 4, 2) := by decide +kernel
theorem dL_law_239 : decode cL_law 239 = .ok (.iconst 3, 1) := by decide +kernel
theorem dL_law_240 : decode cL_law 240 = .ok (.iadd, 1) := by decide +kernel
theorem dL_law_241 : decode cL_law 241 = .ok (.iaload, 1) := by decide +kernel
theorem dL_law_242 : decode cL_law 242 = .ok (.aload_n 0, 1) := by decide +kernel
theorem dL_law_243 : decode cL_law 243 = .ok (.iload 4, 2) := by decide +kernel
theorem dL_law_245 : decode cL_law 245 = .ok (.iconst 4, 1) := by decide +kernel
theorem dL_law_246 : decode cL_law 246 = .ok (.iadd, 1) := by decide +kernel
theorem dL_law_247 : decode cL_law 247 = .ok (.iaload, 1) := by decide +kernel
theorem dL_law_248 : decode cL_law 248 = .ok (.invokevirtual 84, 3) := by decide +kernel
theorem dL_law_251 : decode cL_law 251 = .ok (.istore 6, 2) := by decide +kernel
theorem dL_law_253 : decode cL_law 253 = .ok (.aload_n 2, 1) := by decide +kernel
theorem dL_law_254 : decode cL_law 254 = .ok (.invokevirtual 77, 3) := by decide +kernel
theorem dL_law_257 : decode cL_law 257 = .ok (.iload 5, 2) := by decide +kernel
theorem dL_law_259 : decode cL_law 259 = .ok (.if_icmp .eq 5, 3) := by decide +kernel
theorem dL_law_262 : decode cL_law 262 = .ok (.iconst 0, 1) := by decide +kernel
theorem dL_law_263 : decode cL_law 263 = .ok (.ireturn, 1) := by decide +kernel
theorem dL_law_264 : decode cL_law 264 = .ok (.iload 5, 2) := by decide +kernel
theorem dL_law_266 : decode cL_law 266 = .ok (.ifCond .ne 15, 3) := by decide +kernel
theorem dL_law_269 : decode cL_law 269 = .ok (.aload_n 3, 1) := by decide +kernel
theorem dL_law_270 : decode cL_law 270 = .ok (.iconst 0, 1) := by decide +kernel
theorem dL_law_271 : decode cL_law 271 = .ok (.laload, 1) := by decide +kernel
theorem dL_law_272 : decode cL_law 272 = .ok (.iload 6, 2) := by decide +kernel
theorem dL_law_274 : decode cL_law 274 = .ok (.i2l, 1) := by decide +kernel
theorem dL_law_275 : decode cL_law 275 = .ok (.lcmp, 1) := by decide +kernel
theorem dL_law_276 : decode cL_law 276 = .ok (.ifCond .eq 5, 3) := by decide +kernel
theorem dL_law_279 : decode cL_law 279 = .ok (.iconst 0, 1) := by decide +kernel
theorem dL_law_280 : decode cL_law 280 = .ok (.ireturn, 1) := by decide +kernel
theorem dL_law_281 : decode cL_law 281 = .ok (.goto 962, 3) := by decide +kernel
theorem dL_law_284 : decode cL_law 284 = .ok (.aload_n 1, 1) := by decide +kernel
theorem dL_law_285 : decode cL_law 285 = .ok (.aload_n 0, 1) := by decide +kernel
theorem dL_law_286 : decode cL_law 286 = .ok (.iload 4, 2) := by decide +kernel
theorem dL_law_288 : decode cL_law 288 = .ok (.iconst 1, 1) := by decide +kernel
theorem dL_law_289 : decode cL_law 289 = .ok (.iadd, 1) := by decide +kernel
theorem dL_law_290 : decode cL_law 290 = .ok (.iaload, 1) := by decide +kernel
theorem dL_law_291 : decode cL_law 291 = .ok (.aload_n 0, 1) := by decide +kernel
theorem dL_law_292 : decode cL_law 292 = .ok (.iload 4, 2) := by decide +kernel
theorem dL_law_294 : decode cL_law 294 = .ok (.iconst 2, 1) := by decide +kernel
theorem dL_law_295 : decode cL_law 295 = .ok (.iadd, 1) := by decide +kernel
theorem dL_law_296 : decode cL_law 296 = .ok (.iaload, 1) := by decide +kernel
theorem dL_law_297 : decode cL_law 297 = .ok (.aload_n 3, 1) := by decide +kernel
theorem dL_law_298 : decode cL_law 298 = .ok (.invokestatic 85, 3) := by decide +kernel
theorem dL_law_301 : decode cL_law 301 = .ok (.istore 5, 2) := by decide +kernel
theorem dL_law_303 : decode cL_law 303 = .ok (.aload_n 2, 1) := by decide +kernel
theorem dL_law_304 : decode cL_law 304 = .ok (.aload_n 0, 1) := by decide +kernel
theorem dL_law_305 : decode cL_law 305 = .ok (.iload 4, 2) := by decide +kernel
theorem dL_law_307 : decode cL_law 307 = .ok (.iconst 1, 1) := by decide +kernel
theorem dL_law_308 : decode cL_law 308 = .ok (.iadd, 1) := by decide +kernel
theorem dL_law_309 : decode cL_law 309 = .ok (.iaload, 1) := by decide +kernel
theorem dL_law_310 : decode cL_law 310 = .ok (.aload_n 0, 1) := by decide +kernel
theorem dL_law_311 : decode cL_law 311 = .ok (.iload 4, 2) := by decide +kernel
theorem dL_law_313 : decode cL_law 313 = .ok (.iconst 2, 1) := by decide +kernel
theorem dL_law_314 : decode cL_law 314 = .ok (.iadd, 1) := by decide +kernel
theorem dL_law_315 : decode cL_law 315 = .ok (.iaload, 1) := by decide +kernel
theorem dL_law_316 : decode cL_law 316 = .ok (.invokevirtual 87, 3) := by decide +kernel
theorem dL_law_319 : decode cL_law 319 = .ok (.istore 6, 2) := by decide +kernel
theorem dL_law_321 : decode cL_law 321 = .ok (.aload_n 2, 1) := by decide +kernel
theorem dL_law_322 : decode cL_law 322 = .ok (.invokevirtual 77, 3) := by decide +kernel
theorem dL_law_325 : decode cL_law 325 = .ok (.iload 5, 2) := by decide +kernel
theorem dL_law_327 : decode cL_law 327 = .ok (.if_icmp .eq 5, 3) := by decide +kernel
theorem dL_law_330 : decode cL_law 330 = .ok (.iconst 0, 1) := by decide +kernel
theorem dL_law_331 : decode cL_law 331 = .ok (.ireturn, 1) := by decide +kernel
theorem dL_law_332 : decode cL_law 332 = .ok (.iload 5, 2) := by decide +kernel
theorem dL_law_334 : decode cL_law 334 = .ok (.ifCond .ne 15, 3) := by decide +kernel
theorem dL_law_337 : decode cL_law 337 = .ok (.aload_n 3, 1) := by decide +kernel
theorem dL_law_338 : decode cL_law 338 = .ok (.iconst 0, 1) := by decide +kernel
theorem dL_law_339 : decode cL_law 339 = .ok (.laload, 1) := by decide +kernel
theorem dL_law_340 : decode cL_law 340 = .ok (.iload 6, 2) := by decide +kernel
theorem dL_law_342 : decode cL_law 342 = .ok (.i2l, 1) := by decide +kernel
theorem dL_law_343 : decode cL_law 343 = .ok (.lcmp, 1) := by decide +kernel
theorem dL_law_344 : decode cL_law 344 = .ok (.ifCond .eq 5, 3) := by decide +kernel
theorem dL_law_347 : decode cL_law 347 = .ok (.iconst 0, 1) := by decide +kernel
theorem dL_law_348 : decode cL_law 348 = .ok (.ireturn, 1) := by decide +kernel
theorem dL_law_349 : decode cL_law 349 = .ok (.goto 894, 3) := by decide +kernel
theorem dL_law_352 : decode cL_law 352 = .ok (.aload_n 1, 1) := by decide +kernel
theorem dL_law_353 : decode cL_law 353 = .ok (.aload_n 0, 1) := by decide +kernel
theorem dL_law_354 : decode cL_law 354 = .ok (.iload 4, 2) := by decide +kernel
theorem dL_law_356 : decode cL_law 356 = .ok (.iconst 1, 1) := by decide +kernel
theorem dL_law_357 : decode cL_law 357 = .ok (.iadd, 1) := by decide +kernel
theorem dL_law_358 : decode cL_law 358 = .ok (.iaload, 1) := by decide +kernel
theorem dL_law_359 : decode cL_law 359 = .ok (.aload_n 3, 1) := by decide +kernel
theorem dL_law_360 : decode cL_law 360 = .ok (.invokestatic 88, 3) := by decide +kernel
theorem dL_law_363 : decode cL_law 363 = .ok (.istore 5, 2) := by decide +kernel
theorem dL_law_365 : decode cL_law 365 = .ok (.aload_n 2, 1) := by decide +kernel
theorem dL_law_366 : decode cL_law 366 = .ok (.aload_n 0, 1) := by decide +kernel
theorem dL_law_367 : decode cL_law 367 = .ok (.iload 4, 2) := by decide +kernel
theorem dL_law_369 : decode cL_law 369 = .ok (.iconst 1, 1) := by decide +kernel
theorem dL_law_370 : decode cL_law 370 = .ok (.iadd, 1) := by decide +kernel
theorem dL_law_371 : decode cL_law 371 = .ok (.iaload, 1) := by decide +kernel
theorem dL_law_372 : decode cL_law 372 = .ok (.invokevirtual 91, 3) := by decide +kernel
theorem dL_law_375 : decode cL_law 375 = .ok (.istore 6, 2) := by decide +kernel
theorem dL_law_377 : decode cL_law 377 = .ok (.aload_n 2, 1) := by decide +kernel
theorem dL_law_378 : decode cL_law 378 = .ok (.invokevirtual 77, 3) := by decide +kernel
theorem dL_law_381 : decode cL_law 381 = .ok (.iload 5, 2) := by decide +kernel
theorem dL_law_383 : decode cL_law 383 = .ok (.if_icmp .eq 5, 3) := by decide +kernel
theorem dL_law_386 : decode cL_law 386 = .ok (.iconst 0, 1) := by decide +kernel
theorem dL_law_387 : decode cL_law 387 = .ok (.ireturn, 1) := by decide +kernel
theorem dL_law_388 : decode cL_law 388 = .ok (.iload 5, 2) := by decide +kernel
theorem dL_law_390 : decode cL_law 390 = .ok (.ifCond .ne 15, 3) := by decide +kernel
theorem dL_law_393 : decode cL_law 393 = .ok (.aload_n 3, 1) := by decide +kernel
theorem dL_law_394 : decode cL_law 394 = .ok (.iconst 0, 1) := by decide +kernel
theorem dL_law_395 : decode cL_law 395 = .ok (.laload, 1) := by decide +kernel
theorem dL_law_396 : decode cL_law 396 = .ok (.iload 6, 2) := by decide +kernel
theorem dL_law_398 : decode cL_law 398 = .ok (.i2l, 1) := by decide +kernel
theorem dL_law_399 : decode cL_law 399 = .ok (.lcmp, 1) := by decide +kernel
theorem dL_law_400 : decode cL_law 400 = .ok (.ifCond .eq 5, 3) := by decide +kernel
theorem dL_law_403 : decode cL_law 403 = .ok (.iconst 0, 1) := by decide +kernel
theorem dL_law_404 : decode cL_law 404 = .ok (.ireturn, 1) := by decide +kernel
theorem dL_law_405 : decode cL_law 405 = .ok (.goto 838, 3) := by decide +kernel
theorem dL_law_408 : decode cL_law 408 = .ok (.aload_n 1, 1) := by decide +kernel
theorem dL_law_409 : decode cL_law 409 = .ok (.aload_n 0, 1) := by decide +kernel
theorem dL_law_410 : decode cL_law 410 = .ok (.iload 4, 2) := by decide +kernel
theorem dL_law_412 : decode cL_law 412 = .ok (.iconst 1, 1) := by decide +kernel
theorem dL_law_413 : decode cL_law 413 = .ok (.iadd, 1) := by decide +kernel
theorem dL_law_414 : decode cL_law 414 = .ok (.iaload, 1) := by decide +kernel
theorem dL_law_415 : decode cL_law 415 = .ok (.aload_n 0, 1) := by decide +kernel
theorem dL_law_416 : decode cL_law 416 = .ok (.iload 4, 2) := by decide +kernel
theorem dL_law_418 : decode cL_law 418 = .ok (.iconst 2, 1) := by decide +kernel
theorem dL_law_419 : decode cL_law 419 = .ok (.iadd, 1) := by decide +kernel
theorem dL_law_420 : decode cL_law 420 = .ok (.iaload, 1) := by decide +kernel
theorem dL_law_421 : decode cL_law 421 = .ok (.aload_n 3, 1) := by decide +kernel
theorem dL_law_422 : decode cL_law 422 = .ok (.invokestatic 92, 3) := by decide +kernel
theorem dL_law_425 : decode cL_law 425 = .ok (.istore 5, 2) := by decide +kernel
theorem dL_law_427 : decode cL_law 427 = .ok (.aload_n 2, 1) := by decide +kernel
theorem dL_law_428 : decode cL_law 428 = .ok (.aload_n 0, 1) := by decide +kernel
theorem dL_law_429 : decode cL_law 429 = .ok (.iload 4, 2) := by decide +kernel
theorem dL_law_431 : decode cL_law 431 = .ok (.iconst 1, 1) := by decide +kernel
theorem dL_law_432 : decode cL_law 432 = .ok (.iadd, 1) := by decide +kernel
theorem dL_law_433 : decode cL_law 433 = .ok (.iaload, 1) := by decide +kernel
theorem dL_law_434 : decode cL_law 434 = .ok (.aload_n 0, 1) := by decide +kernel
theorem dL_law_435 : decode cL_law 435 = .ok (.iload 4, 2) := by decide +kernel
theorem dL_law_437 : decode cL_law 437 = .ok (.iconst 2, 1) := by decide +kernel
theorem dL_law_438 : decode cL_law 438 = .ok (.iadd, 1) := by decide +kernel
theorem dL_law_439 : decode cL_law 439 = .ok (.iaload, 1) := by decide +kernel
theorem dL_law_440 : decode cL_law 440 = .ok (.invokevirtual 94, 3) := by decide +kernel
theorem dL_law_443 : decode cL_law 443 = .ok (.istore 6, 2) := by decide +kernel
theorem dL_law_445 : decode cL_law 445 = .ok (.aload_n 2, 1) := by decide +kernel
theorem dL_law_446 : decode cL_law 446 = .ok (.invokevirtual 77, 3) := by decide +kernel
theorem dL_law_449 : decode cL_law 449 = .ok (.iload 5, 2) := by decide +kernel
theorem dL_law_451 : decode cL_law 451 = .ok (.if_icmp .eq 5, 3) := by decide +kernel
theorem dL_law_454 : decode cL_law 454 = .ok (.iconst 0, 1) := by decide +kernel
theorem dL_law_455 : decode cL_law 455 = .ok (.ireturn, 1) := by decide +kernel
theorem dL_law_456 : decode cL_law 456 = .ok (.iload 5, 2) := by decide +kernel
theorem dL_law_458 : decode cL_law 458 = .ok (.ifCond .ne 15, 3) := by decide +kernel
theorem dL_law_461 : decode cL_law 461 = .ok (.aload_n 3, 1) := by decide +kernel
theorem dL_law_462 : decode cL_law 462 = .ok (.iconst 0, 1) := by decide +kernel
theorem dL_law_463 : decode cL_law 463 = .ok (.laload, 1) := by decide +kernel
theorem dL_law_464 : decode cL_law 464 = .ok (.iload 6, 2) := by decide +kernel
theorem dL_law_466 : decode cL_law 466 = .ok (.i2l, 1) := by decide +kernel
theorem dL_law_467 : decode cL_law 467 = .ok (.lcmp, 1) := by decide +kernel
theorem dL_law_468 : decode cL_law 468 = .ok (.ifCond .eq 5, 3) := by decide +kernel
theorem dL_law_471 : decode cL_law 471 = .ok (.iconst 0, 1) := by decide +kernel
theorem dL_law_472 : decode cL_law 472 = .ok (.ireturn, 1) := by decide +kernel
theorem dL_law_473 : decode cL_law 473 = .ok (.goto 770, 3) := by decide +kernel
theorem dL_law_476 : decode cL_law 476 = .ok (.aload_n 1, 1) := by decide +kernel
theorem dL_law_477 : decode cL_law 477 = .ok (.aload_n 0, 1) := by decide +kernel
theorem dL_law_478 : decode cL_law 478 = .ok (.iload 4, 2) := by decide +kernel
theorem dL_law_480 : decode cL_law 480 = .ok (.iconst 1, 1) := by decide +kernel
theorem dL_law_481 : decode cL_law 481 = .ok (.iadd, 1) := by decide +kernel
theorem dL_law_482 : decode cL_law 482 = .ok (.iaload, 1) := by decide +kernel
theorem dL_law_483 : decode cL_law 483 = .ok (.aload_n 0, 1) := by decide +kernel
theorem dL_law_484 : decode cL_law 484 = .ok (.iload 4, 2) := by decide +kernel
theorem dL_law_486 : decode cL_law 486 = .ok (.iconst 2, 1) := by decide +kernel
theorem dL_law_487 : decode cL_law 487 = .ok (.iadd, 1) := by decide +kernel
theorem dL_law_488 : decode cL_law 488 = .ok (.iaload, 1) := by decide +kernel
theorem dL_law_489 : decode cL_law 489 = .ok (.aload_n 3, 1) := by decide +kernel
theorem dL_law_490 : decode cL_law 490 = .ok (.invokestatic 95, 3) := by decide +kernel
theorem dL_law_493 : decode cL_law 493 = .ok (.istore 5, 2) := by decide +kernel
theorem dL_law_495 : decode cL_law 495 = .ok (.aload_n 2, 1) := by decide +kernel
theorem dL_law_496 : decode cL_law 496 = .ok (.aload_n 0, 1) := by decide +kernel
theorem dL_law_497 : decode cL_law 497 = .ok (.iload 4, 2) := by decide +kernel
theorem dL_law_499 : decode cL_law 499 = .ok (.iconst 1, 1) := by decide +kernel
theorem dL_law_500 : decode cL_law 500 = .ok (.iadd, 1) := by decide +kernel
theorem dL_law_501 : decode cL_law 501 = .ok (.iaload, 1) := by decide +kernel
theorem dL_law_502 : decode cL_law 502 = .ok (.aload_n 0, 1) := by decide +kernel
theorem dL_law_503 : decode cL_law 503 = .ok (.iload 4, 2) := by decide +kernel
theorem dL_law_505 : decode cL_law 505 = .ok (.iconst 2, 1) := by decide +kernel
theorem dL_law_506 : decode cL_law 506 = .ok (.iadd, 1) := by decide +kernel
theorem dL_law_507 : decode cL_law 507 = .ok (.iaload, 1) := by decide +kernel
theorem dL_law_508 : decode cL_law 508 = .ok (.invokevirtual 97, 3) := by decide +kernel
theorem dL_law_511 : decode cL_law 511 = .ok (.istore 6, 2) := by decide +kernel
theorem dL_law_513 : decode cL_law 513 = .ok (.aload_n 2, 1) := by decide +kernel
theorem dL_law_514 : decode cL_law 514 = .ok (.invokevirtual 77, 3) := by decide +kernel
theorem dL_law_517 : decode cL_law 517 = .ok (.iload 5, 2) := by decide +kernel
theorem dL_law_519 : decode cL_law 519 = .ok (.if_icmp .eq 5, 3) := by decide +kernel
theorem dL_law_522 : decode cL_law 522 = .ok (.iconst 0, 1) := by decide +kernel
theorem dL_law_523 : decode cL_law 523 = .ok (.ireturn, 1) := by decide +kernel
theorem dL_law_524 : decode cL_law 524 = .ok (.iload 5, 2) := by decide +kernel
theorem dL_law_526 : decode cL_law 526 = .ok (.ifCond .ne 15, 3) := by decide +kernel
theorem dL_law_529 : decode cL_law 529 = .ok (.aload_n 3, 1) := by decide +kernel
theorem dL_law_530 : decode cL_law 530 = .ok (.iconst 0, 1) := by decide +kernel
theorem dL_law_531 : decode cL_law 531 = .ok (.laload, 1) := by decide +kernel
theorem dL_law_532 : decode cL_law 532 = .ok (.iload 6, 2) := by decide +kernel
theorem dL_law_534 : decode cL_law 534 = .ok (.i2l, 1) := by decide +kernel
theorem dL_law_535 : decode cL_law 535 = .ok (.lcmp, 1) := by decide +kernel
theorem dL_law_536 : decode cL_law 536 = .ok (.ifCond .eq 5, 3) := by decide +kernel
theorem dL_law_539 : decode cL_law 539 = .ok (.iconst 0, 1) := by decide +kernel
theorem dL_law_540 : decode cL_law 540 = .ok (.ireturn, 1) := by decide +kernel
theorem dL_law_541 : decode cL_law 541 = .ok (.goto 702, 3) := by decide +kernel
theorem dL_law_544 : decode cL_law 544 = .ok (.aload_n 1, 1) := by decide +kernel
theorem dL_law_545 : decode cL_law 545 = .ok (.aload_n 0, 1) := by decide +kernel
theorem dL_law_546 : decode cL_law 546 = .ok (.iload 4, 2) := by decide +kernel
theorem dL_law_548 : decode cL_law 548 = .ok (.iconst 1, 1) := by decide +kernel
theorem dL_law_549 : decode cL_law 549 = .ok (.iadd, 1) := by decide +kernel
theorem dL_law_550 : decode cL_law 550 = .ok (.iaload, 1) := by decide +kernel
theorem dL_law_551 : decode cL_law 551 = .ok (.aload_n 3, 1) := by decide +kernel
theorem dL_law_552 : decode cL_law 552 = .ok (.invokestatic 98, 3) := by decide +kernel
theorem dL_law_555 : decode cL_law 555 = .ok (.istore 5, 2) := by decide +kernel
theorem dL_law_557 : decode cL_law 557 = .ok (.aload_n 2, 1) := by decide +kernel
theorem dL_law_558 : decode cL_law 558 = .ok (.aload_n 0, 1) := by decide +kernel
theorem dL_law_559 : decode cL_law 559 = .ok (.iload 4, 2) := by decide +kernel
theorem dL_law_561 : decode cL_law 561 = .ok (.iconst 1, 1) := by decide +kernel
theorem dL_law_562 : decode cL_law 562 = .ok (.iadd, 1) := by decide +kernel
theorem dL_law_563 : decode cL_law 563 = .ok (.iaload, 1) := by decide +kernel
theorem dL_law_564 : decode cL_law 564 = .ok (.invokevirtual 100, 3) := by decide +kernel
theorem dL_law_567 : decode cL_law 567 = .ok (.istore 6, 2) := by decide +kernel
theorem dL_law_569 : decode cL_law 569 = .ok (.aload_n 2, 1) := by decide +kernel
theorem dL_law_570 : decode cL_law 570 = .ok (.invokevirtual 77, 3) := by decide +kernel
theorem dL_law_573 : decode cL_law 573 = .ok (.iload 5, 2) := by decide +kernel
theorem dL_law_575 : decode cL_law 575 = .ok (.if_icmp .eq 5, 3) := by decide +kernel
theorem dL_law_578 : decode cL_law 578 = .ok (.iconst 0, 1) := by decide +kernel
theorem dL_law_579 : decode cL_law 579 = .ok (.ireturn, 1) := by decide +kernel
theorem dL_law_580 : decode cL_law 580 = .ok (.iload 5, 2) := by decide +kernel
theorem dL_law_582 : decode cL_law 582 = .ok (.ifCond .ne 15, 3) := by decide +kernel
theorem dL_law_585 : decode cL_law 585 = .ok (.aload_n 3, 1) := by decide +kernel
theorem dL_law_586 : decode cL_law 586 = .ok (.iconst 0, 1) := by decide +kernel
theorem dL_law_587 : decode cL_law 587 = .ok (.laload, 1) := by decide +kernel
theorem dL_law_588 : decode cL_law 588 = .ok (.iload 6, 2) := by decide +kernel
theorem dL_law_590 : decode cL_law 590 = .ok (.i2l, 1) := by decide +kernel
theorem dL_law_591 : decode cL_law 591 = .ok (.lcmp, 1) := by decide +kernel
theorem dL_law_592 : decode cL_law 592 = .ok (.ifCond .eq 5, 3) := by decide +kernel
theorem dL_law_595 : decode cL_law 595 = .ok (.iconst 0, 1) := by decide +kernel
theorem dL_law_596 : decode cL_law 596 = .ok (.ireturn, 1) := by decide +kernel
theorem dL_law_597 : decode cL_law 597 = .ok (.goto 646, 3) := by decide +kernel
theorem dL_law_600 : decode cL_law 600 = .ok (.aload_n 1, 1) := by decide +kernel
theorem dL_law_601 : decode cL_law 601 = .ok (.aload_n 0, 1) := by decide +kernel
theorem dL_law_602 : decode cL_law 602 = .ok (.iload 4, 2) := by decide +kernel
theorem dL_law_604 : decode cL_law 604 = .ok (.iconst 1, 1) := by decide +kernel
theorem dL_law_605 : decode cL_law 605 = .ok (.iadd, 1) := by decide +kernel
theorem dL_law_606 : decode cL_law 606 = .ok (.iaload, 1) := by decide +kernel
theorem dL_law_607 : decode cL_law 607 = .ok (.aload_n 3, 1) := by decide +kernel
theorem dL_law_608 : decode cL_law 608 = .ok (.invokestatic 101, 3) := by decide +kernel
theorem dL_law_611 : decode cL_law 611 = .ok (.istore 5, 2) := by decide +kernel
theorem dL_law_613 : decode cL_law 613 = .ok (.aload_n 2, 1) := by decide +kernel
theorem dL_law_614 : decode cL_law 614 = .ok (.aload_n 0, 1) := by decide +kernel
theorem dL_law_615 : decode cL_law 615 = .ok (.iload 4, 2) := by decide +kernel
theorem dL_law_617 : decode cL_law 617 = .ok (.iconst 1, 1) := by decide +kernel
theorem dL_law_618 : decode cL_law 618 = .ok (.iadd, 1) := by decide +kernel
theorem dL_law_619 : decode cL_law 619 = .ok (.iaload, 1) := by decide +kernel
theorem dL_law_620 : decode cL_law 620 = .ok (.invokevirtual 103, 3) := by decide +kernel
theorem dL_law_623 : decode cL_law 623 = .ok (.istore 6, 2) := by decide +kernel
theorem dL_law_625 : decode cL_law 625 = .ok (.aload_n 2, 1) := by decide +kernel
theorem dL_law_626 : decode cL_law 626 = .ok (.invokevirtual 77, 3) := by decide +kernel
theorem dL_law_629 : decode cL_law 629 = .ok (.iload 5, 2) := by decide +kernel
theorem dL_law_631 : decode cL_law 631 = .ok (.if_icmp .eq 5, 3) := by decide +kernel
theorem dL_law_634 : decode cL_law 634 = .ok (.iconst 0, 1) := by decide +kernel
theorem dL_law_635 : decode cL_law 635 = .ok (.ireturn, 1) := by decide +kernel
theorem dL_law_636 : decode cL_law 636 = .ok (.iload 5, 2) := by decide +kernel
theorem dL_law_638 : decode cL_law 638 = .ok (.ifCond .ne 15, 3) := by decide +kernel
theorem dL_law_641 : decode cL_law 641 = .ok (.aload_n 3, 1) := by decide +kernel
theorem dL_law_642 : decode cL_law 642 = .ok (.iconst 0, 1) := by decide +kernel
theorem dL_law_643 : decode cL_law 643 = .ok (.laload, 1) := by decide +kernel
theorem dL_law_644 : decode cL_law 644 = .ok (.iload 6, 2) := by decide +kernel
theorem dL_law_646 : decode cL_law 646 = .ok (.i2l, 1) := by decide +kernel
theorem dL_law_647 : decode cL_law 647 = .ok (.lcmp, 1) := by decide +kernel
theorem dL_law_648 : decode cL_law 648 = .ok (.ifCond .eq 5, 3) := by decide +kernel
theorem dL_law_651 : decode cL_law 651 = .ok (.iconst 0, 1) := by decide +kernel
theorem dL_law_652 : decode cL_law 652 = .ok (.ireturn, 1) := by decide +kernel
theorem dL_law_653 : decode cL_law 653 = .ok (.goto 590, 3) := by decide +kernel
theorem dL_law_656 : decode cL_law 656 = .ok (.aload_n 1, 1) := by decide +kernel
theorem dL_law_657 : decode cL_law 657 = .ok (.aload_n 0, 1) := by decide +kernel
theorem dL_law_658 : decode cL_law 658 = .ok (.iload 4, 2) := by decide +kernel
theorem dL_law_660 : decode cL_law 660 = .ok (.iconst 1, 1) := by decide +kernel
theorem dL_law_661 : decode cL_law 661 = .ok (.iadd, 1) := by decide +kernel
theorem dL_law_662 : decode cL_law 662 = .ok (.iaload, 1) := by decide +kernel
theorem dL_law_663 : decode cL_law 663 = .ok (.aload_n 0, 1) := by decide +kernel
theorem dL_law_664 : decode cL_law 664 = .ok (.iload 4, 2) := by decide +kernel
theorem dL_law_666 : decode cL_law 666 = .ok (.iconst 2, 1) := by decide +kernel
theorem dL_law_667 : decode cL_law 667 = .ok (.iadd, 1) := by decide +kernel
theorem dL_law_668 : decode cL_law 668 = .ok (.iaload, 1) := by decide +kernel
theorem dL_law_669 : decode cL_law 669 = .ok (.aload_n 3, 1) := by decide +kernel
theorem dL_law_670 : decode cL_law 670 = .ok (.invokestatic 104, 3) := by decide +kernel
theorem dL_law_673 : decode cL_law 673 = .ok (.istore 5, 2) := by decide +kernel
theorem dL_law_675 : decode cL_law 675 = .ok (.aload_n 2, 1) := by decide +kernel
theorem dL_law_676 : decode cL_law 676 = .ok (.aload_n 0, 1) := by decide +kernel
theorem dL_law_677 : decode cL_law 677 = .ok (.iload 4, 2) := by decide +kernel
theorem dL_law_679 : decode cL_law 679 = .ok (.iconst 1, 1) := by decide +kernel
theorem dL_law_680 : decode cL_law 680 = .ok (.iadd, 1) := by decide +kernel
theorem dL_law_681 : decode cL_law 681 = .ok (.iaload, 1) := by decide +kernel
theorem dL_law_682 : decode cL_law 682 = .ok (.aload_n 0, 1) := by decide +kernel
theorem dL_law_683 : decode cL_law 683 = .ok (.iload 4, 2) := by decide +kernel
theorem dL_law_685 : decode cL_law 685 = .ok (.iconst 2, 1) := by decide +kernel
theorem dL_law_686 : decode cL_law 686 = .ok (.iadd, 1) := by decide +kernel
theorem dL_law_687 : decode cL_law 687 = .ok (.iaload, 1) := by decide +kernel
theorem dL_law_688 : decode cL_law 688 = .ok (.invokevirtual 106, 3) := by decide +kernel
theorem dL_law_691 : decode cL_law 691 = .ok (.istore 6, 2) := by decide +kernel
theorem dL_law_693 : decode cL_law 693 = .ok (.aload_n 2, 1) := by decide +kernel
theorem dL_law_694 : decode cL_law 694 = .ok (.invokevirtual 77, 3) := by decide +kernel
theorem dL_law_697 : decode cL_law 697 = .ok (.iload 5, 2) := by decide +kernel
theorem dL_law_699 : decode cL_law 699 = .ok (.if_icmp .eq 5, 3) := by decide +kernel
theorem dL_law_702 : decode cL_law 702 = .ok (.iconst 0, 1) := by decide +kernel
theorem dL_law_703 : decode cL_law 703 = .ok (.ireturn, 1) := by decide +kernel
theorem dL_law_704 : decode cL_law 704 = .ok (.iload 5, 2) := by decide +kernel
theorem dL_law_706 : decode cL_law 706 = .ok (.ifCond .ne 15, 3) := by decide +kernel
theorem dL_law_709 : decode cL_law 709 = .ok (.aload_n 3, 1) := by decide +kernel
theorem dL_law_710 : decode cL_law 710 = .ok (.iconst 0, 1) := by decide +kernel
theorem dL_law_711 : decode cL_law 711 = .ok (.laload, 1) := by decide +kernel
theorem dL_law_712 : decode cL_law 712 = .ok (.iload 6, 2) := by decide +kernel
theorem dL_law_714 : decode cL_law 714 = .ok (.i2l, 1) := by decide +kernel
theorem dL_law_715 : decode cL_law 715 = .ok (.lcmp, 1) := by decide +kernel
theorem dL_law_716 : decode cL_law 716 = .ok (.ifCond .eq 5, 3) := by decide +kernel
theorem dL_law_719 : decode cL_law 719 = .ok (.iconst 0, 1) := by decide +kernel
theorem dL_law_720 : decode cL_law 720 = .ok (.ireturn, 1) := by decide +kernel
theorem dL_law_721 : decode cL_law 721 = .ok (.goto 522, 3) := by decide +kernel
theorem dL_law_724 : decode cL_law 724 = .ok (.aload_n 1, 1) := by decide +kernel
theorem dL_law_725 : decode cL_law 725 = .ok (.aload_n 0, 1) := by decide +kernel
theorem dL_law_726 : decode cL_law 726 = .ok (.iload 4, 2) := by decide +kernel
theorem dL_law_728 : decode cL_law 728 = .ok (.iconst 1, 1) := by decide +kernel
theorem dL_law_729 : decode cL_law 729 = .ok (.iadd, 1) := by decide +kernel
theorem dL_law_730 : decode cL_law 730 = .ok (.iaload, 1) := by decide +kernel
theorem dL_law_731 : decode cL_law 731 = .ok (.aload_n 0, 1) := by decide +kernel
theorem dL_law_732 : decode cL_law 732 = .ok (.iload 4, 2) := by decide +kernel
theorem dL_law_734 : decode cL_law 734 = .ok (.iconst 2, 1) := by decide +kernel
theorem dL_law_735 : decode cL_law 735 = .ok (.iadd, 1) := by decide +kernel
theorem dL_law_736 : decode cL_law 736 = .ok (.iaload, 1) := by decide +kernel
theorem dL_law_737 : decode cL_law 737 = .ok (.aload_n 3, 1) := by decide +kernel
theorem dL_law_738 : decode cL_law 738 = .ok (.invokestatic 107, 3) := by decide +kernel
theorem dL_law_741 : decode cL_law 741 = .ok (.istore 5, 2) := by decide +kernel
theorem dL_law_743 : decode cL_law 743 = .ok (.aload_n 2, 1) := by decide +kernel
theorem dL_law_744 : decode cL_law 744 = .ok (.aload_n 0, 1) := by decide +kernel
theorem dL_law_745 : decode cL_law 745 = .ok (.iload 4, 2) := by decide +kernel
theorem dL_law_747 : decode cL_law 747 = .ok (.iconst 1, 1) := by decide +kernel
theorem dL_law_748 : decode cL_law 748 = .ok (.iadd, 1) := by decide +kernel
theorem dL_law_749 : decode cL_law 749 = .ok (.iaload, 1) := by decide +kernel
theorem dL_law_750 : decode cL_law 750 = .ok (.aload_n 0, 1) := by decide +kernel
theorem dL_law_751 : decode cL_law 751 = .ok (.iload 4, 2) := by decide +kernel
theorem dL_law_753 : decode cL_law 753 = .ok (.iconst 2, 1) := by decide +kernel
theorem dL_law_754 : decode cL_law 754 = .ok (.iadd, 1) := by decide +kernel
theorem dL_law_755 : decode cL_law 755 = .ok (.iaload, 1) := by decide +kernel
theorem dL_law_756 : decode cL_law 756 = .ok (.invokevirtual 109, 3) := by decide +kernel
theorem dL_law_759 : decode cL_law 759 = .ok (.istore 6, 2) := by decide +kernel
theorem dL_law_761 : decode cL_law 761 = .ok (.aload_n 2, 1) := by decide +kernel
theorem dL_law_762 : decode cL_law 762 = .ok (.invokevirtual 77, 3) := by decide +kernel
theorem dL_law_765 : decode cL_law 765 = .ok (.iload 5, 2) := by decide +kernel
theorem dL_law_767 : decode cL_law 767 = .ok (.if_icmp .eq 5, 3) := by decide +kernel
theorem dL_law_770 : decode cL_law 770 = .ok (.iconst 0, 1) := by decide +kernel
theorem dL_law_771 : decode cL_law 771 = .ok (.ireturn, 1) := by decide +kernel
theorem dL_law_772 : decode cL_law 772 = .ok (.iload 5, 2) := by decide +kernel
theorem dL_law_774 : decode cL_law 774 = .ok (.ifCond .ne 15, 3) := by decide +kernel
theorem dL_law_777 : decode cL_law 777 = .ok (.aload_n 3, 1) := by decide +kernel
theorem dL_law_778 : decode cL_law 778 = .ok (.iconst 0, 1) := by decide +kernel
theorem dL_law_779 : decode cL_law 779 = .ok (.laload, 1) := by decide +kernel
theorem dL_law_780 : decode cL_law 780 = .ok (.iload 6, 2) := by decide +kernel
theorem dL_law_782 : decode cL_law 782 = .ok (.i2l, 1) := by decide +kernel
theorem dL_law_783 : decode cL_law 783 = .ok (.lcmp, 1) := by decide +kernel
theorem dL_law_784 : decode cL_law 784 = .ok (.ifCond .eq 5, 3) := by decide +kernel
theorem dL_law_787 : decode cL_law 787 = .ok (.iconst 0, 1) := by decide +kernel
theorem dL_law_788 : decode cL_law 788 = .ok (.ireturn, 1) := by decide +kernel
theorem dL_law_789 : decode cL_law 789 = .ok (.goto 454, 3) := by decide +kernel
theorem dL_law_792 : decode cL_law 792 = .ok (.aload_n 1, 1) := by decide +kernel
theorem dL_law_793 : decode cL_law 793 = .ok (.aload_n 0, 1) := by decide +kernel
theorem dL_law_794 : decode cL_law 794 = .ok (.iload 4, 2) := by decide +kernel
theorem dL_law_796 : decode cL_law 796 = .ok (.iconst 1, 1) := by decide +kernel
theorem dL_law_797 : decode cL_law 797 = .ok (.iadd, 1) := by decide +kernel
theorem dL_law_798 : decode cL_law 798 = .ok (.iaload, 1) := by decide +kernel
theorem dL_law_799 : decode cL_law 799 = .ok (.aload_n 0, 1) := by decide +kernel
theorem dL_law_800 : decode cL_law 800 = .ok (.iload 4, 2) := by decide +kernel
theorem dL_law_802 : decode cL_law 802 = .ok (.iconst 2, 1) := by decide +kernel
theorem dL_law_803 : decode cL_law 803 = .ok (.iadd, 1) := by decide +kernel
theorem dL_law_804 : decode cL_law 804 = .ok (.iaload, 1) := by decide +kernel
theorem dL_law_805 : decode cL_law 805 = .ok (.aload_n 3, 1) := by decide +kernel
theorem dL_law_806 : decode cL_law 806 = .ok (.invokestatic 110, 3) := by decide +kernel
theorem dL_law_809 : decode cL_law 809 = .ok (.istore 5, 2) := by decide +kernel
theorem dL_law_811 : decode cL_law 811 = .ok (.aload_n 2, 1) := by decide +kernel
theorem dL_law_812 : decode cL_law 812 = .ok (.aload_n 0, 1) := by decide +kernel
theorem dL_law_813 : decode cL_law 813 = .ok (.iload 4, 2) := by decide +kernel
theorem dL_law_815 : decode cL_law 815 = .ok (.iconst 1, 1) := by decide +kernel
theorem dL_law_816 : decode cL_law 816 = .ok (.iadd, 1) := by decide +kernel
theorem dL_law_817 : decode cL_law 817 = .ok (.iaload, 1) := by decide +kernel
theorem dL_law_818 : decode cL_law 818 = .ok (.aload_n 0, 1) := by decide +kernel
theorem dL_law_819 : decode cL_law 819 = .ok (.iload 4, 2) := by decide +kernel
theorem dL_law_821 : decode cL_law 821 = .ok (.iconst 2, 1) := by decide +kernel
theorem dL_law_822 : decode cL_law 822 = .ok (.iadd, 1) := by decide +kernel
theorem dL_law_823 : decode cL_law 823 = .ok (.iaload, 1) := by decide +kernel
theorem dL_law_824 : decode cL_law 824 = .ok (.invokevirtual 112, 3) := by decide +kernel
theorem dL_law_827 : decode cL_law 827 = .ok (.istore 6, 2) := by decide +kernel
theorem dL_law_829 : decode cL_law 829 = .ok (.aload_n 2, 1) := by decide +kernel
theorem dL_law_830 : decode cL_law 830 = .ok (.invokevirtual 77, 3) := by decide +kernel
theorem dL_law_833 : decode cL_law 833 = .ok (.iload 5, 2) := by decide +kernel
theorem dL_law_835 : decode cL_law 835 = .ok (.if_icmp .eq 5, 3) := by decide +kernel
theorem dL_law_838 : decode cL_law 838 = .ok (.iconst 0, 1) := by decide +kernel
theorem dL_law_839 : decode cL_law 839 = .ok (.ireturn, 1) := by decide +kernel
theorem dL_law_840 : decode cL_law 840 = .ok (.iload 5, 2) := by decide +kernel
theorem dL_law_842 : decode cL_law 842 = .ok (.ifCond .ne 15, 3) := by decide +kernel
theorem dL_law_845 : decode cL_law 845 = .ok (.aload_n 3, 1) := by decide +kernel
theorem dL_law_846 : decode cL_law 846 = .ok (.iconst 0, 1) := by decide +kernel
theorem dL_law_847 : decode cL_law 847 = .ok (.laload, 1) := by decide +kernel
theorem dL_law_848 : decode cL_law 848 = .ok (.iload 6, 2) := by decide +kernel
theorem dL_law_850 : decode cL_law 850 = .ok (.i2l, 1) := by decide +kernel
theorem dL_law_851 : decode cL_law 851 = .ok (.lcmp, 1) := by decide +kernel
theorem dL_law_852 : decode cL_law 852 = .ok (.ifCond .eq 5, 3) := by decide +kernel
theorem dL_law_855 : decode cL_law 855 = .ok (.iconst 0, 1) := by decide +kernel
theorem dL_law_856 : decode cL_law 856 = .ok (.ireturn, 1) := by decide +kernel
theorem dL_law_857 : decode cL_law 857 = .ok (.goto 386, 3) := by decide +kernel
theorem dL_law_860 : decode cL_law 860 = .ok (.aload_n 1, 1) := by decide +kernel
theorem dL_law_861 : decode cL_law 861 = .ok (.aload_n 0, 1) := by decide +kernel
theorem dL_law_862 : decode cL_law 862 = .ok (.iload 4, 2) := by decide +kernel
theorem dL_law_864 : decode cL_law 864 = .ok (.iconst 1, 1) := by decide +kernel
theorem dL_law_865 : decode cL_law 865 = .ok (.iadd, 1) := by decide +kernel
theorem dL_law_866 : decode cL_law 866 = .ok (.iaload, 1) := by decide +kernel
theorem dL_law_867 : decode cL_law 867 = .ok (.aload_n 3, 1) := by decide +kernel
theorem dL_law_868 : decode cL_law 868 = .ok (.invokestatic 113, 3) := by decide +kernel
theorem dL_law_871 : decode cL_law 871 = .ok (.istore 5, 2) := by decide +kernel
theorem dL_law_873 : decode cL_law 873 = .ok (.aload_n 2, 1) := by decide +kernel
theorem dL_law_874 : decode cL_law 874 = .ok (.aload_n 0, 1) := by decide +kernel
theorem dL_law_875 : decode cL_law 875 = .ok (.iload 4, 2) := by decide +kernel
theorem dL_law_877 : decode cL_law 877 = .ok (.iconst 1, 1) := by decide +kernel
theorem dL_law_878 : decode cL_law 878 = .ok (.iadd, 1) := by decide +kernel
theorem dL_law_879 : decode cL_law 879 = .ok (.iaload, 1) := by decide +kernel
theorem dL_law_880 : decode cL_law 880 = .ok (.invokevirtual 115, 3) := by decide +kernel
theorem dL_law_883 : decode cL_law 883 = .ok (.istore 6, 2) := by decide +kernel
theorem dL_law_885 : decode cL_law 885 = .ok (.aload_n 2, 1) := by decide +kernel
theorem dL_law_886 : decode cL_law 886 = .ok (.invokevirtual 77, 3) := by decide +kernel
theorem dL_law_889 : decode cL_law 889 = .ok (.iload 5, 2) := by decide +kernel
theorem dL_law_891 : decode cL_law 891 = .ok (.if_icmp .eq 5, 3) := by decide +kernel
theorem dL_law_894 : decode cL_law 894 = .ok (.iconst 0, 1) := by decide +kernel
theorem dL_law_895 : decode cL_law 895 = .ok (.ireturn, 1) := by decide +kernel
theorem dL_law_896 : decode cL_law 896 = .ok (.iload 5, 2) := by decide +kernel
theorem dL_law_898 : decode cL_law 898 = .ok (.ifCond .ne 15, 3) := by decide +kernel
theorem dL_law_901 : decode cL_law 901 = .ok (.aload_n 3, 1) := by decide +kernel
theorem dL_law_902 : decode cL_law 902 = .ok (.iconst 0, 1) := by decide +kernel
theorem dL_law_903 : decode cL_law 903 = .ok (.laload, 1) := by decide +kernel
theorem dL_law_904 : decode cL_law 904 = .ok (.iload 6, 2) := by decide +kernel
theorem dL_law_906 : decode cL_law 906 = .ok (.i2l, 1) := by decide +kernel
theorem dL_law_907 : decode cL_law 907 = .ok (.lcmp, 1) := by decide +kernel
theorem dL_law_908 : decode cL_law 908 = .ok (.ifCond .eq 5, 3) := by decide +kernel
theorem dL_law_911 : decode cL_law 911 = .ok (.iconst 0, 1) := by decide +kernel
theorem dL_law_912 : decode cL_law 912 = .ok (.ireturn, 1) := by decide +kernel
theorem dL_law_913 : decode cL_law 913 = .ok (.goto 330, 3) := by decide +kernel
theorem dL_law_916 : decode cL_law 916 = .ok (.aload_n 1, 1) := by decide +kernel
theorem dL_law_917 : decode cL_law 917 = .ok (.aload_n 0, 1) := by decide +kernel
theorem dL_law_918 : decode cL_law 918 = .ok (.iload 4, 2) := by decide +kernel
theorem dL_law_920 : decode cL_law 920 = .ok (.iconst 1, 1) := by decide +kernel
theorem dL_law_921 : decode cL_law 921 = .ok (.iadd, 1) := by decide +kernel
theorem dL_law_922 : decode cL_law 922 = .ok (.iaload, 1) := by decide +kernel
theorem dL_law_923 : decode cL_law 923 = .ok (.aload_n 0, 1) := by decide +kernel
theorem dL_law_924 : decode cL_law 924 = .ok (.iload 4, 2) := by decide +kernel
theorem dL_law_926 : decode cL_law 926 = .ok (.iconst 2, 1) := by decide +kernel
theorem dL_law_927 : decode cL_law 927 = .ok (.iadd, 1) := by decide +kernel
theorem dL_law_928 : decode cL_law 928 = .ok (.iaload, 1) := by decide +kernel
theorem dL_law_929 : decode cL_law 929 = .ok (.aload_n 0, 1) := by decide +kernel
theorem dL_law_930 : decode cL_law 930 = .ok (.iload 4, 2) := by decide +kernel
theorem dL_law_932 : decode cL_law 932 = .ok (.iconst 3, 1) := by decide +kernel
theorem dL_law_933 : decode cL_law 933 = .ok (.iadd, 1) := by decide +kernel
theorem dL_law_934 : decode cL_law 934 = .ok (.iaload, 1) := by decide +kernel
theorem dL_law_935 : decode cL_law 935 = .ok (.aload_n 3, 1) := by decide +kernel
theorem dL_law_936 : decode cL_law 936 = .ok (.invokestatic 116, 3) := by decide +kernel
theorem dL_law_939 : decode cL_law 939 = .ok (.istore 5, 2) := by decide +kernel
theorem dL_law_941 : decode cL_law 941 = .ok (.aload_n 2, 1) := by decide +kernel
theorem dL_law_942 : decode cL_law 942 = .ok (.aload_n 0, 1) := by decide +kernel
theorem dL_law_943 : decode cL_law 943 = .ok (.iload 4, 2) := by decide +kernel
theorem dL_law_945 : decode cL_law 945 = .ok (.iconst 1, 1) := by decide +kernel
theorem dL_law_946 : decode cL_law 946 = .ok (.iadd, 1) := by decide +kernel
theorem dL_law_947 : decode cL_law 947 = .ok (.iaload, 1) := by decide +kernel
theorem dL_law_948 : decode cL_law 948 = .ok (.aload_n 0, 1) := by decide +kernel
theorem dL_law_949 : decode cL_law 949 = .ok (.iload 4, 2) := by decide +kernel
theorem dL_law_951 : decode cL_law 951 = .ok (.iconst 2, 1) := by decide +kernel
theorem dL_law_952 : decode cL_law 952 = .ok (.iadd, 1) := by decide +kernel
theorem dL_law_953 : decode cL_law 953 = .ok (.iaload, 1) := by decide +kernel
theorem dL_law_954 : decode cL_law 954 = .ok (.aload_n 0, 1) := by decide +kernel
theorem dL_law_955 : decode cL_law 955 = .ok (.iload 4, 2) := by decide +kernel
theorem dL_law_957 : decode cL_law 957 = .ok (.iconst 3, 1) := by decide +kernel
theorem dL_law_958 : decode cL_law 958 = .ok (.iadd, 1) := by decide +kernel
theorem dL_law_959 : decode cL_law 959 = .ok (.iaload, 1) := by decide +kernel
theorem dL_law_960 : decode cL_law 960 = .ok (.invokevirtual 119, 3) := by decide +kernel
theorem dL_law_963 : decode cL_law 963 = .ok (.istore 6, 2) := by decide +kernel
theorem dL_law_965 : decode cL_law 965 = .ok (.aload_n 2, 1) := by decide +kernel
theorem dL_law_966 : decode cL_law 966 = .ok (.invokevirtual 77, 3) := by decide +kernel
theorem dL_law_969 : decode cL_law 969 = .ok (.iload 5, 2) := by decide +kernel
theorem dL_law_971 : decode cL_law 971 = .ok (.if_icmp .eq 5, 3) := by decide +kernel
theorem dL_law_974 : decode cL_law 974 = .ok (.iconst 0, 1) := by decide +kernel
theorem dL_law_975 : decode cL_law 975 = .ok (.ireturn, 1) := by decide +kernel
theorem dL_law_976 : decode cL_law 976 = .ok (.iload 5, 2) := by decide +kernel
theorem dL_law_978 : decode cL_law 978 = .ok (.ifCond .ne 15, 3) := by decide +kernel
theorem dL_law_981 : decode cL_law 981 = .ok (.aload_n 3, 1) := by decide +kernel
theorem dL_law_982 : decode cL_law 982 = .ok (.iconst 0, 1) := by decide +kernel
theorem dL_law_983 : decode cL_law 983 = .ok (.laload, 1) := by decide +kernel
theorem dL_law_984 : decode cL_law 984 = .ok (.iload 6, 2) := by decide +kernel
theorem dL_law_986 : decode cL_law 986 = .ok (.i2l, 1) := by decide +kernel
theorem dL_law_987 : decode cL_law 987 = .ok (.lcmp, 1) := by decide +kernel
theorem dL_law_988 : decode cL_law 988 = .ok (.ifCond .eq 5, 3) := by decide +kernel
theorem dL_law_991 : decode cL_law 991 = .ok (.iconst 0, 1) := by decide +kernel
theorem dL_law_992 : decode cL_law 992 = .ok (.ireturn, 1) := by decide +kernel
theorem dL_law_993 : decode cL_law 993 = .ok (.goto 250, 3) := by decide +kernel
theorem dL_law_996 : decode cL_law 996 = .ok (.aload_n 1, 1) := by decide +kernel
theorem dL_law_997 : decode cL_law 997 = .ok (.aload_n 0, 1) := by decide +kernel
theorem dL_law_998 : decode cL_law 998 = .ok (.iload 4, 2) := by decide +kernel
theorem dL_law_1000 : decode cL_law 1000 = .ok (.iconst 1, 1) := by decide +kernel
theorem dL_law_1001 : decode cL_law 1001 = .ok (.iadd, 1) := by decide +kernel
theorem dL_law_1002 : decode cL_law 1002 = .ok (.iaload, 1) := by decide +kernel
theorem dL_law_1003 : decode cL_law 1003 = .ok (.aload_n 0, 1) := by decide +kernel
theorem dL_law_1004 : decode cL_law 1004 = .ok (.iload 4, 2) := by decide +kernel
theorem dL_law_1006 : decode cL_law 1006 = .ok (.iconst 2, 1) := by decide +kernel
theorem dL_law_1007 : decode cL_law 1007 = .ok (.iadd, 1) := by decide +kernel
theorem dL_law_1008 : decode cL_law 1008 = .ok (.iaload, 1) := by decide +kernel
theorem dL_law_1009 : decode cL_law 1009 = .ok (.aload_n 3, 1) := by decide +kernel
theorem dL_law_1010 : decode cL_law 1010 = .ok (.invokestatic 120, 3) := by decide +kernel
theorem dL_law_1013 : decode cL_law 1013 = .ok (.istore 5, 2) := by decide +kernel
theorem dL_law_1015 : decode cL_law 1015 = .ok (.aload_n 2, 1) := by decide +kernel
theorem dL_law_1016 : decode cL_law 1016 = .ok (.aload_n 0, 1) := by decide +kernel
theorem dL_law_1017 : decode cL_law 1017 = .ok (.iload 4, 2) := by decide +kernel
theorem dL_law_1019 : decode cL_law 1019 = .ok (.iconst 1, 1) := by decide +kernel
theorem dL_law_1020 : decode cL_law 1020 = .ok (.iadd, 1) := by decide +kernel
theorem dL_law_1021 : decode cL_law 1021 = .ok (.iaload, 1) := by decide +kernel
theorem dL_law_1022 : decode cL_law 1022 = .ok (.aload_n 0, 1) := by decide +kernel
theorem dL_law_1023 : decode cL_law 1023 = .ok (.iload 4, 2) := by decide +kernel
theorem dL_law_1025 : decode cL_law 1025 = .ok (.iconst 2, 1) := by decide +kernel
theorem dL_law_1026 : decode cL_law 1026 = .ok (.iadd, 1) := by decide +kernel
theorem dL_law_1027 : decode cL_law 1027 = .ok (.iaload, 1) := by decide +kernel
theorem dL_law_1028 : decode cL_law 1028 = .ok (.invokevirtual 122, 3) := by decide +kernel
theorem dL_law_1031 : decode cL_law 1031 = .ok (.istore 6, 2) := by decide +kernel
theorem dL_law_1033 : decode cL_law 1033 = .ok (.aload_n 2, 1) := by decide +kernel
theorem dL_law_1034 : decode cL_law 1034 = .ok (.invokevirtual 77, 3) := by decide +kernel
theorem dL_law_1037 : decode cL_law 1037 = .ok (.iload 5, 2) := by decide +kernel
theorem dL_law_1039 : decode cL_law 1039 = .ok (.if_icmp .eq 5, 3) := by decide +kernel
theorem dL_law_1042 : decode cL_law 1042 = .ok (.iconst 0, 1) := by decide +kernel
theorem dL_law_1043 : decode cL_law 1043 = .ok (.ireturn, 1) := by decide +kernel
theorem dL_law_1044 : decode cL_law 1044 = .ok (.iload 5, 2) := by decide +kernel
theorem dL_law_1046 : decode cL_law 1046 = .ok (.ifCond .ne 15, 3) := by decide +kernel
theorem dL_law_1049 : decode cL_law 1049 = .ok (.aload_n 3, 1) := by decide +kernel
theorem dL_law_1050 : decode cL_law 1050 = .ok (.iconst 0, 1) := by decide +kernel
theorem dL_law_1051 : decode cL_law 1051 = .ok (.laload, 1) := by decide +kernel
theorem dL_law_1052 : decode cL_law 1052 = .ok (.iload 6, 2) := by decide +kernel
theorem dL_law_1054 : decode cL_law 1054 = .ok (.i2l, 1) := by decide +kernel
theorem dL_law_1055 : decode cL_law 1055 = .ok (.lcmp, 1) := by decide +kernel
theorem dL_law_1056 : decode cL_law 1056 = .ok (.ifCond .eq 5, 3) := by decide +kernel
theorem dL_law_1059 : decode cL_law 1059 = .ok (.iconst 0, 1) := by decide +kernel
theorem dL_law_1060 : decode cL_law 1060 = .ok (.ireturn, 1) := by decide +kernel
theorem dL_law_1061 : decode cL_law 1061 = .ok (.goto 182, 3) := by decide +kernel
theorem dL_law_1064 : decode cL_law 1064 = .ok (.aload_n 1, 1) := by decide +kernel
theorem dL_law_1065 : decode cL_law 1065 = .ok (.aload_n 0, 1) := by decide +kernel
theorem dL_law_1066 : decode cL_law 1066 = .ok (.iload 4, 2) := by decide +kernel
theorem dL_law_1068 : decode cL_law 1068 = .ok (.iconst 1, 1) := by decide +kernel
theorem dL_law_1069 : decode cL_law 1069 = .ok (.iadd, 1) := by decide +kernel
theorem dL_law_1070 : decode cL_law 1070 = .ok (.iaload, 1) := by decide +kernel
theorem dL_law_1071 : decode cL_law 1071 = .ok (.aload_n 0, 1) := by decide +kernel
theorem dL_law_1072 : decode cL_law 1072 = .ok (.iload 4, 2) := by decide +kernel
theorem dL_law_1074 : decode cL_law 1074 = .ok (.iconst 2, 1) := by decide +kernel
theorem dL_law_1075 : decode cL_law 1075 = .ok (.iadd, 1) := by decide +kernel
theorem dL_law_1076 : decode cL_law 1076 = .ok (.iaload, 1) := by decide +kernel
theorem dL_law_1077 : decode cL_law 1077 = .ok (.aload_n 3, 1) := by decide +kernel
theorem dL_law_1078 : decode cL_law 1078 = .ok (.invokestatic 123, 3) := by decide +kernel
theorem dL_law_1081 : decode cL_law 1081 = .ok (.istore 5, 2) := by decide +kernel
theorem dL_law_1083 : decode cL_law 1083 = .ok (.aload_n 2, 1) := by decide +kernel
theorem dL_law_1084 : decode cL_law 1084 = .ok (.aload_n 0, 1) := by decide +kernel
theorem dL_law_1085 : decode cL_law 1085 = .ok (.iload 4, 2) := by decide +kernel
theorem dL_law_1087 : decode cL_law 1087 = .ok (.iconst 1, 1) := by decide +kernel
theorem dL_law_1088 : decode cL_law 1088 = .ok (.iadd, 1) := by decide +kernel
theorem dL_law_1089 : decode cL_law 1089 = .ok (.iaload, 1) := by decide +kernel
theorem dL_law_1090 : decode cL_law 1090 = .ok (.aload_n 0, 1) := by decide +kernel
theorem dL_law_1091 : decode cL_law 1091 = .ok (.iload 4, 2) := by decide +kernel
theorem dL_law_1093 : decode cL_law 1093 = .ok (.iconst 2, 1) := by decide +kernel
theorem dL_law_1094 : decode cL_law 1094 = .ok (.iadd, 1) := by decide +kernel
theorem dL_law_1095 : decode cL_law 1095 = .ok (.iaload, 1) := by decide +kernel
theorem dL_law_1096 : decode cL_law 1096 = .ok (.invokevirtual 125, 3) := by decide +kernel
theorem dL_law_1099 : decode cL_law 1099 = .ok (.istore 6, 2) := by decide +kernel
theorem dL_law_1101 : decode cL_law 1101 = .ok (.aload_n 2, 1) := by decide +kernel
theorem dL_law_1102 : decode cL_law 1102 = .ok (.invokevirtual 77, 3) := by decide +kernel
theorem dL_law_1105 : decode cL_law 1105 = .ok (.iload 5, 2) := by decide +kernel
theorem dL_law_1107 : decode cL_law 1107 = .ok (.if_icmp .eq 5, 3) := by decide +kernel
theorem dL_law_1110 : decode cL_law 1110 = .ok (.iconst 0, 1) := by decide +kernel
theorem dL_law_1111 : decode cL_law 1111 = .ok (.ireturn, 1) := by decide +kernel
theorem dL_law_1112 : decode cL_law 1112 = .ok (.iload 5, 2) := by decide +kernel
theorem dL_law_1114 : decode cL_law 1114 = .ok (.ifCond .ne 15, 3) := by decide +kernel
theorem dL_law_1117 : decode cL_law 1117 = .ok (.aload_n 3, 1) := by decide +kernel
theorem dL_law_1118 : decode cL_law 1118 = .ok (.iconst 0, 1) := by decide +kernel
theorem dL_law_1119 : decode cL_law 1119 = .ok (.laload, 1) := by decide +kernel
theorem dL_law_1120 : decode cL_law 1120 = .ok (.iload 6, 2) := by decide +kernel
theorem dL_law_1122 : decode cL_law 1122 = .ok (.i2l, 1) := by decide +kernel
theorem dL_law_1123 : decode cL_law 1123 = .ok (.lcmp, 1) := by decide +kernel
theorem dL_law_1124 : decode cL_law 1124 = .ok (.ifCond .eq 5, 3) := by decide +kernel
theorem dL_law_1127 : decode cL_law 1127 = .ok (.iconst 0, 1) := by decide +kernel
theorem dL_law_1128 : decode cL_law 1128 = .ok (.ireturn, 1) := by decide +kernel
theorem dL_law_1129 : decode cL_law 1129 = .ok (.goto 114, 3) := by decide +kernel
theorem dL_law_1132 : decode cL_law 1132 = .ok (.aload_n 1, 1) := by decide +kernel
theorem dL_law_1133 : decode cL_law 1133 = .ok (.aload_n 0, 1) := by decide +kernel
theorem dL_law_1134 : decode cL_law 1134 = .ok (.iload 4, 2) := by decide +kernel
theorem dL_law_1136 : decode cL_law 1136 = .ok (.iconst 1, 1) := by decide +kernel
theorem dL_law_1137 : decode cL_law 1137 = .ok (.iadd, 1) := by decide +kernel
theorem dL_law_1138 : decode cL_law 1138 = .ok (.iaload, 1) := by decide +kernel
theorem dL_law_1139 : decode cL_law 1139 = .ok (.aload_n 3, 1) := by decide +kernel
theorem dL_law_1140 : decode cL_law 1140 = .ok (.invokestatic 126, 3) := by decide +kernel
theorem dL_law_1143 : decode cL_law 1143 = .ok (.istore 5, 2) := by decide +kernel
theorem dL_law_1145 : decode cL_law 1145 = .ok (.aload_n 2, 1) := by decide +kernel
theorem dL_law_1146 : decode cL_law 1146 = .ok (.aload_n 0, 1) := by decide +kernel
theorem dL_law_1147 : decode cL_law 1147 = .ok (.iload 4, 2) := by decide +kernel
theorem dL_law_1149 : decode cL_law 1149 = .ok (.iconst 1, 1) := by decide +kernel
theorem dL_law_1150 : decode cL_law 1150 = .ok (.iadd, 1) := by decide +kernel
theorem dL_law_1151 : decode cL_law 1151 = .ok (.iaload, 1) := by decide +kernel
theorem dL_law_1152 : decode cL_law 1152 = .ok (.invokevirtual 128, 3) := by decide +kernel
theorem dL_law_1155 : decode cL_law 1155 = .ok (.istore 6, 2) := by decide +kernel
theorem dL_law_1157 : decode cL_law 1157 = .ok (.aload_n 2, 1) := by decide +kernel
theorem dL_law_1158 : decode cL_law 1158 = .ok (.invokevirtual 77, 3) := by decide +kernel
theorem dL_law_1161 : decode cL_law 1161 = .ok (.iload 5, 2) := by decide +kernel
theorem dL_law_1163 : decode cL_law 1163 = .ok (.if_icmp .eq 5, 3) := by decide +kernel
theorem dL_law_1166 : decode cL_law 1166 = .ok (.iconst 0, 1) := by decide +kernel
theorem dL_law_1167 : decode cL_law 1167 = .ok (.ireturn, 1) := by decide +kernel
theorem dL_law_1168 : decode cL_law 1168 = .ok (.iload 5, 2) := by decide +kernel
theorem dL_law_1170 : decode cL_law 1170 = .ok (.ifCond .ne 15, 3) := by decide +kernel
theorem dL_law_1173 : decode cL_law 1173 = .ok (.aload_n 3, 1) := by decide +kernel
theorem dL_law_1174 : decode cL_law 1174 = .ok (.iconst 0, 1) := by decide +kernel
theorem dL_law_1175 : decode cL_law 1175 = .ok (.laload, 1) := by decide +kernel
theorem dL_law_1176 : decode cL_law 1176 = .ok (.iload 6, 2) := by decide +kernel
theorem dL_law_1178 : decode cL_law 1178 = .ok (.i2l, 1) := by decide +kernel
theorem dL_law_1179 : decode cL_law 1179 = .ok (.lcmp, 1) := by decide +kernel
theorem dL_law_1180 : decode cL_law 1180 = .ok (.ifCond .eq 5, 3) := by decide +kernel
theorem dL_law_1183 : decode cL_law 1183 = .ok (.iconst 0, 1) := by decide +kernel
theorem dL_law_1184 : decode cL_law 1184 = .ok (.ireturn, 1) := by decide +kernel
theorem dL_law_1185 : decode cL_law 1185 = .ok (.goto 58, 3) := by decide +kernel
theorem dL_law_1188 : decode cL_law 1188 = .ok (.aload_n 1, 1) := by decide +kernel
theorem dL_law_1189 : decode cL_law 1189 = .ok (.invokevirtual 129, 3) := by decide +kernel
theorem dL_law_1192 : decode cL_law 1192 = .ok (.dstore 5, 2) := by decide +kernel
theorem dL_law_1194 : decode cL_law 1194 = .ok (.aload_n 2, 1) := by decide +kernel
theorem dL_law_1195 : decode cL_law 1195 = .ok (.invokevirtual 133, 3) := by decide +kernel
theorem dL_law_1198 : decode cL_law 1198 = .ok (.dstore 7, 2) := by decide +kernel
theorem dL_law_1200 : decode cL_law 1200 = .ok (.dload 5, 2) := by decide +kernel
theorem dL_law_1202 : decode cL_law 1202 = .ok (.dload 7, 2) := by decide +kernel
theorem dL_law_1204 : decode cL_law 1204 = .ok (.dcmp .l, 1) := by decide +kernel
theorem dL_law_1205 : decode cL_law 1205 = .ok (.ifCond .eq 21, 3) := by decide +kernel
theorem dL_law_1208 : decode cL_law 1208 = .ok (.dload 5, 2) := by decide +kernel
theorem dL_law_1210 : decode cL_law 1210 = .ok (.dload 5, 2) := by decide +kernel
theorem dL_law_1212 : decode cL_law 1212 = .ok (.dcmp .l, 1) := by decide +kernel
theorem dL_law_1213 : decode cL_law 1213 = .ok (.ifCond .eq 11, 3) := by decide +kernel
theorem dL_law_1216 : decode cL_law 1216 = .ok (.dload 7, 2) := by decide +kernel
theorem dL_law_1218 : decode cL_law 1218 = .ok (.dload 7, 2) := by decide +kernel
theorem dL_law_1220 : decode cL_law 1220 = .ok (.dcmp .l, 1) := by decide +kernel
theorem dL_law_1221 : decode cL_law 1221 = .ok (.ifCond .ne 5, 3) := by decide +kernel
theorem dL_law_1224 : decode cL_law 1224 = .ok (.iconst 0, 1) := by decide +kernel
theorem dL_law_1225 : decode cL_law 1225 = .ok (.ireturn, 1) := by decide +kernel
theorem dL_law_1226 : decode cL_law 1226 = .ok (.goto 17, 3) := by decide +kernel
theorem dL_law_1229 : decode cL_law 1229 = .ok (.aload_n 1, 1) := by decide +kernel
theorem dL_law_1230 : decode cL_law 1230 = .ok (.invokevirtual 134, 3) := by decide +kernel
theorem dL_law_1233 : decode cL_law 1233 = .ok (.aload_n 2, 1) := by decide +kernel
theorem dL_law_1234 : decode cL_law 1234 = .ok (.invokevirtual 138, 3) := by decide +kernel
theorem dL_law_1237 : decode cL_law 1237 = .ok (.lcmp, 1) := by decide +kernel
theorem dL_law_1238 : decode cL_law 1238 = .ok (.ifCond .eq 5, 3) := by decide +kernel
theorem dL_law_1241 : decode cL_law 1241 = .ok (.iconst 0, 1) := by decide +kernel
theorem dL_law_1242 : decode cL_law 1242 = .ok (.ireturn, 1) := by decide +kernel
theorem dL_law_1243 : decode cL_law 1243 = .ok (.iinc 4 5, 3) := by decide +kernel
theorem dL_law_1246 : decode cL_law 1246 = .ok (.goto (-1223), 3) := by decide +kernel
theorem dL_law_1249 : decode cL_law 1249 = .ok (.iconst 1, 1) := by decide +kernel
theorem dL_law_1250 : decode cL_law 1250 = .ok (.ireturn, 1) := by decide +kernel
end
section
/-! What a state of the class and of the reference is, and rows over single cells. -/
theorem tc_it {α : Type} {P : Prop} [Decidable P] {a b r : α} (h : (if P then a else b) = r) (c : P) : a = r := (if_pos c).symm.trans h
theorem tc_if {α : Type} {P : Prop} [Decidable P] {a b r : α} (h : (if P then a else b) = r) (c : ¬ P) : b = r := (if_neg c).symm.trans h
theorem tc_ob {α : Type} {P : Prop} [Decidable P] {a : Option α} {r : α} (h : (if P then a else none) = some r) : P ∧ a = some r := by
  by_cases c : P
  · exact ⟨c, tc_it h c⟩
  · exact Option.noConfusion (tc_if h c)
theorem tc_bi {α β : Type} {o : Option α} {f : α → Option β} {r : β} (h : o.bind f = some r) : ∃ a, o = some a ∧ f a = some r := by
  cases o with
  | none => exact Option.noConfusion h
  | some a => exact ⟨a, rfl, h⟩
def tc_oc {α : Type} (o : Option Nat) (n : α) (f : Nat → α) : α := match o with
  | none => n
  | some b => f b
theorem tc_on {α : Type} {o : Option Nat} {n r : α} {f : Nat → α} (h : tc_oc o n f = r) (e : o = none) : n = r := by subst e; exact h
theorem tc_os {α : Type} {o : Option Nat} {n r : α} {f : Nat → α} {b : Nat} (h : tc_oc o n f = r) (e : o = some b) : f b = r := by subst e; exact h
/-- i is a place of n places -/
def tc_ix (i : Int32) (n : Nat) : Prop := ¬ i < 0 ∧ i.toNatClampNeg < n
theorem tc_ix_in {i : Int32} {n : Nat} (h : ¬ i < 0 ∧ i.toNatClampNeg < n) : vp_in i n := fun q => q.elim h.1 (fun z => absurd h.2 (Nat.not_lt.mpr z))
/-! ===== one cell ===== -/
theorem tc_p1 {D : va_G} {cl : List vw_C} {q : Nat × va_E} {H : Heap} (h : va_at D cl q H) : va_P D cl [q] H := fun k z hk => by
  match k, hk with
  | 0, hk => cases hk; exact h
theorem tc_rcv {s : State} {H : Heap} {D : va_G} {cl : List vw_C} {tys : List (ClassId × FieldType)} {a ci : Nat} {q : vw_C} {fs : List Value} (he : va_at D cl (a, .inr (ci, fs)) H) (hK : va_K D cl tys s) (hc : cl[ci]? = some q) : ∃ cell : Cell, H[a]? = some cell ∧ cell.vm.isStatics = false ∧ s.vm.findClass q.1 = some cell.cls := va_recv hK (tc_p1 he) (q0 := 0) hc rfl
section TC1
variable {p : Program} {l : Launch} {e : Env} {R : Room} {s : State} {m : MethodId} {args : Array Value} {below : List Frame} {meth : Method} {c : Code} {H : Heap} {locs : List Loc} {cells slots : Nat} {Q : State → Prop}
variable {cc : ByteArray} {pc : Nat} {ls : Array Slot} {rest : List Value} {D : va_G} {cl : List vw_C} {tys : List (ClassId × FieldType)} {A : Nat → Prop} {H0 : Heap} {a : Nat}
theorem tc_get (hexec : p.tables.exec = Jvm.exec) (hb : c.code = cc) {Ts : List Cond} (hts : ∀ w ∈ Ts, w.before args s = true) {own ref C : String} {T : u_T} {N ci index : Nat} (hin : ∀ w ∈ u_ws C T N, w ∈ Ts) (hown : s.vm.findClass own = some m.cls) (hK : va_K D cl tys s) {fs : List Value} (he : va_at D cl (a, .inr (ci, fs)) H) (hc : cl[ci]? = some (C, T, N)) (k : Nat) (hk : k < N) (hlink : (Cond.fieldLink own index ref (T k).2.1 (T k).2.2.1).before args s = true) (hsame : ∀ x, s.fieldFound? (T k).1 (T k).2.1 (T k).2.2.1 = some x → s.fieldFound? ref (T k).2.1 (T k).2.2.1 = some x) {v : Value} (hv : fs[k]? = some v) (hdg : decode cc pc = .ok (.getfield index, 3))
    (kk : W p l e R s m args below meth c H locs cells slots Q (F0 m (pc + 3) ls (v :: rest))) : W p l e R s m args below meth c H locs cells slots Q (F0 m pc ls (.ref a :: rest)) :=
  va_get hexec hb hts hin hown hK (tc_p1 he) 0 rfl hc k hk hlink hsame hv hdg kk
theorem tc_put (hexec : p.tables.exec = Jvm.exec) (hb : c.code = cc) {Ts : List Cond} (hts : ∀ w ∈ Ts, w.before args s = true) {own ref C : String} {T : u_T} {N ci index : Nat} (hin : ∀ w ∈ u_ws C T N, w ∈ Ts) (ty0 : Nat → FieldType) (hty : ∀ k, k < N → parseFieldDescriptor (T k).2.2.1 = some (ty0 k)) (hnm : ∀ a, a < N → ∀ b, b < N → a ≠ b → (T a).2.1 ≠ (T b).2.1) (hown : s.vm.findClass own = some m.cls) (hK : va_K D cl tys s) {fs : List Value} (he : va_at D cl (a, .inr (ci, fs)) H) (hS0 : va_S A H0 H locs) (ha : A a) (hc : cl[ci]? = some (C, T, N)) (k : Nat) (hk : k < N) (hlink : (Cond.fieldLink own index ref (T k).2.1 (T k).2.2.1).before args s = true) (hsame : ∀ x, s.fieldFound? (T k).1 (T k).2.1 (T k).2.2.1 = some x → s.fieldFound? ref (T k).2.1 (T k).2.2.1 = some x) (hfin : (T k).2.2.2 = false) {ty : FieldType} {v : Value} (hd : parseFieldDescriptor (T k).2.2.1 = some ty) (hn : narrow ty v = v) (hfit : fits ty v = true) (hl : k < fs.length)
    (hdg : decode cc pc = .ok (.putfield index, 3)) (kk : ∀ (H1 : Heap) (locs1 : List Loc), va_at D cl (a, .inr (ci, fs.set k v)) H1 → H1.size = H.size → (∀ q, q ≠ a → H1[q]? = H[q]?) → va_S A H0 H1 locs1 → W p l e R s m args below meth c H1 locs1 cells slots Q (F0 m (pc + 3) ls rest)) : W p l e R s m args below meth c H locs cells slots Q (F0 m pc ls (v :: .ref a :: rest)) := by
  have hap := va_apart (own := own) hts hin ty0 hty hnm hK hc
  obtain ⟨r, h1, cell, q1, q2, q3, q4⟩ := he
  have hr : r = (C, T, N) := Option.some.inj (h1.symm.trans hc)
  subst hr
  obtain ⟨hS, hfc, kC, hkC, hkind⟩ := hK.1 ci _ hc
  obtain ⟨cf, kf, fi, f, hi, hsl⟩ := hS k hk
  have hlay := hts _ (hin _ (u_in_lay hk))
  unfold u_lay at hlay
  rw [if_neg (by rw [hfin]; decide)] at hlay
  have hst := (u_facts hfc hkC (u_lays hts hin hk) hi).1
  have h6 := u_store hfc hkC hkind hlay hi hd hn hfit
  refine W.putK hexec hb (f := f) ⟨hown, hlink, ⟨_, _, _, hsame _ hi⟩, hst⟩ (by rw [q2]; exact h6) q1 q3 (by rw [hsl]; exact k2_hasslot (q4 k hk)) rfl rfl hdg fun H' e1 e2 e3 => ?_
  rw [hsl] at e1 ⊢
  exact kk H' _ ⟨_, hc, t_OB.to (V := updV (vp_V fs) k v) ⟨_, e1, q2, q3, t_set q4 hap hk v⟩ (fun j _ => vp_updV_set hl v j)⟩ e2 e3 (hS0.put e2 e3 ha)
theorem tc_putF (hexec : p.tables.exec = Jvm.exec) (hb : c.code = cc) {Ts : List Cond} (hts : ∀ w ∈ Ts, w.before args s = true) {own ref C : String} {T : u_T} {N ci index : Nat} (hin : ∀ w ∈ u_ws C T N, w ∈ Ts) (ty0 : Nat → FieldType) (hty : ∀ k, k < N → parseFieldDescriptor (T k).2.2.1 = some (ty0 k)) (hnm : ∀ a, a < N → ∀ b, b < N → a ≠ b → (T a).2.1 ≠ (T b).2.1) (hown : s.vm.findClass own = some m.cls) (hK : va_K D cl tys s) {fs : List Value} (he : va_at D cl (a, .inr (ci, fs)) H) (hS0 : va_S A H0 H locs) (ha : A a) (hc : cl[ci]? = some (C, T, N)) (k : Nat) (hk : k < N) (hlink : (Cond.fieldLink own index ref (T k).2.1 (T k).2.2.1).before args s = true) (hsame : ∀ x, s.fieldFound? (T k).1 (T k).2.1 (T k).2.2.1 = some x → s.fieldFound? ref (T k).2.1 (T k).2.2.1 = some x) (hfin : (T k).2.2.2 = true) (hin2 : meth.name = "<init>") (hdecl : (T k).1 = own) {ty : FieldType} {v : Value} (hd : parseFieldDescriptor (T k).2.2.1 = some ty) (hn : narrow ty v = v) (hfit : fits ty v = true) (hl : k < fs.length)
    (hdg : decode cc pc = .ok (.putfield index, 3)) (kk : ∀ (H1 : Heap) (locs1 : List Loc), va_at D cl (a, .inr (ci, fs.set k v)) H1 → H1.size = H.size → (∀ q, q ≠ a → H1[q]? = H[q]?) → va_S A H0 H1 locs1 → W p l e R s m args below meth c H1 locs1 cells slots Q (F0 m (pc + 3) ls rest)) : W p l e R s m args below meth c H locs cells slots Q (F0 m pc ls (v :: .ref a :: rest)) := by
  have hap := va_apart (own := own) hts hin ty0 hty hnm hK hc
  obtain ⟨r, h1, cell, q1, q2, q3, q4⟩ := he
  have hr : r = (C, T, N) := Option.some.inj (h1.symm.trans hc)
  subst hr
  obtain ⟨hS, hfc, kC, hkC, hkind⟩ := hK.1 ci _ hc
  obtain ⟨cf, kf, fi, f, hi, hsl⟩ := hS k hk
  have hlay := hts _ (hin _ (u_in_lay hk))
  unfold u_lay at hlay
  rw [if_pos hfin] at hlay
  have hst := (u_facts hfc hkC (u_lays hts hin hk) hi).1
  have hcf : m.cls = cf := by
    obtain ⟨_, _, c', _, _, _, -, -, hf', -, -, -, hown2, -⟩ := Cond.laysFinal_spec hlay
    have e1 : c' = cf := by have := hi.symm.trans hf'; simp at this; exact this.1.symm
    rw [hdecl] at hown2
    rw [← e1]; exact Option.some.inj (hown.symm.trans hown2)
  have h6 := u_fits hfc hkC hkind (Or.inr hlay) hi hd hn hfit
  refine W.putFinK hexec hb hown hlink (hsame _ hi) hst hcf hin2 (by rw [q2]; exact h6) q1 q3 (by rw [hsl]; exact k2_hasslot (q4 k hk)) rfl rfl hdg fun H' e1 e2 e3 => ?_
  rw [hsl] at e1 ⊢
  exact kk H' _ ⟨_, hc, t_OB.to (V := updV (vp_V fs) k v) ⟨_, e1, q2, q3, t_set q4 hap hk v⟩ (fun j _ => vp_updV_set hl v j)⟩ e2 e3 (hS0.put e2 e3 ha)
theorem tc_iald (hexec : p.tables.exec = Jvm.exec) (hb : c.code = cc) (hK : va_K D cl tys s) {cA : ClassId} {n : Nat} {f : Nat → Int32} (he : va_at D cl (a, .inl (cA, n, .inl f)) H) (t0 : Nat) (ht : tys[t0]? = some (cA, .int)) {i : Int32} (hin : ¬ i < 0 ∧ i.toNatClampNeg < n) (hdg : decode cc pc = .ok (.iaload, 1))
    (kk : W p l e R s m args below meth c H locs cells slots Q (F0 m (pc + 1) ls (.int (f i.toNatClampNeg) :: rest))) : W p l e R s m args below meth c H locs cells slots Q (F0 m pc ls (.int i :: .ref a :: rest)) :=
  va_iald hexec hb hK (tc_p1 he) 0 t0 rfl ht (tc_ix_in hin) hdg kk
theorem tc_aald (hexec : p.tables.exec = Jvm.exec) (hb : c.code = cc) (hK : va_K D cl tys s) {cA : ClassId} {n : Nat} {f : Nat → Option Nat} (he : va_at D cl (a, .inl (cA, n, .inr (.inr (.inr (.inr f))))) H) (t0 : Nat) {C : String} (ht : tys[t0]? = some (cA, .object C)) {i : Int32} (hin : ¬ i < 0 ∧ i.toNatClampNeg < n) (hdg : decode cc pc = .ok (.aaload, 1))
    (kk : W p l e R s m args below meth c H locs cells slots Q (F0 m (pc + 1) ls (va_rf (f i.toNatClampNeg) :: rest))) : W p l e R s m args below meth c H locs cells slots Q (F0 m pc ls (.int i :: .ref a :: rest)) :=
  va_aldq hexec hb hK (tc_p1 he) 0 t0 rfl ht (tc_ix_in hin) hdg kk
theorem tc_iast (hexec : p.tables.exec = Jvm.exec) (hb : c.code = cc) (hK : va_K D cl tys s) {cA : ClassId} {n : Nat} {f : Nat → Int32} (he : va_at D cl (a, .inl (cA, n, .inl f)) H) (hS : va_S A H0 H locs) (ha : A a) (t0 : Nat) (ht : tys[t0]? = some (cA, .int)) {i x : Int32} (hin : ¬ i < 0 ∧ i.toNatClampNeg < n) (hdg : decode cc pc = .ok (.iastore, 1))
    (kk : ∀ (H1 : Heap) (locs1 : List Loc), va_at D cl (a, .inl (cA, n, .inl (upd f i.toNatClampNeg x))) H1 → H1.size = H.size → (∀ q, q ≠ a → H1[q]? = H[q]?) → va_S A H0 H1 locs1 → W p l e R s m args below meth c H1 locs1 cells slots Q (F0 m (pc + 1) ls rest)) : W p l e R s m args below meth c H locs cells slots Q (F0 m pc ls (.int x :: .int i :: .ref a :: rest)) := by
  refine W.iast hexec hb he ((hK.2 t0 _ ht).1 n (fun j => .int (f j))) (fun q => by cases q) (by show ¬ (i < 0 ∨ (arrV _ _ _).slots.size ≤ _); rw [arrV_size]; exact tc_ix_in hin) rfl rfl hdg fun H1 e z oq => ?_
  refine kk H1 _ ?_ z oq (hS.put z oq ha)
  show H1[a]? = some (vp_cell _ _)
  rw [e]
  rw [vp_cell_i, vp_cell_i, arrV_store]
  congr 2
  funext q
  by_cases hq : q = i.toNatClampNeg
  · subst hq
    simp [updV, upd]
  · simp [updV, upd, hq]
theorem tc_aast (hexec : p.tables.exec = Jvm.exec) (hb : c.code = cc) (hK : va_K D cl tys s) {cA : ClassId} {n : Nat} {f : Nat → Option Nat} (he : va_at D cl (a, .inl (cA, n, .inr (.inr (.inr (.inr f))))) H) (hS : va_S A H0 H locs) (ha : A a) (t0 : Nat) {r : vw_C} (ht : tys[t0]? = some (cA, .object r.1)) {v ci : Nat} {vs : List Value} (hv : va_at D cl (v, .inr (ci, vs)) H) (hc : cl[ci]? = some r) {i : Int32} (hin : ¬ i < 0 ∧ i.toNatClampNeg < n) (hdg : decode cc pc = .ok (.aastore, 1))
    (kk : ∀ (H1 : Heap) (locs1 : List Loc), va_at D cl (a, .inl (cA, n, .inr (.inr (.inr (.inr (va_up f i.toNatClampNeg (some v))))))) H1 → H1.size = H.size → (∀ q, q ≠ a → H1[q]? = H[q]?) → va_S A H0 H1 locs1 → W p l e R s m args below meth c H1 locs1 cells slots Q (F0 m (pc + 1) ls rest)) : W p l e R s m args below meth c H locs cells slots Q (F0 m pc ls (.ref v :: .int i :: .ref a :: rest)) := by
  have hlt : i.toNatClampNeg < n := hin.2
  have h0 : ¬ i < 0 := hin.1
  obtain ⟨r', hr', cellV, g1, g2, g3, -⟩ := hv
  have hcls := (hK.1 ci r hc).2
  obtain ⟨kA, comp, k1, k2, k3, -⟩ := (hK.2 t0 _ ht).2
  have hcomp : comp = D.1 ci := Option.some.inj (k3.symm.trans hcls.1)
  subst hcomp
  obtain ⟨kC, hkC, -⟩ := hcls.2
  refine W.aast hexec hb he (fun q h => by cases h) (fun h => by cases h) k1 k2 rfl hkC ⟨h0, by show _ < (arrV _ _ _).slots.size; rw [arrV_size]; exact hlt⟩ g1 (fun q h => by rw [g3] at h; cases h) (by rw [g2]; exact hkC) (by rw [g2]; exact va_assign hcls) rfl rfl hdg fun H1 e z oq => ?_
  refine kk H1 _ ?_ z oq (hS.put z oq ha)
  show H1[a]? = some (vp_cell _ _)
  rw [e]
  rw [vp_cell_q, vp_cell_q, arrV_store]
  congr 2
  funext q
  by_cases hq : q = i.toNatClampNeg
  · subst hq
    simp [updV, va_up, va_rf]
  · simp [updV, va_up, hq]
theorem tc_aastN (hexec : p.tables.exec = Jvm.exec) (hb : c.code = cc) (hK : va_K D cl tys s) {cA : ClassId} {n : Nat} {f : Nat → Option Nat} (he : va_at D cl (a, .inl (cA, n, .inr (.inr (.inr (.inr f))))) H) (hS : va_S A H0 H locs) (ha : A a) (t0 : Nat) {C : String} (ht : tys[t0]? = some (cA, .object C)) {i : Int32} (hin : ¬ i < 0 ∧ i.toNatClampNeg < n) (hdg : decode cc pc = .ok (.aastore, 1))
    (kk : ∀ (H1 : Heap) (locs1 : List Loc), va_at D cl (a, .inl (cA, n, .inr (.inr (.inr (.inr (va_up f i.toNatClampNeg none)))))) H1 → H1.size = H.size → (∀ q, q ≠ a → H1[q]? = H[q]?) → va_S A H0 H1 locs1 → W p l e R s m args below meth c H1 locs1 cells slots Q (F0 m (pc + 1) ls rest)) : W p l e R s m args below meth c H locs cells slots Q (F0 m pc ls (.null :: .int i :: .ref a :: rest)) := by
  refine va_WaastN (C := C) hexec hb he ((hK.2 t0 _ ht).1 n (fun j => va_rf (f j))) (fun h => by cases h) (by show ¬ (i < 0 ∨ (arrV _ _ _).slots.size ≤ _); rw [arrV_size]; exact tc_ix_in hin) rfl rfl hdg fun H1 e z oq => ?_
  refine kk H1 _ ?_ z oq (hS.put z oq ha)
  show H1[a]? = some (vp_cell _ _)
  rw [e]
  rw [vp_cell_q, vp_cell_q, arrV_store]
  congr 2
  funext q
  by_cases hq : q = i.toNatClampNeg
  · subst hq
    simp [updV, va_up, va_rf]
  · simp [updV, va_up, hq]
theorem tc_S_new {H1 : Heap} (hS : va_S A H0 H locs) (z1 : H1.size = H.size + 1) (o1 : ∀ q : Nat, q < H.size → H1[q]? = H[q]?) : va_S A H0 H1 locs := ⟨Nat.le_trans hS.1 (by omega), fun x h1 h2 => (o1 x (Nat.lt_of_lt_of_le h1 hS.1)).trans (hS.2.1 x h1 h2), hS.2.2⟩
theorem tc_new (hexec : p.tables.exec = Jvm.exec) (hb : c.code = cc) {Ts : List Cond} (hts : ∀ w ∈ Ts, w.before args s = true) {own C : String} {T : u_T} {N ci index : Nat} (hin : ∀ w ∈ u_ws C T N, w ∈ Ts) (ty : Nat → FieldType) (hty : ∀ k, k < N → parseFieldDescriptor (T k).2.2.1 = some (ty k)) (hown : s.vm.findClass own = some m.cls) (hcl : (Cond.classLink own index C).before args s = true) (hinst : (Cond.instantiable C N).before args s = true) (hini : (Cond.initialized C).before args s = true)
    (hK : va_K D cl tys s) (hS : va_S A H0 H locs) (hc : cl[ci]? = some (C, T, N)) {fs : List Value} (hfs : ∀ j, j < N → defaultValue (ty j) = vp_V fs j) (hcells : cells + 1 ≤ R.cells) (hslots : slots + N ≤ R.slots) (hdg : decode cc pc = .ok (.new index, 3))
    (kk : ∀ (H1 : Heap), va_at D cl (H.size, .inr (ci, fs)) H1 → H1.size = H.size + 1 → (∀ q, q < H.size → H1[q]? = H[q]?) → va_S A H0 H1 locs →
      W p l e R s m args below meth c H1 locs (cells + 1) (slots + N) Q (F0 m (pc + 3) ls (.ref H.size :: rest))) : W p l e R s m args below meth c H locs cells slots Q (F0 m pc ls rest) := by
  have hKn := hK.1 ci _ hc
  refine W.newcK hexec hb hown hcl hinst hini rfl hdg hcells hslots hKn.2.1 rfl fun H1 kC hkC e1 z1 o1 => ?_
  exact kk H1 ⟨_, hc, (u_born ty hts hin hKn hkC e1 hty).to hfs⟩ z1 o1 (tc_S_new hS z1 o1)
theorem tc_newI (hexec : p.tables.exec = Jvm.exec) (hb : c.code = cc) (harr : (Cond.arrayClass .int).before args s = true) (hS : va_S A H0 H locs) (hK : va_K D cl tys s)
    {n : Int32} {N : Nat} (hn : ¬ n < 0) (hN : n.toNatClampNeg = N) (hbytes : N * 4 ≤ 536870912) (hcells : cells + 1 ≤ R.cells) (hslots : slots + N ≤ R.slots) (hdg : decode cc pc = .ok (.newarray .int, 2)) {cI : ClassId} (t0 : Nat) (ht : tys[t0]? = some (cI, .int))
    (kk : ∀ (H1 : Heap), va_at D cl (H.size, .inl (cI, N, .inl (fun _ => 0))) H1 → H1.size = H.size + 1 → (∀ q, q < H.size → H1[q]? = H[q]?) → va_S A H0 H1 locs →
      W p l e R s m args below meth c H1 locs (cells + 1) (slots + N) Q (F0 m (pc + 2) ls (.ref H.size :: rest))) : W p l e R s m args below meth c H locs cells slots Q (F0 m pc ls (.int n :: rest)) := by
  refine va_newaK (atype := .int) hexec hb harr rfl hdg rfl hn hN hbytes hcells hslots rfl fun H1 cA e1 z1 o1 hAr hNm => ?_
  have hc : cA = cI := Option.some.inj (hNm.symm.trans (hK.2 t0 _ ht).2)
  subst hc
  exact kk H1 e1 z1 o1 (tc_S_new hS z1 o1)
end TC1
end
