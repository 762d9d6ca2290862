theorem dX0_init_0 : decode cX0_init 0 = .ok (.aload_n 0, 1) := by decide +kernel
theorem dX0_init_1 : decode cX0_init 1 = .ok (.invokespecial 3, 3) := by decide +kernel
theorem dX0_init_4 : decode cX0_init 4 = .ok (.aload_n 0, 1) := by decide +kernel
theorem dX0_init_5 : decode cX0_init 5 = .ok (.iconst (-1), 1) := by decide +kernel
theorem dX0_init_6 : decode cX0_init 6 = .ok (.putfield 9, 3) := by decide +kernel
theorem dX0_init_9 : decode cX0_init 9 = .ok (.aload_n 0, 1) := by decide +kernel
theorem dX0_init_10 : decode cX0_init 10 = .ok (.iconst (-1), 1) := by decide +kernel
theorem dX0_init_11 : decode cX0_init 11 = .ok (.putfield 15, 3) := by decide +kernel
theorem dX0_init_14 : decode cX0_init 14 = .ok (.aload_n 0, 1) := by decide +kernel
theorem dX0_init_15 : decode cX0_init 15 = .ok (.iload_n 1, 1) := by decide +kernel
theorem dX0_init_16 : decode cX0_init 16 = .ok (.putfield 18, 3) := by decide +kernel
theorem dX0_init_19 : decode cX0_init 19 = .ok (.aload_n 0, 1) := by decide +kernel
theorem dX0_init_20 : decode cX0_init 20 = .ok (.iload_n 2, 1) := by decide +kernel
theorem dX0_init_21 : decode cX0_init 21 = .ok (.putfield 21, 3) := by decide +kernel
theorem dX0_init_24 : decode cX0_init 24 = .ok (.return_, 1) := by decide +kernel
theorem dX1_init_0 : decode cX1_init 0 = .ok (.aload_n 0, 1) := by decide +kernel
theorem dX1_init_1 : decode cX1_init 1 = .ok (.invokespecial 3, 3) := by decide +kernel
theorem dX1_init_4 : decode cX1_init 4 = .ok (.aload_n 0, 1) := by decide +kernel
theorem dX1_init_5 : decode cX1_init 5 = .ok (.bipush 10, 2) := by decide +kernel
theorem dX1_init_7 : decode cX1_init 7 = .ok (.putfield 9, 3) := by decide +kernel
theorem dX1_init_10 : decode cX1_init 10 = .ok (.aload_n 0, 1) := by decide +kernel
theorem dX1_init_11 : decode cX1_init 11 = .ok (.iload_n 1, 1) := by decide +kernel
theorem dX1_init_12 : decode cX1_init 12 = .ok (.putfield 15, 3) := by decide +kernel
theorem dX1_init_15 : decode cX1_init 15 = .ok (.aload_n 0, 1) := by decide +kernel
theorem dX1_init_16 : decode cX1_init 16 = .ok (.iload_n 2, 1) := by decide +kernel
theorem dX1_init_17 : decode cX1_init 17 = .ok (.putfield 18, 3) := by decide +kernel
theorem dX1_init_20 : decode cX1_init 20 = .ok (.aload_n 0, 1) := by decide +kernel
theorem dX1_init_21 : decode cX1_init 21 = .ok (.iload_n 3, 1) := by decide +kernel
theorem dX1_init_22 : decode cX1_init 22 = .ok (.putfield 21, 3) := by decide +kernel
theorem dX1_init_25 : decode cX1_init 25 = .ok (.aload_n 0, 1) := by decide +kernel
theorem dX1_init_26 : decode cX1_init 26 = .ok (.iload 4, 2) := by decide +kernel
theorem dX1_init_28 : decode cX1_init 28 = .ok (.putfield 24, 3) := by decide +kernel
theorem dX1_init_31 : decode cX1_init 31 = .ok (.aload_n 0, 1) := by decide +kernel
theorem dX1_init_32 : decode cX1_init 32 = .ok (.iload_n 1, 1) := by decide +kernel
theorem dX1_init_33 : decode cX1_init 33 = .ok (.putfield 27, 3) := by decide +kernel
theorem dX1_init_36 : decode cX1_init 36 = .ok (.return_, 1) := by decide +kernel
theorem dX1_strength_0 : decode cX1_strength 0 = .ok (.aload_n 0, 1) := by decide +kernel
theorem dX1_strength_1 : decode cX1_strength 1 = .ok (.getfield 21, 3) := by decide +kernel
theorem dX1_strength_4 : decode cX1_strength 4 = .ok (.iconst 1, 1) := by decide +kernel
theorem dX1_strength_5 : decode cX1_strength 5 = .ok (.if_icmp .ge 7, 3) := by decide +kernel
theorem dX1_strength_8 : decode cX1_strength 8 = .ok (.iconst 0, 1) := by decide +kernel
theorem dX1_strength_9 : decode cX1_strength 9 = .ok (.goto 15, 3) := by decide +kernel
theorem dX1_strength_12 : decode cX1_strength 12 = .ok (.bipush 12, 2) := by decide +kernel
theorem dX1_strength_14 : decode cX1_strength 14 = .ok (.aload_n 0, 1) := by decide +kernel
theorem dX1_strength_15 : decode cX1_strength 15 = .ok (.getfield 24, 3) := by decide +kernel
theorem dX1_strength_18 : decode cX1_strength 18 = .ok (.imul, 1) := by decide +kernel
theorem dX1_strength_19 : decode cX1_strength 19 = .ok (.aload_n 0, 1) := by decide +kernel
theorem dX1_strength_20 : decode cX1_strength 20 = .ok (.getfield 21, 3) := by decide +kernel
theorem dX1_strength_23 : decode cX1_strength 23 = .ok (.idiv, 1) := by decide +kernel
theorem dX1_strength_24 : decode cX1_strength 24 = .ok (.ireturn, 1) := by decide +kernel
set_option maxRecDepth 20000 in
theorem ggX1_canLift_X1_strength : GoodIn wsX1_canLift wsX1_strength := goodIn_r _ [5, 6, 7, 8, 9, 10, 11, 12, 13, 14, 15] (by decide +kernel) (by decide +kernel)
set_option maxRecDepth 20000 in
theorem gX1_canLift_X1_strength : GoodIn wsX1_canLift (wsV RX1 30 RX1 yX1_strength wsX1_strength) := goodIn_app (goodIn_of _ (by decide +kernel)) ggX1_canLift_X1_strength
theorem dX1_canLift_0 : decode cX1_canLift 0 = .ok (.iload_n 1, 1) := by decide +kernel
theorem dX1_canLift_1 : decode cX1_canLift 1 = .ok (.aload_n 0, 1) := by decide +kernel
theorem dX1_canLift_2 : decode cX1_canLift 2 = .ok (.invokevirtual 30, 3) := by decide +kernel
theorem dX1_canLift_5 : decode cX1_canLift 5 = .ok (.if_icmp .gt 7, 3) := by decide +kernel
theorem dX1_canLift_8 : decode cX1_canLift 8 = .ok (.iconst 1, 1) := by decide +kernel
theorem dX1_canLift_9 : decode cX1_canLift 9 = .ok (.goto 4, 3) := by decide +kernel
theorem dX1_canLift_12 : decode cX1_canLift 12 = .ok (.iconst 0, 1) := by decide +kernel
theorem dX1_canLift_13 : decode cX1_canLift 13 = .ok (.ireturn, 1) := by decide +kernel
set_option maxRecDepth 20000 in
theorem ggX1_reaches_X2_distance : GoodIn wsX1_reaches wsX2_distance := goodIn_r _ [5, 6, 7, 8, 9] (by decide +kernel) (by decide +kernel)
set_option maxRecDepth 20000 in
theorem gX1_reaches_X2_distance_n34 : GoodIn wsX1_reaches (wsX2_distance) := ggX1_reaches_X2_distance
theorem dX1_reaches_0 : decode cX1_reaches 0 = .ok (.aload_n 0, 1) := by decide +kernel
theorem dX1_reaches_1 : decode cX1_reaches 1 = .ok (.getfield 15, 3) := by decide +kernel
theorem dX1_reaches_4 : decode cX1_reaches 4 = .ok (.iload_n 1, 1) := by decide +kernel
theorem dX1_reaches_5 : decode cX1_reaches 5 = .ok (.invokestatic 34, 3) := by decide +kernel
theorem dX1_reaches_8 : decode cX1_reaches 8 = .ok (.aload_n 0, 1) := by decide +kernel
theorem dX1_reaches_9 : decode cX1_reaches 9 = .ok (.getfield 18, 3) := by decide +kernel
theorem dX1_reaches_12 : decode cX1_reaches 12 = .ok (.if_icmp .gt 7, 3) := by decide +kernel
theorem dX1_reaches_15 : decode cX1_reaches 15 = .ok (.iconst 1, 1) := by decide +kernel
theorem dX1_reaches_16 : decode cX1_reaches 16 = .ok (.goto 4, 3) := by decide +kernel
theorem dX1_reaches_19 : decode cX1_reaches 19 = .ok (.iconst 0, 1) := by decide +kernel
theorem dX1_reaches_20 : decode cX1_reaches 20 = .ok (.ireturn, 1) := by decide +kernel
theorem dX1_ticksToWind_0 : decode cX1_ticksToWind 0 = .ok (.aload_n 0, 1) := by decide +kernel
theorem dX1_ticksToWind_1 : decode cX1_ticksToWind 1 = .ok (.getfield 21, 3) := by decide +kernel
theorem dX1_ticksToWind_4 : decode cX1_ticksToWind 4 = .ok (.iconst 1, 1) := by decide +kernel
theorem dX1_ticksToWind_5 : decode cX1_ticksToWind 5 = .ok (.if_icmp .ge 7, 3) := by decide +kernel
theorem dX1_ticksToWind_8 : decode cX1_ticksToWind 8 = .ok (.iconst 0, 1) := by decide +kernel
theorem dX1_ticksToWind_9 : decode cX1_ticksToWind 9 = .ok (.goto 16, 3) := by decide +kernel
theorem dX1_ticksToWind_12 : decode cX1_ticksToWind 12 = .ok (.iload_n 1, 1) := by decide +kernel
theorem dX1_ticksToWind_13 : decode cX1_ticksToWind 13 = .ok (.aload_n 0, 1) := by decide +kernel
theorem dX1_ticksToWind_14 : decode cX1_ticksToWind 14 = .ok (.getfield 21, 3) := by decide +kernel
theorem dX1_ticksToWind_17 : decode cX1_ticksToWind 17 = .ok (.iadd, 1) := by decide +kernel
theorem dX1_ticksToWind_18 : decode cX1_ticksToWind 18 = .ok (.iconst 1, 1) := by decide +kernel
theorem dX1_ticksToWind_19 : decode cX1_ticksToWind 19 = .ok (.isub, 1) := by decide +kernel
theorem dX1_ticksToWind_20 : decode cX1_ticksToWind 20 = .ok (.aload_n 0, 1) := by decide +kernel
theorem dX1_ticksToWind_21 : decode cX1_ticksToWind 21 = .ok (.getfield 21, 3) := by decide +kernel
theorem dX1_ticksToWind_24 : decode cX1_ticksToWind 24 = .ok (.idiv, 1) := by decide +kernel
theorem dX1_ticksToWind_25 : decode cX1_ticksToWind 25 = .ok (.ireturn, 1) := by decide +kernel
theorem dX1_lowestHook_0 : decode cX1_lowestHook 0 = .ok (.aload_n 0, 1) := by decide +kernel
theorem dX1_lowestHook_1 : decode cX1_lowestHook 1 = .ok (.getfield 38, 3) := by decide +kernel
theorem dX1_lowestHook_4 : decode cX1_lowestHook 4 = .ok (.ifnonnull 7, 3) := by decide +kernel
theorem dX1_lowestHook_7 : decode cX1_lowestHook 7 = .ok (.iload_n 1, 1) := by decide +kernel
theorem dX1_lowestHook_8 : decode cX1_lowestHook 8 = .ok (.goto 6, 3) := by decide +kernel
theorem dX1_lowestHook_11 : decode cX1_lowestHook 11 = .ok (.iload_n 1, 1) := by decide +kernel
theorem dX1_lowestHook_12 : decode cX1_lowestHook 12 = .ok (.iconst 1, 1) := by decide +kernel
theorem dX1_lowestHook_13 : decode cX1_lowestHook 13 = .ok (.iadd, 1) := by decide +kernel
theorem dX1_lowestHook_14 : decode cX1_lowestHook 14 = .ok (.ireturn, 1) := by decide +kernel
set_option maxRecDepth 20000 in
theorem ggX1_wornAfterLowering_X2_wearInATick : GoodIn wsX1_wornAfterLowering wsX2_wearInATick := goodIn_r _ [4] (by decide +kernel) (by decide +kernel)
set_option maxRecDepth 20000 in
theorem gX1_wornAfterLowering_X2_wearInATick_n45 : GoodIn wsX1_wornAfterLowering (wsX2_wearInATick) := ggX1_wornAfterLowering_X2_wearInATick
theorem dX1_wornAfterLowering_0 : decode cX1_wornAfterLowering 0 = .ok (.aload_n 0, 1) := by decide +kernel
theorem dX1_wornAfterLowering_1 : decode cX1_wornAfterLowering 1 = .ok (.getfield 42, 3) := by decide +kernel
theorem dX1_wornAfterLowering_4 : decode cX1_wornAfterLowering 4 = .ok (.iload_n 2, 1) := by decide +kernel
theorem dX1_wornAfterLowering_5 : decode cX1_wornAfterLowering 5 = .ok (.iload_n 1, 1) := by decide +kernel
theorem dX1_wornAfterLowering_6 : decode cX1_wornAfterLowering 6 = .ok (.invokestatic 45, 3) := by decide +kernel
theorem dX1_wornAfterLowering_9 : decode cX1_wornAfterLowering 9 = .ok (.imul, 1) := by decide +kernel
theorem dX1_wornAfterLowering_10 : decode cX1_wornAfterLowering 10 = .ok (.iadd, 1) := by decide +kernel
theorem dX1_wornAfterLowering_11 : decode cX1_wornAfterLowering 11 = .ok (.ireturn, 1) := by decide +kernel
set_option maxRecDepth 20000 in
theorem ggX2_init_Jx4a65c_init_da8c8 : GoodIn wsX2_init wsJx4a65c_init_da8c8 := goodIn_r _ [13, 14, 15, 16, 17, 18, 19, 20, 21, 22, 23, 24, 25, 2, 3, 30, 31, 32] (by decide +kernel) (by decide +kernel)
set_option maxRecDepth 20000 in
theorem gX2_init_Jx4a65c_init_da8c8 : GoodIn wsX2_init (wsJx4a65c_init_da8c8) := ggX2_init_Jx4a65c_init_da8c8
theorem dX2_init_0 : decode cX2_init 0 = .ok (.aload_n 0, 1) := by decide +kernel
theorem dX2_init_1 : decode cX2_init 1 = .ok (.invokespecial 1, 3) := by decide +kernel
theorem dX2_init_4 : decode cX2_init 4 = .ok (.aload_n 0, 1) := by decide +kernel
theorem dX2_init_5 : decode cX2_init 5 = .ok (.bipush 16, 2) := by decide +kernel
theorem dX2_init_7 : decode cX2_init 7 = .ok (.anewarray 9, 3) := by decide +kernel
theorem dX2_init_10 : decode cX2_init 10 = .ok (.putfield 11, 3) := by decide +kernel
theorem dX2_init_13 : decode cX2_init 13 = .ok (.aload_n 0, 1) := by decide +kernel
theorem dX2_init_14 : decode cX2_init 14 = .ok (.new 15, 3) := by decide +kernel
theorem dX2_init_17 : decode cX2_init 17 = .ok (.dup, 1) := by decide +kernel
theorem dX2_init_18 : decode cX2_init 18 = .ok (.invokespecial 17, 3) := by decide +kernel
theorem dX2_init_21 : decode cX2_init 21 = .ok (.putfield 18, 3) := by decide +kernel
theorem dX2_init_24 : decode cX2_init 24 = .ok (.aload_n 0, 1) := by decide +kernel
theorem dX2_init_25 : decode cX2_init 25 = .ok (.new 15, 3) := by decide +kernel
theorem dX2_init_28 : decode cX2_init 28 = .ok (.dup, 1) := by decide +kernel
theorem dX2_init_29 : decode cX2_init 29 = .ok (.invokespecial 17, 3) := by decide +kernel
theorem dX2_init_32 : decode cX2_init 32 = .ok (.putfield 22, 3) := by decide +kernel
theorem dX2_init_35 : decode cX2_init 35 = .ok (.return_, 1) := by decide +kernel
set_option maxRecDepth 20000 in
theorem ggX2_land_X2_requirePlace : GoodIn wsX2_land wsX2_requirePlace := goodIn_ca (goodIn_r _ [11, 12, 13, 14, 15, 10, 16, 17, 18, 19] (by decide +kernel) (by decide +kernel)) (goodIn_sub (fun _ h => List.mem_cons_of_mem _ (List.mem_append_left _ (List.mem_append_right _ h))) (by decide +kernel))
set_option maxRecDepth 20000 in
theorem gX2_land_X2_requirePlace : GoodIn wsX2_land (va_wsS RX2 25 yX2_requirePlace wsX2_requirePlace) := goodIn_app (goodIn_of _ (by decide +kernel)) ggX2_land_X2_requirePlace
set_option maxRecDepth 20000 in
theorem ggX2_land_X2_requireWeight : GoodIn wsX2_land wsX2_requireWeight := goodIn_ca (goodIn_r _ [22, 23, 24, 17, 18, 10, 19] (by decide +kernel) (by decide +kernel)) (goodIn_sub (fun _ h => List.mem_cons_of_mem _ (List.mem_append_right _ h)) (by decide +kernel))
set_option maxRecDepth 20000 in
theorem gX2_land_X2_requireWeight : GoodIn wsX2_land (va_wsS RX2 29 yX2_requireWeight wsX2_requireWeight) := goodIn_app (goodIn_of _ (by decide +kernel)) ggX2_land_X2_requireWeight
set_option maxRecDepth 20000 in
theorem ggX2_land_Jx4a65c_size_8abf5 : GoodIn wsX2_land wsJx4a65c_size_8abf5 := goodIn_r _ [29, 30, 152, 153, 154] (by decide +kernel) (by decide +kernel)
set_option maxRecDepth 20000 in
theorem gX2_land_Jx4a65c_size_8abf5 : GoodIn wsX2_land (wsV RX2 32 RJx4a65c yJx4a65c_size_8abf5 wsJx4a65c_size_8abf5) := goodIn_app (goodIn_of _ (by decide +kernel)) ggX2_land_Jx4a65c_size_8abf5
set_option maxRecDepth 20000 in
theorem ggX2_land_X2_heightOf : GoodIn wsX2_land wsX2_heightOf := goodIn_r _ [34, 35, 36, 37, 38, 10, 39, 40, 14, 15, 16, 17, 18, 19, 145, 146, 147, 148, 149, 150, 151, 141, 142, 143, 144] (by decide +kernel) (by decide +kernel)
set_option maxRecDepth 20000 in
theorem gX2_land_X2_heightOf : GoodIn wsX2_land (wsV RX2 36 RX2 yX2_heightOf wsX2_heightOf) := goodIn_app (goodIn_of _ (by decide +kernel)) ggX2_land_X2_heightOf
set_option maxRecDepth 20000 in
theorem ggX2_land_X2_hooksAllow : GoodIn wsX2_land wsX2_hooksAllow := goodIn_r _ [44, 45, 46, 47, 48, 25, 26, 27, 28, 29, 30, 49, 50, 51, 52, 53, 54, 55, 56, 57, 58, 59, 60, 61, 62, 63, 64, 65, 66, 67, 68, 69, 70, 71, 141, 142, 143, 144, 155, 156, 157, 158, 159, 160, 161, 162, 152, 153, 154] (by decide +kernel) (by decide +kernel)
set_option maxRecDepth 20000 in
theorem gX2_land_X2_hooksAllow : GoodIn wsX2_land (wsV RX2 47 RX2 yX2_hooksAllow wsX2_hooksAllow) := goodIn_app (goodIn_of _ (by decide +kernel)) ggX2_land_X2_hooksAllow
set_option maxRecDepth 20000 in
theorem ggX2_land_X0_init : GoodIn wsX2_land wsX0_init := goodIn_r _ [74, 75, 76, 77, 78, 79, 80, 81, 145, 146, 147, 148, 149, 150, 151] (by decide +kernel) (by decide +kernel)
set_option maxRecDepth 20000 in
theorem gX2_land_X0_init : GoodIn wsX2_land (wsX0_init) := ggX2_land_X0_init
set_option maxRecDepth 20000 in
theorem ggX2_land_Jx4a65c_add_9ea2d : GoodIn wsX2_land wsJx4a65c_add_9ea2d := goodIn_r _ [85, 86, 87, 65, 30, 88, 89, 90, 28, 91, 92, 93, 94, 95, 96, 97, 98, 99, 100, 101, 102, 103, 104, 105, 106, 107, 108, 109, 110, 111, 112, 113, 114, 115, 116, 117, 118, 119, 120, 121, 122, 123, 124, 125, 126, 127, 128, 129, 130, 131, 132, 133, 134, 152, 153, 154] (by decide +kernel) (by decide +kernel)
set_option maxRecDepth 20000 in
theorem gX2_land_Jx4a65c_add_9ea2d : GoodIn wsX2_land (wsV RX2 56 RJx4a65c yJx4a65c_add_9ea2d wsJx4a65c_add_9ea2d) := goodIn_app (goodIn_of _ (by decide +kernel)) ggX2_land_Jx4a65c_add_9ea2d
set_option maxRecDepth 20000 in
theorem ggX2_land_X2_putUpon : GoodIn wsX2_land wsX2_putUpon := goodIn_r _ [138, 139, 35, 40, 140, 14, 15, 10, 16, 17, 18, 19, 31, 32, 33, 34, 36, 37, 38, 39, 145, 146, 147, 148, 149, 150, 151, 141, 142, 143, 144] (by decide +kernel) (by decide +kernel)
set_option maxRecDepth 20000 in
theorem gX2_land_X2_putUpon : GoodIn wsX2_land (wsV RX2 60 RX2 yX2_putUpon wsX2_putUpon) := goodIn_app (goodIn_of _ (by decide +kernel)) ggX2_land_X2_putUpon
theorem dX2_land_0 : decode cX2_land 0 = .ok (.iload_n 1, 1) := by decide +kernel
theorem dX2_land_1 : decode cX2_land 1 = .ok (.invokestatic 25, 3) := by decide +kernel
theorem dX2_land_4 : decode cX2_land 4 = .ok (.iload_n 2, 1) := by decide +kernel
theorem dX2_land_5 : decode cX2_land 5 = .ok (.invokestatic 29, 3) := by decide +kernel
theorem dX2_land_8 : decode cX2_land 8 = .ok (.aload_n 0, 1) := by decide +kernel
theorem dX2_land_9 : decode cX2_land 9 = .ok (.getfield 18, 3) := by decide +kernel
theorem dX2_land_12 : decode cX2_land 12 = .ok (.invokevirtual 32, 3) := by decide +kernel
theorem dX2_land_15 : decode cX2_land 15 = .ok (.bipush 40, 2) := by decide +kernel
theorem dX2_land_17 : decode cX2_land 17 = .ok (.if_icmp .ge 13, 3) := by decide +kernel
theorem dX2_land_20 : decode cX2_land 20 = .ok (.aload_n 0, 1) := by decide +kernel
theorem dX2_land_21 : decode cX2_land 21 = .ok (.iload_n 1, 1) := by decide +kernel
theorem dX2_land_22 : decode cX2_land 22 = .ok (.invokevirtual 36, 3) := by decide +kernel
theorem dX2_land_25 : decode cX2_land 25 = .ok (.bipush 8, 2) := by decide +kernel
theorem dX2_land_27 : decode cX2_land 27 = .ok (.if_icmp .lt 13, 3) := by decide +kernel
theorem dX2_land_30 : decode cX2_land 30 = .ok (.new 40, 3) := by decide +kernel
theorem dX2_land_33 : decode cX2_land 33 = .ok (.dup, 1) := by decide +kernel
theorem dX2_land_34 : decode cX2_land 34 = .ok (.ldc 42, 2) := by decide +kernel
theorem dX2_land_36 : decode cX2_land 36 = .ok (.invokespecial 44, 3) := by decide +kernel
theorem dX2_land_39 : decode cX2_land 39 = .ok (.athrow, 1) := by decide +kernel
theorem dX2_land_40 : decode cX2_land 40 = .ok (.aload_n 0, 1) := by decide +kernel
theorem dX2_land_41 : decode cX2_land 41 = .ok (.iload_n 1, 1) := by decide +kernel
theorem dX2_land_42 : decode cX2_land 42 = .ok (.aload_n 0, 1) := by decide +kernel
theorem dX2_land_43 : decode cX2_land 43 = .ok (.iload_n 1, 1) := by decide +kernel
theorem dX2_land_44 : decode cX2_land 44 = .ok (.invokevirtual 36, 3) := by decide +kernel
theorem dX2_land_47 : decode cX2_land 47 = .ok (.iconst 1, 1) := by decide +kernel
theorem dX2_land_48 : decode cX2_land 48 = .ok (.iadd, 1) := by decide +kernel
theorem dX2_land_49 : decode cX2_land 49 = .ok (.iconst (-1), 1) := by decide +kernel
theorem dX2_land_50 : decode cX2_land 50 = .ok (.invokevirtual 47, 3) := by decide +kernel
theorem dX2_land_53 : decode cX2_land 53 = .ok (.ifCond .ne 13, 3) := by decide +kernel
theorem dX2_land_56 : decode cX2_land 56 = .ok (.new 40, 3) := by decide +kernel
theorem dX2_land_59 : decode cX2_land 59 = .ok (.dup, 1) := by decide +kernel
theorem dX2_land_60 : decode cX2_land 60 = .ok (.ldc 51, 2) := by decide +kernel
theorem dX2_land_62 : decode cX2_land 62 = .ok (.invokespecial 44, 3) := by decide +kernel
theorem dX2_land_65 : decode cX2_land 65 = .ok (.athrow, 1) := by decide +kernel
theorem dX2_land_66 : decode cX2_land 66 = .ok (.new 9, 3) := by decide +kernel
theorem dX2_land_69 : decode cX2_land 69 = .ok (.dup, 1) := by decide +kernel
theorem dX2_land_70 : decode cX2_land 70 = .ok (.aload_n 0, 1) := by decide +kernel
theorem dX2_land_71 : decode cX2_land 71 = .ok (.getfield 18, 3) := by decide +kernel
theorem dX2_land_74 : decode cX2_land 74 = .ok (.invokevirtual 32, 3) := by decide +kernel
theorem dX2_land_77 : decode cX2_land 77 = .ok (.iload_n 2, 1) := by decide +kernel
theorem dX2_land_78 : decode cX2_land 78 = .ok (.invokespecial 53, 3) := by decide +kernel
theorem dX2_land_81 : decode cX2_land 81 = .ok (.astore_n 3, 1) := by decide +kernel
theorem dX2_land_82 : decode cX2_land 82 = .ok (.aload_n 0, 1) := by decide +kernel
theorem dX2_land_83 : decode cX2_land 83 = .ok (.getfield 18, 3) := by decide +kernel
theorem dX2_land_86 : decode cX2_land 86 = .ok (.aload_n 3, 1) := by decide +kernel
theorem dX2_land_87 : decode cX2_land 87 = .ok (.invokevirtual 56, 3) := by decide +kernel
theorem dX2_land_90 : decode cX2_land 90 = .ok (.pop, 1) := by decide +kernel
theorem dX2_land_91 : decode cX2_land 91 = .ok (.aload_n 0, 1) := by decide +kernel
theorem dX2_land_92 : decode cX2_land 92 = .ok (.iload_n 1, 1) := by decide +kernel
theorem dX2_land_93 : decode cX2_land 93 = .ok (.aload_n 3, 1) := by decide +kernel
theorem dX2_land_94 : decode cX2_land 94 = .ok (.invokevirtual 60, 3) := by decide +kernel
theorem dX2_land_97 : decode cX2_land 97 = .ok (.aload_n 3, 1) := by decide +kernel
theorem dX2_land_98 : decode cX2_land 98 = .ok (.getfield 64, 3) := by decide +kernel
theorem dX2_land_101 : decode cX2_land 101 = .ok (.ireturn, 1) := by decide +kernel
set_option maxRecDepth 20000 in
theorem ggX2_build_X2_requirePlace : GoodIn wsX2_build wsX2_requirePlace := goodIn_ca (goodIn_r _ [12, 13, 14, 15, 16, 11, 17, 18, 19, 20] (by decide +kernel) (by decide +kernel)) (goodIn_sub (fun _ h => List.mem_cons_of_mem _ (List.mem_append_right _ h)) (by decide +kernel))
set_option maxRecDepth 20000 in
theorem gX2_build_X2_requirePlace : GoodIn wsX2_build (va_wsS RX2 25 yX2_requirePlace wsX2_requirePlace) := goodIn_app (goodIn_of _ (by decide +kernel)) ggX2_build_X2_requirePlace
set_option maxRecDepth 20000 in
theorem ggX2_build_X2_isBetween : GoodIn wsX2_build wsX2_isBetween := goodIn_r _ [20] (by decide +kernel) (by decide +kernel)
set_option maxRecDepth 20000 in
theorem gX2_build_X2_isBetween : GoodIn wsX2_build (va_wsS RX2 68 yX2_isBetween wsX2_isBetween) := goodIn_app (goodIn_of _ (by decide +kernel)) ggX2_build_X2_isBetween
set_option maxRecDepth 20000 in
theorem ggX2_build_X2_requireWalkers : GoodIn wsX2_build wsX2_requireWalkers := goodIn_ca (goodIn_r _ [23, 1, 2, 18, 19, 11, 20] (by decide +kernel) (by decide +kernel)) (goodIn_sub (fun _ h => List.mem_cons_of_mem _ (List.mem_append_left _ (List.mem_append_left _ (List.mem_append_right _ h)))) (by decide +kernel))
set_option maxRecDepth 20000 in
theorem gX2_build_X2_requireWalkers : GoodIn wsX2_build (va_wsS RX2 76 yX2_requireWalkers wsX2_requireWalkers) := goodIn_app (goodIn_of _ (by decide +kernel)) ggX2_build_X2_requireWalkers
set_option maxRecDepth 20000 in
theorem ggX2_build_Jx4a65c_size_8abf5 : GoodIn wsX2_build wsJx4a65c_size_8abf5 := goodIn_r _ [28, 29, 108, 109, 110] (by decide +kernel) (by decide +kernel)
set_option maxRecDepth 20000 in
theorem gX2_build_Jx4a65c_size_8abf5 : GoodIn wsX2_build (wsV RX2 32 RJx4a65c yJx4a65c_size_8abf5 wsJx4a65c_size_8abf5) := goodIn_app (goodIn_of _ (by decide +kernel)) ggX2_build_Jx4a65c_size_8abf5
set_option maxRecDepth 20000 in
theorem ggX2_build_X1_init : GoodIn wsX2_build wsX1_init := goodIn_r _ [32, 33, 34, 35, 36, 37, 38, 39, 40, 41, 100, 101, 102, 103, 104, 105, 106, 107] (by decide +kernel) (by decide +kernel)
set_option maxRecDepth 20000 in
theorem gX2_build_X1_init : GoodIn wsX2_build (wsX1_init) := ggX2_build_X1_init
set_option maxRecDepth 20000 in
theorem ggX2_build_Jx4a65c_add_9ea2d : GoodIn wsX2_build wsJx4a65c_add_9ea2d := goodIn_r _ [45, 46, 47, 48, 29, 49, 50, 51, 27, 52, 53, 54, 55, 56, 57, 58, 59, 60, 61, 62, 63, 64, 65, 66, 67, 68, 69, 70, 71, 72, 73, 74, 75, 76, 77, 78, 79, 80, 81, 82, 83, 84, 85, 86, 87, 88, 89, 90, 91, 92, 93, 94, 95, 108, 109, 110] (by decide +kernel) (by decide +kernel)
set_option maxRecDepth 20000 in
theorem gX2_build_Jx4a65c_add_9ea2d : GoodIn wsX2_build (wsV RX2 56 RJx4a65c yJx4a65c_add_9ea2d wsJx4a65c_add_9ea2d) := goodIn_app (goodIn_of _ (by decide +kernel)) ggX2_build_Jx4a65c_add_9ea2d
theorem dX2_build_0 : decode cX2_build 0 = .ok (.iload_n 1, 1) := by decide +kernel
theorem dX2_build_1 : decode cX2_build 1 = .ok (.invokestatic 25, 3) := by decide +kernel
theorem dX2_build_4 : decode cX2_build 4 = .ok (.iload_n 2, 1) := by decide +kernel
theorem dX2_build_5 : decode cX2_build 5 = .ok (.iconst 1, 1) := by decide +kernel
theorem dX2_build_6 : decode cX2_build 6 = .ok (.bipush 15, 2) := by decide +kernel
theorem dX2_build_8 : decode cX2_build 8 = .ok (.invokestatic 68, 3) := by decide +kernel
theorem dX2_build_11 : decode cX2_build 11 = .ok (.ifCond .eq 13, 3) := by decide +kernel
theorem dX2_build_14 : decode cX2_build 14 = .ok (.iload_n 3, 1) := by decide +kernel
theorem dX2_build_15 : decode cX2_build 15 = .ok (.iconst 1, 1) := by decide +kernel
theorem dX2_build_16 : decode cX2_build 16 = .ok (.bipush 6, 2) := by decide +kernel
theorem dX2_build_18 : decode cX2_build 18 = .ok (.invokestatic 68, 3) := by decide +kernel
theorem dX2_build_21 : decode cX2_build 21 = .ok (.ifCond .ne 13, 3) := by decide +kernel
theorem dX2_build_24 : decode cX2_build 24 = .ok (.new 71, 3) := by decide +kernel
theorem dX2_build_27 : decode cX2_build 27 = .ok (.dup, 1) := by decide +kernel
theorem dX2_build_28 : decode cX2_build 28 = .ok (.ldc 73, 2) := by decide +kernel
theorem dX2_build_30 : decode cX2_build 30 = .ok (.invokespecial 75, 3) := by decide +kernel
theorem dX2_build_33 : decode cX2_build 33 = .ok (.athrow, 1) := by decide +kernel
theorem dX2_build_34 : decode cX2_build 34 = .ok (.iload 4, 2) := by decide +kernel
theorem dX2_build_36 : decode cX2_build 36 = .ok (.invokestatic 76, 3) := by decide +kernel
theorem dX2_build_39 : decode cX2_build 39 = .ok (.aload_n 0, 1) := by decide +kernel
theorem dX2_build_40 : decode cX2_build 40 = .ok (.getfield 22, 3) := by decide +kernel
theorem dX2_build_43 : decode cX2_build 43 = .ok (.invokevirtual 32, 3) := by decide +kernel
theorem dX2_build_46 : decode cX2_build 46 = .ok (.iconst 5, 1) := by decide +kernel
theorem dX2_build_47 : decode cX2_build 47 = .ok (.if_icmp .lt 13, 3) := by decide +kernel
theorem dX2_build_50 : decode cX2_build 50 = .ok (.new 40, 3) := by decide +kernel
theorem dX2_build_53 : decode cX2_build 53 = .ok (.dup, 1) := by decide +kernel
theorem dX2_build_54 : decode cX2_build 54 = .ok (.ldc 79, 2) := by decide +kernel
theorem dX2_build_56 : decode cX2_build 56 = .ok (.invokespecial 44, 3) := by decide +kernel
theorem dX2_build_59 : decode cX2_build 59 = .ok (.athrow, 1) := by decide +kernel
theorem dX2_build_60 : decode cX2_build 60 = .ok (.aload_n 0, 1) := by decide +kernel
theorem dX2_build_61 : decode cX2_build 61 = .ok (.getfield 22, 3) := by decide +kernel
theorem dX2_build_64 : decode cX2_build 64 = .ok (.new 81, 3) := by decide +kernel
theorem dX2_build_67 : decode cX2_build 67 = .ok (.dup, 1) := by decide +kernel
theorem dX2_build_68 : decode cX2_build 68 = .ok (.iload_n 1, 1) := by decide +kernel
theorem dX2_build_69 : decode cX2_build 69 = .ok (.iload_n 2, 1) := by decide +kernel
theorem dX2_build_70 : decode cX2_build 70 = .ok (.iload_n 3, 1) := by decide +kernel
theorem dX2_build_71 : decode cX2_build 71 = .ok (.iload 4, 2) := by decide +kernel
theorem dX2_build_73 : decode cX2_build 73 = .ok (.invokespecial 83, 3) := by decide +kernel
theorem dX2_build_76 : decode cX2_build 76 = .ok (.invokevirtual 56, 3) := by decide +kernel
theorem dX2_build_79 : decode cX2_build 79 = .ok (.pop, 1) := by decide +kernel
theorem dX2_build_80 : decode cX2_build 80 = .ok (.aload_n 0, 1) := by decide +kernel
theorem dX2_build_81 : decode cX2_build 81 = .ok (.getfield 22, 3) := by decide +kernel
theorem dX2_build_84 : decode cX2_build 84 = .ok (.invokevirtual 32, 3) := by decide +kernel
theorem dX2_build_87 : decode cX2_build 87 = .ok (.iconst 1, 1) := by decide +kernel
theorem dX2_build_88 : decode cX2_build 88 = .ok (.isub, 1) := by decide +kernel
theorem dX2_build_89 : decode cX2_build 89 = .ok (.ireturn, 1) := by decide +kernel
set_option maxRecDepth 20000 in
theorem ggX2_man_X2_requireCrane : GoodIn wsX2_man wsX2_requireCrane := goodIn_ca (goodIn_r _ [8, 9, 10, 1, 11, 12, 13, 14, 15, 16, 17, 18, 7, 19, 42, 43, 44, 45, 54, 55, 56] (by decide +kernel) (by decide +kernel)) (goodIn_sub (fun _ h => List.mem_cons_of_mem _ (List.mem_append_left _ (List.mem_append_right _ h))) (by decide +kernel))
set_option maxRecDepth 20000 in
theorem gX2_man_X2_requireCrane : GoodIn wsX2_man (wsV RX2 86 RX2 yX2_requireCrane wsX2_requireCrane) := goodIn_app (goodIn_of _ (by decide +kernel)) ggX2_man_X2_requireCrane
set_option maxRecDepth 20000 in
theorem ggX2_man_X2_requireWalkers : GoodIn wsX2_man wsX2_requireWalkers := goodIn_ca (goodIn_r _ [22, 23, 24, 17, 18, 7, 19] (by decide +kernel) (by decide +kernel)) (goodIn_sub (fun _ h => List.mem_cons_of_mem _ (List.mem_append_right _ h)) (by decide +kernel))
set_option maxRecDepth 20000 in
theorem gX2_man_X2_requireWalkers : GoodIn wsX2_man (va_wsS RX2 76 yX2_requireWalkers wsX2_requireWalkers) := goodIn_app (goodIn_of _ (by decide +kernel)) ggX2_man_X2_requireWalkers
set_option maxRecDepth 20000 in
theorem ggX2_man_Jx4a65c_get_915e3 : GoodIn wsX2_man wsJx4a65c_get_915e3 := goodIn_r _ [28, 16, 29, 30, 31, 32, 33, 34, 35, 36, 37, 38, 39, 14, 40, 41, 54, 55, 56] (by decide +kernel) (by decide +kernel)
set_option maxRecDepth 20000 in
theorem gX2_man_Jx4a65c_get_915e3 : GoodIn wsX2_man (wsV RX2 89 RJx4a65c yJx4a65c_get_915e3 wsJx4a65c_get_915e3) := goodIn_app (goodIn_of _ (by decide +kernel)) ggX2_man_Jx4a65c_get_915e3
theorem dX2_man_0 : decode cX2_man 0 = .ok (.aload_n 0, 1) := by decide +kernel
theorem dX2_man_1 : decode cX2_man 1 = .ok (.iload_n 1, 1) := by decide +kernel
theorem dX2_man_2 : decode cX2_man 2 = .ok (.invokevirtual 86, 3) := by decide +kernel
theorem dX2_man_5 : decode cX2_man 5 = .ok (.iload_n 2, 1) := by decide +kernel
theorem dX2_man_6 : decode cX2_man 6 = .ok (.invokestatic 76, 3) := by decide +kernel
theorem dX2_man_9 : decode cX2_man 9 = .ok (.aload_n 0, 1) := by decide +kernel
theorem dX2_man_10 : decode cX2_man 10 = .ok (.getfield 22, 3) := by decide +kernel
theorem dX2_man_13 : decode cX2_man 13 = .ok (.iload_n 1, 1) := by decide +kernel
theorem dX2_man_14 : decode cX2_man 14 = .ok (.invokevirtual 89, 3) := by decide +kernel
theorem dX2_man_17 : decode cX2_man 17 = .ok (.checkcast 81, 3) := by decide +kernel
theorem dX2_man_20 : decode cX2_man 20 = .ok (.astore_n 3, 1) := by decide +kernel
theorem dX2_man_21 : decode cX2_man 21 = .ok (.aload_n 3, 1) := by decide +kernel
theorem dX2_man_22 : decode cX2_man 22 = .ok (.getfield 93, 3) := by decide +kernel
theorem dX2_man_25 : decode cX2_man 25 = .ok (.istore 4, 2) := by decide +kernel
theorem dX2_man_27 : decode cX2_man 27 = .ok (.aload_n 3, 1) := by decide +kernel
theorem dX2_man_28 : decode cX2_man 28 = .ok (.iload_n 2, 1) := by decide +kernel
theorem dX2_man_29 : decode cX2_man 29 = .ok (.putfield 93, 3) := by decide +kernel
theorem dX2_man_32 : decode cX2_man 32 = .ok (.iload 4, 2) := by decide +kernel
theorem dX2_man_34 : decode cX2_man 34 = .ok (.ireturn, 1) := by decide +kernel
set_option maxRecDepth 20000 in
theorem ggX2_mend_X2_requireCrane : GoodIn wsX2_mend wsX2_requireCrane := goodIn_ca (goodIn_r _ [8, 9, 10, 1, 11, 12, 13, 14, 15, 16, 17, 18, 7, 19, 37, 38, 39, 40, 49, 50, 51] (by decide +kernel) (by decide +kernel)) (goodIn_sub (fun _ h => List.mem_cons_of_mem _ (List.mem_append_right _ h)) (by decide +kernel))
set_option maxRecDepth 20000 in
theorem gX2_mend_X2_requireCrane : GoodIn wsX2_mend (wsV RX2 86 RX2 yX2_requireCrane wsX2_requireCrane) := goodIn_app (goodIn_of _ (by decide +kernel)) ggX2_mend_X2_requireCrane
set_option maxRecDepth 20000 in
theorem ggX2_mend_Jx4a65c_get_915e3 : GoodIn wsX2_mend wsJx4a65c_get_915e3 := goodIn_r _ [23, 16, 24, 25, 26, 27, 28, 29, 30, 31, 32, 33, 34, 14, 35, 36, 49, 50, 51] (by decide +kernel) (by decide +kernel)
set_option maxRecDepth 20000 in
theorem gX2_mend_Jx4a65c_get_915e3 : GoodIn wsX2_mend (wsV RX2 89 RJx4a65c yJx4a65c_get_915e3 wsJx4a65c_get_915e3) := goodIn_app (goodIn_of _ (by decide +kernel)) ggX2_mend_Jx4a65c_get_915e3
theorem dX2_mend_0 : decode cX2_mend 0 = .ok (.aload_n 0, 1) := by decide +kernel
theorem dX2_mend_1 : decode cX2_mend 1 = .ok (.iload_n 1, 1) := by decide +kernel
theorem dX2_mend_2 : decode cX2_mend 2 = .ok (.invokevirtual 86, 3) := by decide +kernel
theorem dX2_mend_5 : decode cX2_mend 5 = .ok (.aload_n 0, 1) := by decide +kernel
theorem dX2_mend_6 : decode cX2_mend 6 = .ok (.getfield 22, 3) := by decide +kernel
theorem dX2_mend_9 : decode cX2_mend 9 = .ok (.iload_n 1, 1) := by decide +kernel
theorem dX2_mend_10 : decode cX2_mend 10 = .ok (.invokevirtual 89, 3) := by decide +kernel
theorem dX2_mend_13 : decode cX2_mend 13 = .ok (.checkcast 81, 3) := by decide +kernel
theorem dX2_mend_16 : decode cX2_mend 16 = .ok (.astore_n 2, 1) := by decide +kernel
theorem dX2_mend_17 : decode cX2_mend 17 = .ok (.aload_n 2, 1) := by decide +kernel
theorem dX2_mend_18 : decode cX2_mend 18 = .ok (.getfield 96, 3) := by decide +kernel
theorem dX2_mend_21 : decode cX2_mend 21 = .ok (.istore_n 3, 1) := by decide +kernel
theorem dX2_mend_22 : decode cX2_mend 22 = .ok (.aload_n 2, 1) := by decide +kernel
theorem dX2_mend_23 : decode cX2_mend 23 = .ok (.iconst 0, 1) := by decide +kernel
theorem dX2_mend_24 : decode cX2_mend 24 = .ok (.putfield 96, 3) := by decide +kernel
theorem dX2_mend_27 : decode cX2_mend 27 = .ok (.iload_n 3, 1) := by decide +kernel
theorem dX2_mend_28 : decode cX2_mend 28 = .ok (.ireturn, 1) := by decide +kernel
set_option maxRecDepth 20000 in
theorem ggX2_turn_X2_requireCrane : GoodIn wsX2_turn wsX2_requireCrane := goodIn_ca (goodIn_r _ [12, 13, 14, 3, 15, 16, 17, 18, 19, 20, 21, 22, 11, 23, 86, 87, 88, 89, 98, 99, 100] (by decide +kernel) (by decide +kernel)) (goodIn_sub (fun _ h => List.mem_cons_of_mem _ (List.mem_append_right _ h)) (by decide +kernel))
set_option maxRecDepth 20000 in
theorem gX2_turn_X2_requireCrane : GoodIn wsX2_turn (wsV RX2 86 RX2 yX2_requireCrane wsX2_requireCrane) := goodIn_app (goodIn_of _ (by decide +kernel)) ggX2_turn_X2_requireCrane
set_option maxRecDepth 20000 in
theorem ggX2_turn_X2_requirePlace : GoodIn wsX2_turn wsX2_requirePlace := goodIn_ca (goodIn_r _ [26, 13, 14, 27, 28, 11, 29, 21, 22, 23] (by decide +kernel) (by decide +kernel)) (goodIn_sub (fun _ h => List.mem_cons_of_mem _ (List.mem_append_right _ h)) (by decide +kernel))
set_option maxRecDepth 20000 in
theorem gX2_turn_X2_requirePlace : GoodIn wsX2_turn (va_wsS RX2 25 yX2_requirePlace wsX2_requirePlace) := goodIn_app (goodIn_of _ (by decide +kernel)) ggX2_turn_X2_requirePlace
set_option maxRecDepth 20000 in
theorem ggX2_turn_Jx4a65c_get_915e3 : GoodIn wsX2_turn wsJx4a65c_get_915e3 := goodIn_r _ [33, 20, 34, 35, 36, 37, 38, 39, 40, 41, 42, 43, 44, 18, 45, 46, 98, 99, 100] (by decide +kernel) (by decide +kernel)
set_option maxRecDepth 20000 in
theorem gX2_turn_Jx4a65c_get_915e3 : GoodIn wsX2_turn (wsV RX2 89 RJx4a65c yJx4a65c_get_915e3 wsJx4a65c_get_915e3) := goodIn_app (goodIn_of _ (by decide +kernel)) ggX2_turn_Jx4a65c_get_915e3
set_option maxRecDepth 20000 in
theorem ggX2_turn_X1_reaches : GoodIn wsX2_turn wsX1_reaches := goodIn_r _ [51, 52, 53, 54, 11, 55, 56, 57, 58, 59, 90, 91, 92, 93, 94, 95, 96, 97] (by decide +kernel) (by decide +kernel)
set_option maxRecDepth 20000 in
theorem gX2_turn_X1_reaches : GoodIn wsX2_turn (wsV RX2 99 RX1 yX1_reaches wsX1_reaches) := goodIn_app (goodIn_of _ (by decide +kernel)) ggX2_turn_X1_reaches
set_option maxRecDepth 20000 in
theorem ggX2_turn_X2_highestBetween : GoodIn wsX2_turn wsX2_highestBetween := goodIn_r _ [63, 64, 65, 58, 66, 67, 68, 69, 21, 22, 11, 23, 70, 71, 72, 73, 74, 75, 76, 77, 78, 79, 27, 28, 29, 101, 102, 103, 104, 105, 106, 107, 86, 87, 88, 89] (by decide +kernel) (by decide +kernel)
set_option maxRecDepth 20000 in
theorem gX2_turn_X2_highestBetween : GoodIn wsX2_turn (wsV RX2 111 RX2 yX2_highestBetween wsX2_highestBetween) := goodIn_app (goodIn_of _ (by decide +kernel)) ggX2_turn_X2_highestBetween
set_option maxRecDepth 20000 in
theorem ggX2_turn_X1_lowestHook : GoodIn wsX2_turn wsX1_lowestHook := goodIn_r _ [83, 84, 90, 91, 92, 93, 94, 95, 96, 97] (by decide +kernel) (by decide +kernel)
set_option maxRecDepth 20000 in
theorem gX2_turn_X1_lowestHook : GoodIn wsX2_turn (wsV RX2 115 RX1 yX1_lowestHook wsX1_lowestHook) := goodIn_app (goodIn_of _ (by decide +kernel)) ggX2_turn_X1_lowestHook
set_option maxRecDepth 20000 in
theorem ggX2_turn_X2_distance : GoodIn wsX2_turn wsX2_distance := goodIn_r _ [55, 56, 57, 58, 59] (by decide +kernel) (by decide +kernel)
set_option maxRecDepth 20000 in
theorem gX2_turn_X2_distance : GoodIn wsX2_turn (va_wsS RX2 120 yX2_distance wsX2_distance) := goodIn_app (goodIn_of _ (by decide +kernel)) ggX2_turn_X2_distance
theorem dX2_turn_0 : decode cX2_turn 0 = .ok (.aload_n 0, 1) := by decide +kernel
theorem dX2_turn_1 : decode cX2_turn 1 = .ok (.iload_n 1, 1) := by decide +kernel
theorem dX2_turn_2 : decode cX2_turn 2 = .ok (.invokevirtual 86, 3) := by decide +kernel
theorem dX2_turn_5 : decode cX2_turn 5 = .ok (.iload_n 2, 1) := by decide +kernel
theorem dX2_turn_6 : decode cX2_turn 6 = .ok (.invokestatic 25, 3) := by decide +kernel
theorem dX2_turn_9 : decode cX2_turn 9 = .ok (.aload_n 0, 1) := by decide +kernel
theorem dX2_turn_10 : decode cX2_turn 10 = .ok (.getfield 22, 3) := by decide +kernel
theorem dX2_turn_13 : decode cX2_turn 13 = .ok (.iload_n 1, 1) := by decide +kernel
theorem dX2_turn_14 : decode cX2_turn 14 = .ok (.invokevirtual 89, 3) := by decide +kernel
theorem dX2_turn_17 : decode cX2_turn 17 = .ok (.checkcast 81, 3) := by decide +kernel
theorem dX2_turn_20 : decode cX2_turn 20 = .ok (.astore_n 3, 1) := by decide +kernel
theorem dX2_turn_21 : decode cX2_turn 21 = .ok (.aload_n 3, 1) := by decide +kernel
theorem dX2_turn_22 : decode cX2_turn 22 = .ok (.iload_n 2, 1) := by decide +kernel
theorem dX2_turn_23 : decode cX2_turn 23 = .ok (.invokevirtual 99, 3) := by decide +kernel
theorem dX2_turn_26 : decode cX2_turn 26 = .ok (.ifCond .ne 13, 3) := by decide +kernel
theorem dX2_turn_29 : decode cX2_turn 29 = .ok (.new 40, 3) := by decide +kernel
theorem dX2_turn_32 : decode cX2_turn 32 = .ok (.dup, 1) := by decide +kernel
theorem dX2_turn_33 : decode cX2_turn 33 = .ok (.ldc 103, 2) := by decide +kernel
theorem dX2_turn_35 : decode cX2_turn 35 = .ok (.invokespecial 44, 3) := by decide +kernel
theorem dX2_turn_38 : decode cX2_turn 38 = .ok (.athrow, 1) := by decide +kernel
theorem dX2_turn_39 : decode cX2_turn 39 = .ok (.aload_n 3, 1) := by decide +kernel
theorem dX2_turn_40 : decode cX2_turn 40 = .ok (.getfield 105, 3) := by decide +kernel
theorem dX2_turn_43 : decode cX2_turn 43 = .ok (.aload_n 3, 1) := by decide +kernel
theorem dX2_turn_44 : decode cX2_turn 44 = .ok (.aload_n 0, 1) := by decide +kernel
theorem dX2_turn_45 : decode cX2_turn 45 = .ok (.aload_n 3, 1) := by decide +kernel
theorem dX2_turn_46 : decode cX2_turn 46 = .ok (.getfield 108, 3) := by decide +kernel
theorem dX2_turn_49 : decode cX2_turn 49 = .ok (.iload_n 2, 1) := by decide +kernel
theorem dX2_turn_50 : decode cX2_turn 50 = .ok (.invokevirtual 111, 3) := by decide +kernel
theorem dX2_turn_53 : decode cX2_turn 53 = .ok (.invokevirtual 115, 3) := by decide +kernel
theorem dX2_turn_56 : decode cX2_turn 56 = .ok (.if_icmp .ge 13, 3) := by decide +kernel
theorem dX2_turn_59 : decode cX2_turn 59 = .ok (.new 40, 3) := by decide +kernel
theorem dX2_turn_62 : decode cX2_turn 62 = .ok (.dup, 1) := by decide +kernel
theorem dX2_turn_63 : decode cX2_turn 63 = .ok (.ldc 118, 2) := by decide +kernel
theorem dX2_turn_65 : decode cX2_turn 65 = .ok (.invokespecial 44, 3) := by decide +kernel
theorem dX2_turn_68 : decode cX2_turn 68 = .ok (.athrow, 1) := by decide +kernel
theorem dX2_turn_69 : decode cX2_turn 69 = .ok (.aload_n 3, 1) := by decide +kernel
theorem dX2_turn_70 : decode cX2_turn 70 = .ok (.getfield 108, 3) := by decide +kernel
theorem dX2_turn_73 : decode cX2_turn 73 = .ok (.iload_n 2, 1) := by decide +kernel
theorem dX2_turn_74 : decode cX2_turn 74 = .ok (.invokestatic 120, 3) := by decide +kernel
theorem dX2_turn_77 : decode cX2_turn 77 = .ok (.istore 4, 2) := by decide +kernel
theorem dX2_turn_79 : decode cX2_turn 79 = .ok (.aload_n 3, 1) := by decide +kernel
theorem dX2_turn_80 : decode cX2_turn 80 = .ok (.iload_n 2, 1) := by decide +kernel
theorem dX2_turn_81 : decode cX2_turn 81 = .ok (.putfield 108, 3) := by decide +kernel
theorem dX2_turn_84 : decode cX2_turn 84 = .ok (.aload_n 0, 1) := by decide +kernel
theorem dX2_turn_85 : decode cX2_turn 85 = .ok (.dup, 1) := by decide +kernel
theorem dX2_turn_86 : decode cX2_turn 86 = .ok (.getfield 123, 3) := by decide +kernel
theorem dX2_turn_89 : decode cX2_turn 89 = .ok (.iload 4, 2) := by decide +kernel
theorem dX2_turn_91 : decode cX2_turn 91 = .ok (.iadd, 1) := by decide +kernel
theorem dX2_turn_92 : decode cX2_turn 92 = .ok (.putfield 123, 3) := by decide +kernel
theorem dX2_turn_95 : decode cX2_turn 95 = .ok (.iload 4, 2) := by decide +kernel
theorem dX2_turn_97 : decode cX2_turn 97 = .ok (.ireturn, 1) := by decide +kernel
set_option maxRecDepth 20000 in
theorem ggX2_hoist_X2_requireCrane : GoodIn wsX2_hoist wsX2_requireCrane := goodIn_ca (goodIn_r _ [15, 16, 17, 5, 18, 19, 20, 21, 22, 23, 24, 25, 14, 26, 99, 100, 101, 102, 118, 119, 120] (by decide +kernel) (by decide +kernel)) (goodIn_sub (fun _ h => List.mem_cons_of_mem _ (List.mem_append_right _ h)) (by decide +kernel))
set_option maxRecDepth 20000 in
theorem gX2_hoist_X2_requireCrane : GoodIn wsX2_hoist (wsV RX2 86 RX2 yX2_requireCrane wsX2_requireCrane) := goodIn_app (goodIn_of _ (by decide +kernel)) ggX2_hoist_X2_requireCrane
set_option maxRecDepth 20000 in
theorem ggX2_hoist_X2_isBetween : GoodIn wsX2_hoist wsX2_isBetween := goodIn_r _ [26] (by decide +kernel) (by decide +kernel)
set_option maxRecDepth 20000 in
theorem gX2_hoist_X2_isBetween : GoodIn wsX2_hoist (va_wsS RX2 68 yX2_isBetween wsX2_isBetween) := goodIn_app (goodIn_of _ (by decide +kernel)) ggX2_hoist_X2_isBetween
set_option maxRecDepth 20000 in
theorem ggX2_hoist_Jx4a65c_get_915e3 : GoodIn wsX2_hoist wsJx4a65c_get_915e3 := goodIn_r _ [30, 23, 31, 32, 33, 34, 35, 36, 37, 38, 39, 40, 41, 21, 42, 43, 118, 119, 120] (by decide +kernel) (by decide +kernel)
set_option maxRecDepth 20000 in
theorem gX2_hoist_Jx4a65c_get_915e3 : GoodIn wsX2_hoist (wsV RX2 89 RJx4a65c yJx4a65c_get_915e3 wsJx4a65c_get_915e3) := goodIn_app (goodIn_of _ (by decide +kernel)) ggX2_hoist_Jx4a65c_get_915e3
set_option maxRecDepth 20000 in
theorem ggX2_hoist_X2_heightOf : GoodIn wsX2_hoist wsX2_heightOf := goodIn_r _ [47, 48, 49, 50, 51, 14, 52, 53, 54, 55, 56, 24, 25, 26, 111, 112, 113, 114, 115, 116, 117, 99, 100, 101, 102] (by decide +kernel) (by decide +kernel)
set_option maxRecDepth 20000 in
theorem gX2_hoist_X2_heightOf : GoodIn wsX2_hoist (wsV RX2 36 RX2 yX2_heightOf wsX2_heightOf) := goodIn_app (goodIn_of _ (by decide +kernel)) ggX2_hoist_X2_heightOf
set_option maxRecDepth 20000 in
theorem ggX2_hoist_X1_lowestHook : GoodIn wsX2_hoist wsX1_lowestHook := goodIn_r _ [61, 62, 103, 104, 105, 106, 107, 108, 109, 110] (by decide +kernel) (by decide +kernel)
set_option maxRecDepth 20000 in
theorem gX2_hoist_X1_lowestHook : GoodIn wsX2_hoist (wsV RX2 115 RX1 yX1_lowestHook wsX1_lowestHook) := goodIn_app (goodIn_of _ (by decide +kernel)) ggX2_hoist_X1_lowestHook
set_option maxRecDepth 20000 in
theorem ggX2_hoist_X1_canLift : GoodIn wsX2_hoist wsX1_canLift := goodIn_r _ [66, 67, 68, 69, 60, 70, 71, 72, 103, 104, 105, 106, 107, 108, 109, 110] (by decide +kernel) (by decide +kernel)
set_option maxRecDepth 20000 in
theorem gX2_hoist_X1_canLift : GoodIn wsX2_hoist (wsV RX2 137 RX1 yX1_canLift wsX1_canLift) := goodIn_app (goodIn_of _ (by decide +kernel)) ggX2_hoist_X1_canLift
set_option maxRecDepth 20000 in
theorem ggX2_hoist_X2_lowerHook : GoodIn wsX2_hoist wsX2_lowerHook := goodIn_r _ [76, 9, 8, 10, 77, 78, 79, 80, 81, 60, 82, 71, 83, 84, 85, 86, 87, 88, 14, 89, 90, 91, 92, 93, 94, 103, 104, 105, 106, 107, 108, 109, 110, 111, 112, 113, 114, 115, 116, 117, 99, 100, 101, 102] (by decide +kernel) (by decide +kernel)
set_option maxRecDepth 20000 in
theorem gX2_hoist_X2_lowerHook : GoodIn wsX2_hoist (wsV RX2 142 RX2 yX2_lowerHook wsX2_lowerHook) := goodIn_app (goodIn_of _ (by decide +kernel)) ggX2_hoist_X2_lowerHook
set_option maxRecDepth 20000 in
theorem ggX2_hoist_X2_raiseHook : GoodIn wsX2_hoist wsX2_raiseHook := goodIn_r _ [98, 9, 78, 79, 80, 81, 60, 82, 71, 103, 104, 105, 106, 107, 108, 109, 110, 99, 100, 101, 102] (by decide +kernel) (by decide +kernel)
set_option maxRecDepth 20000 in
theorem gX2_hoist_X2_raiseHook : GoodIn wsX2_hoist (wsV RX2 146 RX2 yX2_raiseHook wsX2_raiseHook) := goodIn_app (goodIn_of _ (by decide +kernel)) ggX2_hoist_X2_raiseHook
theorem dX2_hoist_0 : decode cX2_hoist 0 = .ok (.aload_n 0, 1) := by decide +kernel
theorem dX2_hoist_1 : decode cX2_hoist 1 = .ok (.iload_n 1, 1) := by decide +kernel
theorem dX2_hoist_2 : decode cX2_hoist 2 = .ok (.invokevirtual 86, 3) := by decide +kernel
theorem dX2_hoist_5 : decode cX2_hoist 5 = .ok (.iload_n 2, 1) := by decide +kernel
theorem dX2_hoist_6 : decode cX2_hoist 6 = .ok (.iconst 0, 1) := by decide +kernel
theorem dX2_hoist_7 : decode cX2_hoist 7 = .ok (.bipush 20, 2) := by decide +kernel
theorem dX2_hoist_9 : decode cX2_hoist 9 = .ok (.invokestatic 68, 3) := by decide +kernel
theorem dX2_hoist_12 : decode cX2_hoist 12 = .ok (.ifCond .ne 13, 3) := by decide +kernel
theorem dX2_hoist_15 : decode cX2_hoist 15 = .ok (.new 71, 3) := by decide +kernel
theorem dX2_hoist_18 : decode cX2_hoist 18 = .ok (.dup, 1) := by decide +kernel
theorem dX2_hoist_19 : decode cX2_hoist 19 = .ok (.ldc 126, 2) := by decide +kernel
theorem dX2_hoist_21 : decode cX2_hoist 21 = .ok (.invokespecial 75, 3) := by decide +kernel
theorem dX2_hoist_24 : decode cX2_hoist 24 = .ok (.athrow, 1) := by decide +kernel
theorem dX2_hoist_25 : decode cX2_hoist 25 = .ok (.aload_n 0, 1) := by decide +kernel
theorem dX2_hoist_26 : decode cX2_hoist 26 = .ok (.getfield 22, 3) := by decide +kernel
theorem dX2_hoist_29 : decode cX2_hoist 29 = .ok (.iload_n 1, 1) := by decide +kernel
theorem dX2_hoist_30 : decode cX2_hoist 30 = .ok (.invokevirtual 89, 3) := by decide +kernel
theorem dX2_hoist_33 : decode cX2_hoist 33 = .ok (.checkcast 81, 3) := by decide +kernel
theorem dX2_hoist_36 : decode cX2_hoist 36 = .ok (.astore_n 3, 1) := by decide +kernel
theorem dX2_hoist_37 : decode cX2_hoist 37 = .ok (.iload_n 2, 1) := by decide +kernel
theorem dX2_hoist_38 : decode cX2_hoist 38 = .ok (.aload_n 3, 1) := by decide +kernel
theorem dX2_hoist_39 : decode cX2_hoist 39 = .ok (.aload_n 0, 1) := by decide +kernel
theorem dX2_hoist_40 : decode cX2_hoist 40 = .ok (.aload_n 3, 1) := by decide +kernel
theorem dX2_hoist_41 : decode cX2_hoist 41 = .ok (.getfield 108, 3) := by decide +kernel
theorem dX2_hoist_44 : decode cX2_hoist 44 = .ok (.invokevirtual 36, 3) := by decide +kernel
theorem dX2_hoist_47 : decode cX2_hoist 47 = .ok (.invokevirtual 115, 3) := by decide +kernel
theorem dX2_hoist_50 : decode cX2_hoist 50 = .ok (.if_icmp .ge 13, 3) := by decide +kernel
theorem dX2_hoist_53 : decode cX2_hoist 53 = .ok (.new 40, 3) := by decide +kernel
theorem dX2_hoist_56 : decode cX2_hoist 56 = .ok (.dup, 1) := by decide +kernel
theorem dX2_hoist_57 : decode cX2_hoist 57 = .ok (.ldc 128, 2) := by decide +kernel
theorem dX2_hoist_59 : decode cX2_hoist 59 = .ok (.invokespecial 44, 3) := by decide +kernel
theorem dX2_hoist_62 : decode cX2_hoist 62 = .ok (.athrow, 1) := by decide +kernel
theorem dX2_hoist_63 : decode cX2_hoist 63 = .ok (.aload_n 3, 1) := by decide +kernel
theorem dX2_hoist_64 : decode cX2_hoist 64 = .ok (.getfield 130, 3) := by decide +kernel
theorem dX2_hoist_67 : decode cX2_hoist 67 = .ok (.astore 4, 2) := by decide +kernel
theorem dX2_hoist_69 : decode cX2_hoist 69 = .ok (.iload_n 2, 1) := by decide +kernel
theorem dX2_hoist_70 : decode cX2_hoist 70 = .ok (.aload_n 3, 1) := by decide +kernel
theorem dX2_hoist_71 : decode cX2_hoist 71 = .ok (.getfield 105, 3) := by decide +kernel
theorem dX2_hoist_74 : decode cX2_hoist 74 = .ok (.if_icmp .le 30, 3) := by decide +kernel
theorem dX2_hoist_77 : decode cX2_hoist 77 = .ok (.aload 4, 2) := by decide +kernel
theorem dX2_hoist_79 : decode cX2_hoist 79 = .ok (.ifnull 25, 3) := by decide +kernel
theorem dX2_hoist_82 : decode cX2_hoist 82 = .ok (.aload_n 3, 1) := by decide +kernel
theorem dX2_hoist_83 : decode cX2_hoist 83 = .ok (.aload 4, 2) := by decide +kernel
theorem dX2_hoist_85 : decode cX2_hoist 85 = .ok (.getfield 134, 3) := by decide +kernel
theorem dX2_hoist_88 : decode cX2_hoist 88 = .ok (.invokevirtual 137, 3) := by decide +kernel
theorem dX2_hoist_91 : decode cX2_hoist 91 = .ok (.ifCond .ne 13, 3) := by decide +kernel
theorem dX2_hoist_94 : decode cX2_hoist 94 = .ok (.new 40, 3) := by decide +kernel
theorem dX2_hoist_97 : decode cX2_hoist 97 = .ok (.dup, 1) := by decide +kernel
theorem dX2_hoist_98 : decode cX2_hoist 98 = .ok (.ldc 140, 2) := by decide +kernel
theorem dX2_hoist_100 : decode cX2_hoist 100 = .ok (.invokespecial 44, 3) := by decide +kernel
theorem dX2_hoist_103 : decode cX2_hoist 103 = .ok (.athrow, 1) := by decide +kernel
theorem dX2_hoist_104 : decode cX2_hoist 104 = .ok (.iload_n 2, 1) := by decide +kernel
theorem dX2_hoist_105 : decode cX2_hoist 105 = .ok (.aload_n 3, 1) := by decide +kernel
theorem dX2_hoist_106 : decode cX2_hoist 106 = .ok (.getfield 105, 3) := by decide +kernel
theorem dX2_hoist_109 : decode cX2_hoist 109 = .ok (.if_icmp .ge 12, 3) := by decide +kernel
theorem dX2_hoist_112 : decode cX2_hoist 112 = .ok (.aload_n 0, 1) := by decide +kernel
theorem dX2_hoist_113 : decode cX2_hoist 113 = .ok (.aload_n 3, 1) := by decide +kernel
theorem dX2_hoist_114 : decode cX2_hoist 114 = .ok (.iload_n 2, 1) := by decide +kernel
theorem dX2_hoist_115 : decode cX2_hoist 115 = .ok (.invokevirtual 142, 3) := by decide +kernel
theorem dX2_hoist_118 : decode cX2_hoist 118 = .ok (.goto 9, 3) := by decide +kernel
theorem dX2_hoist_121 : decode cX2_hoist 121 = .ok (.aload_n 0, 1) := by decide +kernel
theorem dX2_hoist_122 : decode cX2_hoist 122 = .ok (.aload_n 3, 1) := by decide +kernel
theorem dX2_hoist_123 : decode cX2_hoist 123 = .ok (.iload_n 2, 1) := by decide +kernel
theorem dX2_hoist_124 : decode cX2_hoist 124 = .ok (.invokevirtual 146, 3) := by decide +kernel
theorem dX2_hoist_127 : decode cX2_hoist 127 = .ok (.ireturn, 1) := by decide +kernel
set_option maxRecDepth 20000 in
theorem ggX2_take_X2_requireCrane : GoodIn wsX2_take wsX2_requireCrane := goodIn_ca (goodIn_r _ [14, 15, 16, 3, 17, 18, 19, 20, 21, 22, 23, 24, 13, 25, 62, 63, 64, 65, 81, 82, 83] (by decide +kernel) (by decide +kernel)) (goodIn_sub (fun _ h => List.mem_cons_of_mem _ (List.mem_append_right _ h)) (by decide +kernel))
set_option maxRecDepth 20000 in
theorem gX2_take_X2_requireCrane : GoodIn wsX2_take (wsV RX2 86 RX2 yX2_requireCrane wsX2_requireCrane) := goodIn_app (goodIn_of _ (by decide +kernel)) ggX2_take_X2_requireCrane
set_option maxRecDepth 20000 in
theorem ggX2_take_Jx4a65c_get_915e3 : GoodIn wsX2_take wsJx4a65c_get_915e3 := goodIn_r _ [29, 22, 30, 31, 32, 33, 34, 35, 36, 37, 38, 39, 40, 20, 41, 42, 81, 82, 83] (by decide +kernel) (by decide +kernel)
set_option maxRecDepth 20000 in
theorem gX2_take_Jx4a65c_get_915e3 : GoodIn wsX2_take (wsV RX2 89 RJx4a65c yJx4a65c_get_915e3 wsJx4a65c_get_915e3) := goodIn_app (goodIn_of _ (by decide +kernel)) ggX2_take_Jx4a65c_get_915e3
set_option maxRecDepth 20000 in
theorem ggX2_take_X2_uppermostAt : GoodIn wsX2_take wsX2_uppermostAt := goodIn_r _ [46, 47, 48, 49, 13, 50, 23, 24, 25, 62, 63, 64, 65] (by decide +kernel) (by decide +kernel)
set_option maxRecDepth 20000 in
theorem gX2_take_X2_uppermostAt : GoodIn wsX2_take (wsV RX2 149 RX2 yX2_uppermostAt wsX2_uppermostAt) := goodIn_app (goodIn_of _ (by decide +kernel)) ggX2_take_X2_uppermostAt
set_option maxRecDepth 20000 in
theorem ggX2_take_X2_heightOf : GoodIn wsX2_take wsX2_heightOf := goodIn_r _ [54, 55, 43, 44, 45, 13, 46, 47, 48, 49, 50, 23, 24, 25, 74, 75, 76, 77, 78, 79, 80, 62, 63, 64, 65] (by decide +kernel) (by decide +kernel)
set_option maxRecDepth 20000 in
theorem gX2_take_X2_heightOf : GoodIn wsX2_take (wsV RX2 36 RX2 yX2_heightOf wsX2_heightOf) := goodIn_app (goodIn_of _ (by decide +kernel)) ggX2_take_X2_heightOf
set_option maxRecDepth 20000 in
theorem ggX2_take_X2_removeUppermost : GoodIn wsX2_take wsX2_removeUppermost := goodIn_r _ [59, 47, 60, 61, 43, 44, 45, 13, 46, 48, 49, 50, 23, 24, 25, 62, 63, 64, 65, 74, 75, 76, 77, 78, 79, 80] (by decide +kernel) (by decide +kernel)
set_option maxRecDepth 20000 in
theorem gX2_take_X2_removeUppermost : GoodIn wsX2_take (wsV RX2 155 RX2 yX2_removeUppermost wsX2_removeUppermost) := goodIn_app (goodIn_of _ (by decide +kernel)) ggX2_take_X2_removeUppermost
theorem dX2_take_0 : decode cX2_take 0 = .ok (.aload_n 0, 1) := by decide +kernel
theorem dX2_take_1 : decode cX2_take 1 = .ok (.iload_n 1, 1) := by decide +kernel
theorem dX2_take_2 : decode cX2_take 2 = .ok (.invokevirtual 86, 3) := by decide +kernel
theorem dX2_take_5 : decode cX2_take 5 = .ok (.aload_n 0, 1) := by decide +kernel
theorem dX2_take_6 : decode cX2_take 6 = .ok (.getfield 22, 3) := by decide +kernel
theorem dX2_take_9 : decode cX2_take 9 = .ok (.iload_n 1, 1) := by decide +kernel
theorem dX2_take_10 : decode cX2_take 10 = .ok (.invokevirtual 89, 3) := by decide +kernel
theorem dX2_take_13 : decode cX2_take 13 = .ok (.checkcast 81, 3) := by decide +kernel
theorem dX2_take_16 : decode cX2_take 16 = .ok (.astore_n 2, 1) := by decide +kernel
theorem dX2_take_17 : decode cX2_take 17 = .ok (.aload_n 0, 1) := by decide +kernel
theorem dX2_take_18 : decode cX2_take 18 = .ok (.aload_n 2, 1) := by decide +kernel
theorem dX2_take_19 : decode cX2_take 19 = .ok (.getfield 108, 3) := by decide +kernel
theorem dX2_take_22 : decode cX2_take 22 = .ok (.invokevirtual 149, 3) := by decide +kernel
theorem dX2_take_25 : decode cX2_take 25 = .ok (.astore_n 3, 1) := by decide +kernel
theorem dX2_take_26 : decode cX2_take 26 = .ok (.aload_n 2, 1) := by decide +kernel
theorem dX2_take_27 : decode cX2_take 27 = .ok (.getfield 130, 3) := by decide +kernel
theorem dX2_take_30 : decode cX2_take 30 = .ok (.ifnonnull 22, 3) := by decide +kernel
theorem dX2_take_33 : decode cX2_take 33 = .ok (.aload_n 3, 1) := by decide +kernel
theorem dX2_take_34 : decode cX2_take 34 = .ok (.ifnull 18, 3) := by decide +kernel
theorem dX2_take_37 : decode cX2_take 37 = .ok (.aload_n 2, 1) := by decide +kernel
theorem dX2_take_38 : decode cX2_take 38 = .ok (.getfield 105, 3) := by decide +kernel
theorem dX2_take_41 : decode cX2_take 41 = .ok (.aload_n 0, 1) := by decide +kernel
theorem dX2_take_42 : decode cX2_take 42 = .ok (.aload_n 2, 1) := by decide +kernel
theorem dX2_take_43 : decode cX2_take 43 = .ok (.getfield 108, 3) := by decide +kernel
theorem dX2_take_46 : decode cX2_take 46 = .ok (.invokevirtual 36, 3) := by decide +kernel
theorem dX2_take_49 : decode cX2_take 49 = .ok (.if_icmp .eq 13, 3) := by decide +kernel
theorem dX2_take_52 : decode cX2_take 52 = .ok (.new 40, 3) := by decide +kernel
theorem dX2_take_55 : decode cX2_take 55 = .ok (.dup, 1) := by decide +kernel
theorem dX2_take_56 : decode cX2_take 56 = .ok (.ldc 153, 2) := by decide +kernel
theorem dX2_take_58 : decode cX2_take 58 = .ok (.invokespecial 44, 3) := by decide +kernel
theorem dX2_take_61 : decode cX2_take 61 = .ok (.athrow, 1) := by decide +kernel
theorem dX2_take_62 : decode cX2_take 62 = .ok (.aload_n 0, 1) := by decide +kernel
theorem dX2_take_63 : decode cX2_take 63 = .ok (.aload_n 2, 1) := by decide +kernel
theorem dX2_take_64 : decode cX2_take 64 = .ok (.getfield 108, 3) := by decide +kernel
theorem dX2_take_67 : decode cX2_take 67 = .ok (.invokevirtual 155, 3) := by decide +kernel
theorem dX2_take_70 : decode cX2_take 70 = .ok (.aload_n 3, 1) := by decide +kernel
theorem dX2_take_71 : decode cX2_take 71 = .ok (.iload_n 1, 1) := by decide +kernel
theorem dX2_take_72 : decode cX2_take 72 = .ok (.putfield 158, 3) := by decide +kernel
theorem dX2_take_75 : decode cX2_take 75 = .ok (.aload_n 2, 1) := by decide +kernel
theorem dX2_take_76 : decode cX2_take 76 = .ok (.aload_n 3, 1) := by decide +kernel
theorem dX2_take_77 : decode cX2_take 77 = .ok (.putfield 130, 3) := by decide +kernel
theorem dX2_take_80 : decode cX2_take 80 = .ok (.aload_n 3, 1) := by decide +kernel
theorem dX2_take_81 : decode cX2_take 81 = .ok (.getfield 64, 3) := by decide +kernel
theorem dX2_take_84 : decode cX2_take 84 = .ok (.ireturn, 1) := by decide +kernel
set_option maxRecDepth 20000 in
theorem ggX2_lay_X2_requireCrane : GoodIn wsX2_lay wsX2_requireCrane := goodIn_ca (goodIn_r _ [13, 14, 15, 3, 16, 17, 18, 19, 20, 21, 22, 23, 12, 24, 71, 72, 73, 74, 90, 91, 92] (by decide +kernel) (by decide +kernel)) (goodIn_sub (fun _ h => List.mem_cons_of_mem _ (List.mem_append_right _ h)) (by decide +kernel))
set_option maxRecDepth 20000 in
theorem gX2_lay_X2_requireCrane : GoodIn wsX2_lay (wsV RX2 86 RX2 yX2_requireCrane wsX2_requireCrane) := goodIn_app (goodIn_of _ (by decide +kernel)) ggX2_lay_X2_requireCrane
set_option maxRecDepth 20000 in
theorem ggX2_lay_Jx4a65c_get_915e3 : GoodIn wsX2_lay wsJx4a65c_get_915e3 := goodIn_r _ [28, 21, 29, 30, 31, 32, 33, 34, 35, 36, 37, 38, 39, 19, 40, 41, 90, 91, 92] (by decide +kernel) (by decide +kernel)
set_option maxRecDepth 20000 in
theorem gX2_lay_Jx4a65c_get_915e3 : GoodIn wsX2_lay (wsV RX2 89 RJx4a65c yJx4a65c_get_915e3 wsJx4a65c_get_915e3) := goodIn_app (goodIn_of _ (by decide +kernel)) ggX2_lay_Jx4a65c_get_915e3
set_option maxRecDepth 20000 in
theorem ggX2_lay_X2_heightOf : GoodIn wsX2_lay wsX2_heightOf := goodIn_r _ [45, 46, 47, 48, 49, 12, 50, 51, 52, 53, 54, 22, 23, 24, 83, 84, 85, 86, 87, 88, 89, 71, 72, 73, 74] (by decide +kernel) (by decide +kernel)
set_option maxRecDepth 20000 in
theorem gX2_lay_X2_heightOf : GoodIn wsX2_lay (wsV RX2 36 RX2 yX2_heightOf wsX2_heightOf) := goodIn_app (goodIn_of _ (by decide +kernel)) ggX2_lay_X2_heightOf
set_option maxRecDepth 20000 in
theorem ggX2_lay_X2_hooksAllow : GoodIn wsX2_lay wsX2_hooksAllow := goodIn_r _ [58, 3, 4, 6, 7, 16, 17, 18, 19, 20, 21, 25, 26, 27, 28, 29, 30, 31, 32, 33, 34, 35, 36, 37, 38, 39, 40, 41, 59, 60, 61, 62, 63, 64, 71, 72, 73, 74, 75, 76, 77, 78, 79, 80, 81, 82, 90, 91, 92] (by decide +kernel) (by decide +kernel)
set_option maxRecDepth 20000 in
theorem gX2_lay_X2_hooksAllow : GoodIn wsX2_lay (wsV RX2 47 RX2 yX2_hooksAllow wsX2_hooksAllow) := goodIn_app (goodIn_of _ (by decide +kernel)) ggX2_lay_X2_hooksAllow
set_option maxRecDepth 20000 in
theorem ggX2_lay_X2_putUpon : GoodIn wsX2_lay wsX2_putUpon := goodIn_r _ [68, 69, 46, 51, 70, 52, 53, 12, 54, 22, 23, 24, 42, 43, 44, 45, 47, 48, 49, 50, 83, 84, 85, 86, 87, 88, 89, 71, 72, 73, 74] (by decide +kernel) (by decide +kernel)
set_option maxRecDepth 20000 in
theorem gX2_lay_X2_putUpon : GoodIn wsX2_lay (wsV RX2 60 RX2 yX2_putUpon wsX2_putUpon) := goodIn_app (goodIn_of _ (by decide +kernel)) ggX2_lay_X2_putUpon
theorem dX2_lay_0 : decode cX2_lay 0 = .ok (.aload_n 0, 1) := by decide +kernel
theorem dX2_lay_1 : decode cX2_lay 1 = .ok (.iload_n 1, 1) := by decide +kernel
theorem dX2_lay_2 : decode cX2_lay 2 = .ok (.invokevirtual 86, 3) := by decide +kernel
theorem dX2_lay_5 : decode cX2_lay 5 = .ok (.aload_n 0, 1) := by decide +kernel
theorem dX2_lay_6 : decode cX2_lay 6 = .ok (.getfield 22, 3) := by decide +kernel
theorem dX2_lay_9 : decode cX2_lay 9 = .ok (.iload_n 1, 1) := by decide +kernel
theorem dX2_lay_10 : decode cX2_lay 10 = .ok (.invokevirtual 89, 3) := by decide +kernel
theorem dX2_lay_13 : decode cX2_lay 13 = .ok (.checkcast 81, 3) := by decide +kernel
theorem dX2_lay_16 : decode cX2_lay 16 = .ok (.astore_n 2, 1) := by decide +kernel
theorem dX2_lay_17 : decode cX2_lay 17 = .ok (.aload_n 2, 1) := by decide +kernel
theorem dX2_lay_18 : decode cX2_lay 18 = .ok (.getfield 130, 3) := by decide +kernel
theorem dX2_lay_21 : decode cX2_lay 21 = .ok (.astore_n 3, 1) := by decide +kernel
theorem dX2_lay_22 : decode cX2_lay 22 = .ok (.aload_n 0, 1) := by decide +kernel
theorem dX2_lay_23 : decode cX2_lay 23 = .ok (.aload_n 2, 1) := by decide +kernel
theorem dX2_lay_24 : decode cX2_lay 24 = .ok (.getfield 108, 3) := by decide +kernel
theorem dX2_lay_27 : decode cX2_lay 27 = .ok (.invokevirtual 36, 3) := by decide +kernel
theorem dX2_lay_30 : decode cX2_lay 30 = .ok (.iconst 1, 1) := by decide +kernel
theorem dX2_lay_31 : decode cX2_lay 31 = .ok (.iadd, 1) := by decide +kernel
theorem dX2_lay_32 : decode cX2_lay 32 = .ok (.istore 4, 2) := by decide +kernel
theorem dX2_lay_34 : decode cX2_lay 34 = .ok (.aload_n 3, 1) := by decide +kernel
theorem dX2_lay_35 : decode cX2_lay 35 = .ok (.ifnull 19, 3) := by decide +kernel
theorem dX2_lay_38 : decode cX2_lay 38 = .ok (.aload_n 2, 1) := by decide +kernel
theorem dX2_lay_39 : decode cX2_lay 39 = .ok (.getfield 105, 3) := by decide +kernel
theorem dX2_lay_42 : decode cX2_lay 42 = .ok (.iload 4, 2) := by decide +kernel
theorem dX2_lay_44 : decode cX2_lay 44 = .ok (.if_icmp .ne 10, 3) := by decide +kernel
theorem dX2_lay_47 : decode cX2_lay 47 = .ok (.iload 4, 2) := by decide +kernel
theorem dX2_lay_49 : decode cX2_lay 49 = .ok (.bipush 8, 2) := by decide +kernel
theorem dX2_lay_51 : decode cX2_lay 51 = .ok (.if_icmp .le 13, 3) := by decide +kernel
theorem dX2_lay_54 : decode cX2_lay 54 = .ok (.new 40, 3) := by decide +kernel
theorem dX2_lay_57 : decode cX2_lay 57 = .ok (.dup, 1) := by decide +kernel
theorem dX2_lay_58 : decode cX2_lay 58 = .ok (.ldc 161, 2) := by decide +kernel
theorem dX2_lay_60 : decode cX2_lay 60 = .ok (.invokespecial 44, 3) := by decide +kernel
theorem dX2_lay_63 : decode cX2_lay 63 = .ok (.athrow, 1) := by decide +kernel
theorem dX2_lay_64 : decode cX2_lay 64 = .ok (.aload_n 0, 1) := by decide +kernel
theorem dX2_lay_65 : decode cX2_lay 65 = .ok (.aload_n 2, 1) := by decide +kernel
theorem dX2_lay_66 : decode cX2_lay 66 = .ok (.getfield 108, 3) := by decide +kernel
theorem dX2_lay_69 : decode cX2_lay 69 = .ok (.iload 4, 2) := by decide +kernel
theorem dX2_lay_71 : decode cX2_lay 71 = .ok (.iload_n 1, 1) := by decide +kernel
theorem dX2_lay_72 : decode cX2_lay 72 = .ok (.invokevirtual 47, 3) := by decide +kernel
theorem dX2_lay_75 : decode cX2_lay 75 = .ok (.ifCond .ne 13, 3) := by decide +kernel
theorem dX2_lay_78 : decode cX2_lay 78 = .ok (.new 40, 3) := by decide +kernel
theorem dX2_lay_81 : decode cX2_lay 81 = .ok (.dup, 1) := by decide +kernel
theorem dX2_lay_82 : decode cX2_lay 82 = .ok (.ldc 163, 2) := by decide +kernel
theorem dX2_lay_84 : decode cX2_lay 84 = .ok (.invokespecial 44, 3) := by decide +kernel
theorem dX2_lay_87 : decode cX2_lay 87 = .ok (.athrow, 1) := by decide +kernel
theorem dX2_lay_88 : decode cX2_lay 88 = .ok (.aload_n 2, 1) := by decide +kernel
theorem dX2_lay_89 : decode cX2_lay 89 = .ok (.aconst_null, 1) := by decide +kernel
theorem dX2_lay_90 : decode cX2_lay 90 = .ok (.putfield 130, 3) := by decide +kernel
theorem dX2_lay_93 : decode cX2_lay 93 = .ok (.aload_n 3, 1) := by decide +kernel
theorem dX2_lay_94 : decode cX2_lay 94 = .ok (.iconst (-1), 1) := by decide +kernel
theorem dX2_lay_95 : decode cX2_lay 95 = .ok (.putfield 158, 3) := by decide +kernel
theorem dX2_lay_98 : decode cX2_lay 98 = .ok (.aload_n 0, 1) := by decide +kernel
theorem dX2_lay_99 : decode cX2_lay 99 = .ok (.aload_n 2, 1) := by decide +kernel
theorem dX2_lay_100 : decode cX2_lay 100 = .ok (.getfield 108, 3) := by decide +kernel
theorem dX2_lay_103 : decode cX2_lay 103 = .ok (.aload_n 3, 1) := by decide +kernel
theorem dX2_lay_104 : decode cX2_lay 104 = .ok (.invokevirtual 60, 3) := by decide +kernel
theorem dX2_lay_107 : decode cX2_lay 107 = .ok (.iload 4, 2) := by decide +kernel
theorem dX2_lay_109 : decode cX2_lay 109 = .ok (.ireturn, 1) := by decide +kernel
set_option maxRecDepth 20000 in
theorem ggX2_place_X2_requirePlace : GoodIn wsX2_place wsX2_requirePlace := goodIn_ca (goodIn_r _ [4, 5, 6, 7, 8, 3, 9, 10, 11, 12] (by decide +kernel) (by decide +kernel)) (goodIn_sub (fun _ h => List.mem_cons_of_mem _ (List.mem_append_right _ h)) (by decide +kernel))
set_option maxRecDepth 20000 in
theorem gX2_place_X2_requirePlace : GoodIn wsX2_place (va_wsS RX2 25 yX2_requirePlace wsX2_requirePlace) := goodIn_app (goodIn_of _ (by decide +kernel)) ggX2_place_X2_requirePlace
set_option maxRecDepth 20000 in
theorem ggX2_place_X2_requireAnswer : GoodIn wsX2_place wsX2_requireAnswer := goodIn_ca (goodIn_r _ [15, 5, 6, 10, 11, 3, 12] (by decide +kernel) (by decide +kernel)) (goodIn_sub (fun _ h => List.mem_cons_of_mem _ (List.mem_append_right _ h)) (by decide +kernel))
set_option maxRecDepth 20000 in
theorem gX2_place_X2_requireAnswer : GoodIn wsX2_place (va_wsS RX2 165 yX2_requireAnswer wsX2_requireAnswer) := goodIn_app (goodIn_of _ (by decide +kernel)) ggX2_place_X2_requireAnswer
set_option maxRecDepth 20000 in
theorem ggX2_place_X2_placeAnswer : GoodIn wsX2_place wsX2_placeAnswer := goodIn_r _ [19, 20, 21, 22, 3, 23, 24, 25, 26, 27, 28, 29, 7, 8, 9, 10, 11, 12, 30, 31, 32, 33, 34, 35, 36, 37, 38, 39, 40, 41, 42, 43, 44, 45, 46, 47, 48, 49, 50, 51, 52, 53, 54, 55, 56, 57, 58, 59, 60, 61, 62, 63, 64, 65, 66, 67, 68, 69, 70, 71, 72, 73, 74, 75, 76, 77, 78, 79, 80, 81, 82, 83, 84, 85, 86, 87, 88, 89, 90, 91] (by decide +kernel) (by decide +kernel)
set_option maxRecDepth 20000 in
theorem gX2_place_X2_placeAnswer : GoodIn wsX2_place (wsV RX2 168 RX2 yX2_placeAnswer wsX2_placeAnswer) := goodIn_app (goodIn_of _ (by decide +kernel)) ggX2_place_X2_placeAnswer
theorem dX2_place_0 : decode cX2_place 0 = .ok (.iload_n 1, 1) := by decide +kernel
theorem dX2_place_1 : decode cX2_place 1 = .ok (.invokestatic 25, 3) := by decide +kernel
theorem dX2_place_4 : decode cX2_place 4 = .ok (.iload_n 2, 1) := by decide +kernel
theorem dX2_place_5 : decode cX2_place 5 = .ok (.iconst 4, 1) := by decide +kernel
theorem dX2_place_6 : decode cX2_place 6 = .ok (.invokestatic 165, 3) := by decide +kernel
theorem dX2_place_9 : decode cX2_place 9 = .ok (.aload_n 0, 1) := by decide +kernel
theorem dX2_place_10 : decode cX2_place 10 = .ok (.iload_n 1, 1) := by decide +kernel
theorem dX2_place_11 : decode cX2_place 11 = .ok (.iload_n 2, 1) := by decide +kernel
theorem dX2_place_12 : decode cX2_place 12 = .ok (.invokevirtual 168, 3) := by decide +kernel
theorem dX2_place_15 : decode cX2_place 15 = .ok (.ireturn, 1) := by decide +kernel
set_option maxRecDepth 20000 in
theorem ggX2_barrel_Jx4a65c_size_8abf5 : GoodIn wsX2_barrel wsJx4a65c_size_8abf5 := goodIn_r _ [9, 10, 60, 61, 62] (by decide +kernel) (by decide +kernel)
set_option maxRecDepth 20000 in
theorem gX2_barrel_Jx4a65c_size_8abf5 : GoodIn wsX2_barrel (wsV RX2 32 RJx4a65c yJx4a65c_size_8abf5 wsJx4a65c_size_8abf5) := goodIn_app (goodIn_of _ (by decide +kernel)) ggX2_barrel_Jx4a65c_size_8abf5
set_option maxRecDepth 20000 in
theorem ggX2_barrel_X2_isBetween : GoodIn wsX2_barrel wsX2_isBetween := goodIn_r _ [14] (by decide +kernel) (by decide +kernel)
set_option maxRecDepth 20000 in
theorem gX2_barrel_X2_isBetween : GoodIn wsX2_barrel (va_wsS RX2 68 yX2_isBetween wsX2_isBetween) := goodIn_app (goodIn_of _ (by decide +kernel)) ggX2_barrel_X2_isBetween
set_option maxRecDepth 20000 in
theorem ggX2_barrel_X2_requireAnswer : GoodIn wsX2_barrel wsX2_requireAnswer := goodIn_ca (goodIn_r _ [17, 1, 2, 11, 12, 13, 14] (by decide +kernel) (by decide +kernel)) (goodIn_sub (fun _ h => List.mem_cons_of_mem _ (List.mem_append_right _ h)) (by decide +kernel))
set_option maxRecDepth 20000 in
theorem gX2_barrel_X2_requireAnswer : GoodIn wsX2_barrel (va_wsS RX2 165 yX2_requireAnswer wsX2_requireAnswer) := goodIn_app (goodIn_of _ (by decide +kernel)) ggX2_barrel_X2_requireAnswer
set_option maxRecDepth 20000 in
theorem ggX2_barrel_Jx4a65c_get_915e3 : GoodIn wsX2_barrel wsJx4a65c_get_915e3 := goodIn_r _ [21, 10, 22, 23, 24, 25, 26, 27, 28, 29, 30, 31, 32, 8, 33, 34, 60, 61, 62] (by decide +kernel) (by decide +kernel)
set_option maxRecDepth 20000 in
theorem gX2_barrel_Jx4a65c_get_915e3 : GoodIn wsX2_barrel (wsV RX2 89 RJx4a65c yJx4a65c_get_915e3 wsJx4a65c_get_915e3) := goodIn_app (goodIn_of _ (by decide +kernel)) ggX2_barrel_Jx4a65c_get_915e3
set_option maxRecDepth 20000 in
theorem ggX2_barrel_X2_barrelAnswer : GoodIn wsX2_barrel wsX2_barrelAnswer := goodIn_r _ [38, 39, 40, 41, 42, 43, 44, 45, 46, 13, 47, 48, 49, 50, 51, 52, 53, 54, 55, 11, 12, 14, 63, 64, 65, 66, 67, 68, 69, 56, 57, 58, 59] (by decide +kernel) (by decide +kernel)
set_option maxRecDepth 20000 in
theorem gX2_barrel_X2_barrelAnswer : GoodIn wsX2_barrel (wsV RX2 176 RX2 yX2_barrelAnswer wsX2_barrelAnswer) := goodIn_app (goodIn_of _ (by decide +kernel)) ggX2_barrel_X2_barrelAnswer
theorem dX2_barrel_0 : decode cX2_barrel 0 = .ok (.iload_n 1, 1) := by decide +kernel
theorem dX2_barrel_1 : decode cX2_barrel 1 = .ok (.iconst 0, 1) := by decide +kernel
theorem dX2_barrel_2 : decode cX2_barrel 2 = .ok (.aload_n 0, 1) := by decide +kernel
theorem dX2_barrel_3 : decode cX2_barrel 3 = .ok (.getfield 18, 3) := by decide +kernel
theorem dX2_barrel_6 : decode cX2_barrel 6 = .ok (.invokevirtual 32, 3) := by decide +kernel
theorem dX2_barrel_9 : decode cX2_barrel 9 = .ok (.iconst 1, 1) := by decide +kernel
theorem dX2_barrel_10 : decode cX2_barrel 10 = .ok (.isub, 1) := by decide +kernel
theorem dX2_barrel_11 : decode cX2_barrel 11 = .ok (.invokestatic 68, 3) := by decide +kernel
theorem dX2_barrel_14 : decode cX2_barrel 14 = .ok (.ifCond .ne 13, 3) := by decide +kernel
theorem dX2_barrel_17 : decode cX2_barrel 17 = .ok (.new 171, 3) := by decide +kernel
theorem dX2_barrel_20 : decode cX2_barrel 20 = .ok (.dup, 1) := by decide +kernel
theorem dX2_barrel_21 : decode cX2_barrel 21 = .ok (.ldc 173, 2) := by decide +kernel
theorem dX2_barrel_23 : decode cX2_barrel 23 = .ok (.invokespecial 175, 3) := by decide +kernel
theorem dX2_barrel_26 : decode cX2_barrel 26 = .ok (.athrow, 1) := by decide +kernel
theorem dX2_barrel_27 : decode cX2_barrel 27 = .ok (.iload_n 2, 1) := by decide +kernel
theorem dX2_barrel_28 : decode cX2_barrel 28 = .ok (.iconst 5, 1) := by decide +kernel
theorem dX2_barrel_29 : decode cX2_barrel 29 = .ok (.invokestatic 165, 3) := by decide +kernel
theorem dX2_barrel_32 : decode cX2_barrel 32 = .ok (.aload_n 0, 1) := by decide +kernel
theorem dX2_barrel_33 : decode cX2_barrel 33 = .ok (.aload_n 0, 1) := by decide +kernel
theorem dX2_barrel_34 : decode cX2_barrel 34 = .ok (.getfield 18, 3) := by decide +kernel
theorem dX2_barrel_37 : decode cX2_barrel 37 = .ok (.iload_n 1, 1) := by decide +kernel
theorem dX2_barrel_38 : decode cX2_barrel 38 = .ok (.invokevirtual 89, 3) := by decide +kernel
theorem dX2_barrel_41 : decode cX2_barrel 41 = .ok (.checkcast 9, 3) := by decide +kernel
theorem dX2_barrel_44 : decode cX2_barrel 44 = .ok (.iload_n 2, 1) := by decide +kernel
theorem dX2_barrel_45 : decode cX2_barrel 45 = .ok (.invokevirtual 176, 3) := by decide +kernel
theorem dX2_barrel_48 : decode cX2_barrel 48 = .ok (.ireturn, 1) := by decide +kernel
set_option maxRecDepth 20000 in
theorem ggX2_crane_X2_requireCrane : GoodIn wsX2_crane wsX2_requireCrane := goodIn_ca (goodIn_r _ [7, 8, 9, 1, 10, 11, 12, 13, 14, 15, 16, 17, 6, 18, 61, 62, 63, 64, 65, 66, 67] (by decide +kernel) (by decide +kernel)) (goodIn_sub (fun _ h => List.mem_cons_of_mem _ (List.mem_append_right _ h)) (by decide +kernel))
set_option maxRecDepth 20000 in
theorem gX2_crane_X2_requireCrane : GoodIn wsX2_crane (wsV RX2 86 RX2 yX2_requireCrane wsX2_requireCrane) := goodIn_app (goodIn_of _ (by decide +kernel)) ggX2_crane_X2_requireCrane
set_option maxRecDepth 20000 in
theorem ggX2_crane_X2_requireAnswer : GoodIn wsX2_crane wsX2_requireAnswer := goodIn_ca (goodIn_r _ [21, 8, 9, 16, 17, 6, 18] (by decide +kernel) (by decide +kernel)) (goodIn_sub (fun _ h => List.mem_cons_of_mem _ (List.mem_append_right _ h)) (by decide +kernel))
set_option maxRecDepth 20000 in
theorem gX2_crane_X2_requireAnswer : GoodIn wsX2_crane (va_wsS RX2 165 yX2_requireAnswer wsX2_requireAnswer) := goodIn_app (goodIn_of _ (by decide +kernel)) ggX2_crane_X2_requireAnswer
set_option maxRecDepth 20000 in
theorem ggX2_crane_Jx4a65c_get_915e3 : GoodIn wsX2_crane wsJx4a65c_get_915e3 := goodIn_r _ [25, 15, 26, 27, 28, 29, 30, 31, 32, 33, 34, 35, 36, 13, 37, 38, 65, 66, 67] (by decide +kernel) (by decide +kernel)
set_option maxRecDepth 20000 in
theorem gX2_crane_Jx4a65c_get_915e3 : GoodIn wsX2_crane (wsV RX2 89 RJx4a65c yJx4a65c_get_915e3 wsJx4a65c_get_915e3) := goodIn_app (goodIn_of _ (by decide +kernel)) ggX2_crane_Jx4a65c_get_915e3
set_option maxRecDepth 20000 in
theorem ggX2_crane_X2_craneAnswer : GoodIn wsX2_crane wsX2_craneAnswer := goodIn_r _ [41, 42, 43, 44, 45, 46, 47, 48, 49, 50, 51, 6, 52, 53, 54, 55, 56, 57, 58, 59, 60, 68, 69, 70, 71, 72, 73, 74, 75, 76, 77, 78, 79, 80, 81, 82] (by decide +kernel) (by decide +kernel)
set_option maxRecDepth 20000 in
theorem gX2_crane_X2_craneAnswer : GoodIn wsX2_crane (va_wsS RX2 180 yX2_craneAnswer wsX2_craneAnswer) := goodIn_app (goodIn_of _ (by decide +kernel)) ggX2_crane_X2_craneAnswer
theorem dX2_crane_0 : decode cX2_crane 0 = .ok (.aload_n 0, 1) := by decide +kernel
theorem dX2_crane_1 : decode cX2_crane 1 = .ok (.iload_n 1, 1) := by decide +kernel
theorem dX2_crane_2 : decode cX2_crane 2 = .ok (.invokevirtual 86, 3) := by decide +kernel
theorem dX2_crane_5 : decode cX2_crane 5 = .ok (.iload_n 2, 1) := by decide +kernel
theorem dX2_crane_6 : decode cX2_crane 6 = .ok (.bipush 9, 2) := by decide +kernel
theorem dX2_crane_8 : decode cX2_crane 8 = .ok (.invokestatic 165, 3) := by decide +kernel
theorem dX2_crane_11 : decode cX2_crane 11 = .ok (.aload_n 0, 1) := by decide +kernel
theorem dX2_crane_12 : decode cX2_crane 12 = .ok (.getfield 22, 3) := by decide +kernel
theorem dX2_crane_15 : decode cX2_crane 15 = .ok (.iload_n 1, 1) := by decide +kernel
theorem dX2_crane_16 : decode cX2_crane 16 = .ok (.invokevirtual 89, 3) := by decide +kernel
theorem dX2_crane_19 : decode cX2_crane 19 = .ok (.checkcast 81, 3) := by decide +kernel
theorem dX2_crane_22 : decode cX2_crane 22 = .ok (.iload_n 2, 1) := by decide +kernel
theorem dX2_crane_23 : decode cX2_crane 23 = .ok (.invokestatic 180, 3) := by decide +kernel
theorem dX2_crane_26 : decode cX2_crane 26 = .ok (.ireturn, 1) := by decide +kernel
set_option maxRecDepth 20000 in
theorem ggX2_count_X2_requireAnswer : GoodIn wsX2_count wsX2_requireAnswer := goodIn_ca (goodIn_r _ [4, 5, 6, 7, 8, 3, 9] (by decide +kernel) (by decide +kernel)) (goodIn_sub (fun _ h => List.mem_cons_of_mem _ (List.mem_append_right _ h)) (by decide +kernel))
set_option maxRecDepth 20000 in
theorem gX2_count_X2_requireAnswer : GoodIn wsX2_count (va_wsS RX2 165 yX2_requireAnswer wsX2_requireAnswer) := goodIn_app (goodIn_of _ (by decide +kernel)) ggX2_count_X2_requireAnswer
set_option maxRecDepth 20000 in
theorem ggX2_count_X2_countAnswer : GoodIn wsX2_count wsX2_countAnswer := goodIn_r _ [13, 14, 15, 16, 17, 18, 19, 20, 21, 22, 23, 24, 25, 3, 26, 27, 28, 29, 30, 31, 32, 33, 34, 35, 36, 37, 38, 39, 7, 8, 9, 40, 41, 42, 43, 44, 45, 46, 47, 48, 49, 50, 51, 52, 53, 54, 55, 56, 57, 58, 59, 60, 61, 62, 63, 64, 65, 66, 67, 68, 69, 70, 71, 72, 73, 74, 75, 76, 77, 78, 79, 80, 81, 82, 83, 84, 85, 86, 87, 88, 89, 90, 91, 92, 93, 94, 95] (by decide +kernel) (by decide +kernel)
set_option maxRecDepth 20000 in
theorem gX2_count_X2_countAnswer : GoodIn wsX2_count (wsV RX2 183 RX2 yX2_countAnswer wsX2_countAnswer) := goodIn_app (goodIn_of _ (by decide +kernel)) ggX2_count_X2_countAnswer
theorem dX2_count_0 : decode cX2_count 0 = .ok (.iload_n 1, 1) := by decide +kernel
theorem dX2_count_1 : decode cX2_count 1 = .ok (.bipush 7, 2) := by decide +kernel
theorem dX2_count_3 : decode cX2_count 3 = .ok (.invokestatic 165, 3) := by decide +kernel
theorem dX2_count_6 : decode cX2_count 6 = .ok (.aload_n 0, 1) := by decide +kernel
theorem dX2_count_7 : decode cX2_count 7 = .ok (.iload_n 1, 1) := by decide +kernel
theorem dX2_count_8 : decode cX2_count 8 = .ok (.invokevirtual 183, 3) := by decide +kernel
theorem dX2_count_11 : decode cX2_count 11 = .ok (.ireturn, 1) := by decide +kernel
set_option maxRecDepth 20000 in
theorem ggX2_move_X2_requireCrane : GoodIn wsX2_move wsX2_requireCrane := goodIn_ca (goodIn_r _ [7, 8, 9, 1, 10, 11, 12, 13, 14, 15, 16, 17, 6, 18, 109, 110, 111, 112, 113, 114, 115] (by decide +kernel) (by decide +kernel)) (goodIn_sub (fun _ h => List.mem_cons_of_mem _ (List.mem_append_right _ h)) (by decide +kernel))
set_option maxRecDepth 20000 in
theorem gX2_move_X2_requireCrane : GoodIn wsX2_move (wsV RX2 86 RX2 yX2_requireCrane wsX2_requireCrane) := goodIn_app (goodIn_of _ (by decide +kernel)) ggX2_move_X2_requireCrane
set_option maxRecDepth 20000 in
theorem ggX2_move_X2_requirePlace : GoodIn wsX2_move wsX2_requirePlace := goodIn_ca (goodIn_r _ [21, 8, 9, 22, 23, 6, 24, 16, 17, 18] (by decide +kernel) (by decide +kernel)) (goodIn_sub (fun _ h => List.mem_cons_of_mem _ (List.mem_append_right _ h)) (by decide +kernel))
set_option maxRecDepth 20000 in
theorem gX2_move_X2_requirePlace : GoodIn wsX2_move (va_wsS RX2 25 yX2_requirePlace wsX2_requirePlace) := goodIn_app (goodIn_of _ (by decide +kernel)) ggX2_move_X2_requirePlace
set_option maxRecDepth 20000 in
theorem ggX2_move_Jx4a65c_get_915e3 : GoodIn wsX2_move wsJx4a65c_get_915e3 := goodIn_r _ [28, 15, 29, 30, 31, 32, 33, 34, 35, 36, 37, 38, 39, 13, 40, 41, 113, 114, 115] (by decide +kernel) (by decide +kernel)
set_option maxRecDepth 20000 in
theorem gX2_move_Jx4a65c_get_915e3 : GoodIn wsX2_move (wsV RX2 89 RJx4a65c yJx4a65c_get_915e3 wsJx4a65c_get_915e3) := goodIn_app (goodIn_of _ (by decide +kernel)) ggX2_move_Jx4a65c_get_915e3
set_option maxRecDepth 20000 in
theorem ggX2_move_X2_ticksToMove : GoodIn wsX2_move wsX2_ticksToMove := goodIn_r _ [45, 46, 47, 48, 49, 50, 51, 52, 53, 54, 55, 6, 56, 57, 22, 23, 24, 16, 17, 18, 58, 59, 60, 61, 62, 63, 64, 65, 66, 67, 68, 69, 70, 71, 72, 73, 74, 75, 76, 77, 78, 79, 80, 81, 82, 83, 84, 85, 86, 87, 88, 89, 90, 91, 92, 93, 94, 95, 96, 97, 98, 99, 100, 101, 102, 103, 104, 105, 106, 107, 108, 116, 117, 118, 119, 120, 121, 122, 123, 124, 125, 126, 127, 128, 129, 130, 109, 110, 111, 112] (by decide +kernel) (by decide +kernel)
set_option maxRecDepth 20000 in
theorem gX2_move_X2_ticksToMove : GoodIn wsX2_move (wsV RX2 186 RX2 yX2_ticksToMove wsX2_ticksToMove) := goodIn_app (goodIn_of _ (by decide +kernel)) ggX2_move_X2_ticksToMove
theorem dX2_move_0 : decode cX2_move 0 = .ok (.aload_n 0, 1) := by decide +kernel
theorem dX2_move_1 : decode cX2_move 1 = .ok (.iload_n 1, 1) := by decide +kernel
theorem dX2_move_2 : decode cX2_move 2 = .ok (.invokevirtual 86, 3) := by decide +kernel
theorem dX2_move_5 : decode cX2_move 5 = .ok (.iload_n 2, 1) := by decide +kernel
theorem dX2_move_6 : decode cX2_move 6 = .ok (.invokestatic 25, 3) := by decide +kernel
theorem dX2_move_9 : decode cX2_move 9 = .ok (.iload_n 3, 1) := by decide +kernel
theorem dX2_move_10 : decode cX2_move 10 = .ok (.invokestatic 25, 3) := by decide +kernel
theorem dX2_move_13 : decode cX2_move 13 = .ok (.aload_n 0, 1) := by decide +kernel
theorem dX2_move_14 : decode cX2_move 14 = .ok (.aload_n 0, 1) := by decide +kernel
theorem dX2_move_15 : decode cX2_move 15 = .ok (.getfield 22, 3) := by decide +kernel
theorem dX2_move_18 : decode cX2_move 18 = .ok (.iload_n 1, 1) := by decide +kernel
theorem dX2_move_19 : decode cX2_move 19 = .ok (.invokevirtual 89, 3) := by decide +kernel
theorem dX2_move_22 : decode cX2_move 22 = .ok (.checkcast 81, 3) := by decide +kernel
theorem dX2_move_25 : decode cX2_move 25 = .ok (.iload_n 2, 1) := by decide +kernel
theorem dX2_move_26 : decode cX2_move 26 = .ok (.iload_n 3, 1) := by decide +kernel
theorem dX2_move_27 : decode cX2_move 27 = .ok (.invokevirtual 186, 3) := by decide +kernel
theorem dX2_move_30 : decode cX2_move 30 = .ok (.ireturn, 1) := by decide +kernel
set_option maxRecDepth 20000 in
theorem ggX2_best_X2_requirePlace : GoodIn wsX2_best wsX2_requirePlace := goodIn_ca (goodIn_r _ [6, 7, 8, 9, 10, 5, 11, 12, 13, 14] (by decide +kernel) (by decide +kernel)) (goodIn_sub (fun _ h => List.mem_cons_of_mem _ (List.mem_append_right _ h)) (by decide +kernel))
set_option maxRecDepth 20000 in
theorem gX2_best_X2_requirePlace : GoodIn wsX2_best (va_wsS RX2 25 yX2_requirePlace wsX2_requirePlace) := goodIn_app (goodIn_of _ (by decide +kernel)) ggX2_best_X2_requirePlace
set_option maxRecDepth 20000 in
theorem ggX2_best_Jx4a65c_size_8abf5 : GoodIn wsX2_best wsJx4a65c_size_8abf5 := goodIn_r _ [19, 20, 109, 110, 111] (by decide +kernel) (by decide +kernel)
set_option maxRecDepth 20000 in
theorem gX2_best_Jx4a65c_size_8abf5 : GoodIn wsX2_best (wsV RX2 32 RJx4a65c yJx4a65c_size_8abf5 wsJx4a65c_size_8abf5) := goodIn_app (goodIn_of _ (by decide +kernel)) ggX2_best_Jx4a65c_size_8abf5
set_option maxRecDepth 20000 in
theorem ggX2_best_Jx4a65c_get_915e3 : GoodIn wsX2_best wsJx4a65c_get_915e3 := goodIn_r _ [24, 20, 25, 26, 27, 28, 29, 30, 31, 32, 33, 34, 35, 18, 36, 37, 109, 110, 111] (by decide +kernel) (by decide +kernel)
set_option maxRecDepth 20000 in
theorem gX2_best_Jx4a65c_get_915e3 : GoodIn wsX2_best (wsV RX2 89 RJx4a65c yJx4a65c_get_915e3 wsJx4a65c_get_915e3) := goodIn_app (goodIn_of _ (by decide +kernel)) ggX2_best_Jx4a65c_get_915e3
set_option maxRecDepth 20000 in
theorem ggX2_best_X2_ticksToMove : GoodIn wsX2_best wsX2_ticksToMove := goodIn_r _ [41, 42, 43, 44, 45, 46, 47, 48, 49, 50, 51, 5, 52, 53, 9, 10, 11, 12, 13, 14, 54, 55, 56, 57, 58, 59, 60, 61, 62, 63, 64, 65, 66, 67, 68, 69, 70, 71, 72, 73, 74, 75, 76, 77, 78, 79, 80, 81, 82, 83, 84, 85, 86, 87, 88, 89, 90, 91, 92, 93, 94, 95, 96, 97, 98, 99, 100, 101, 102, 103, 104, 112, 113, 114, 115, 116, 117, 118, 119, 120, 121, 122, 123, 124, 125, 126, 105, 106, 107, 108] (by decide +kernel) (by decide +kernel)
set_option maxRecDepth 20000 in
theorem gX2_best_X2_ticksToMove : GoodIn wsX2_best (wsV RX2 186 RX2 yX2_ticksToMove wsX2_ticksToMove) := goodIn_app (goodIn_of _ (by decide +kernel)) ggX2_best_X2_ticksToMove
theorem dX2_best_0 : decode cX2_best 0 = .ok (.iload_n 1, 1) := by decide +kernel
theorem dX2_best_1 : decode cX2_best 1 = .ok (.invokestatic 25, 3) := by decide +kernel
theorem dX2_best_4 : decode cX2_best 4 = .ok (.iload_n 2, 1) := by decide +kernel
theorem dX2_best_5 : decode cX2_best 5 = .ok (.invokestatic 25, 3) := by decide +kernel
theorem dX2_best_8 : decode cX2_best 8 = .ok (.iconst (-1), 1) := by decide +kernel
theorem dX2_best_9 : decode cX2_best 9 = .ok (.istore_n 3, 1) := by decide +kernel
theorem dX2_best_10 : decode cX2_best 10 = .ok (.iconst (-1), 1) := by decide +kernel
theorem dX2_best_11 : decode cX2_best 11 = .ok (.istore 4, 2) := by decide +kernel
theorem dX2_best_13 : decode cX2_best 13 = .ok (.iconst 0, 1) := by decide +kernel
theorem dX2_best_14 : decode cX2_best 14 = .ok (.istore 5, 2) := by decide +kernel
theorem dX2_best_16 : decode cX2_best 16 = .ok (.iload 5, 2) := by decide +kernel
theorem dX2_best_18 : decode cX2_best 18 = .ok (.aload_n 0, 1) := by decide +kernel
theorem dX2_best_19 : decode cX2_best 19 = .ok (.getfield 22, 3) := by decide +kernel
theorem dX2_best_22 : decode cX2_best 22 = .ok (.invokevirtual 32, 3) := by decide +kernel
theorem dX2_best_25 : decode cX2_best 25 = .ok (.if_icmp .ge 54, 3) := by decide +kernel
theorem dX2_best_28 : decode cX2_best 28 = .ok (.aload_n 0, 1) := by decide +kernel
theorem dX2_best_29 : decode cX2_best 29 = .ok (.aload_n 0, 1) := by decide +kernel
theorem dX2_best_30 : decode cX2_best 30 = .ok (.getfield 22, 3) := by decide +kernel
theorem dX2_best_33 : decode cX2_best 33 = .ok (.iload 5, 2) := by decide +kernel
theorem dX2_best_35 : decode cX2_best 35 = .ok (.invokevirtual 89, 3) := by decide +kernel
theorem dX2_best_38 : decode cX2_best 38 = .ok (.checkcast 81, 3) := by decide +kernel
theorem dX2_best_41 : decode cX2_best 41 = .ok (.iload_n 1, 1) := by decide +kernel
theorem dX2_best_42 : decode cX2_best 42 = .ok (.iload_n 2, 1) := by decide +kernel
theorem dX2_best_43 : decode cX2_best 43 = .ok (.invokevirtual 186, 3) := by decide +kernel
theorem dX2_best_46 : decode cX2_best 46 = .ok (.istore 6, 2) := by decide +kernel
theorem dX2_best_48 : decode cX2_best 48 = .ok (.iload 6, 2) := by decide +kernel
theorem dX2_best_50 : decode cX2_best 50 = .ok (.iconst (-1), 1) := by decide +kernel
theorem dX2_best_51 : decode cX2_best 51 = .ok (.if_icmp .eq 22, 3) := by decide +kernel
theorem dX2_best_54 : decode cX2_best 54 = .ok (.iload_n 3, 1) := by decide +kernel
theorem dX2_best_55 : decode cX2_best 55 = .ok (.iconst (-1), 1) := by decide +kernel
theorem dX2_best_56 : decode cX2_best 56 = .ok (.if_icmp .eq 10, 3) := by decide +kernel
theorem dX2_best_59 : decode cX2_best 59 = .ok (.iload 6, 2) := by decide +kernel
theorem dX2_best_61 : decode cX2_best 61 = .ok (.iload 4, 2) := by decide +kernel
theorem dX2_best_63 : decode cX2_best 63 = .ok (.if_icmp .ge 10, 3) := by decide +kernel
theorem dX2_best_66 : decode cX2_best 66 = .ok (.iload 5, 2) := by decide +kernel
theorem dX2_best_68 : decode cX2_best 68 = .ok (.istore_n 3, 1) := by decide +kernel
theorem dX2_best_69 : decode cX2_best 69 = .ok (.iload 6, 2) := by decide +kernel
theorem dX2_best_71 : decode cX2_best 71 = .ok (.istore 4, 2) := by decide +kernel
theorem dX2_best_73 : decode cX2_best 73 = .ok (.iinc 5 1, 3) := by decide +kernel
theorem dX2_best_76 : decode cX2_best 76 = .ok (.goto (-60), 3) := by decide +kernel
theorem dX2_best_79 : decode cX2_best 79 = .ok (.iload_n 3, 1) := by decide +kernel
theorem dX2_best_80 : decode cX2_best 80 = .ok (.ireturn, 1) := by decide +kernel
set_option maxRecDepth 20000 in
theorem ggX2_lasts_X2_requireCrane : GoodIn wsX2_lasts wsX2_requireCrane := goodIn_ca (goodIn_r _ [8, 9, 10, 1, 11, 12, 13, 14, 15, 16, 17, 18, 7, 19, 45, 46, 47, 48, 57, 58, 59] (by decide +kernel) (by decide +kernel)) (goodIn_sub (fun _ h => List.mem_cons_of_mem _ (List.mem_append_left _ (List.mem_append_right _ h))) (by decide +kernel))
set_option maxRecDepth 20000 in
theorem gX2_lasts_X2_requireCrane : GoodIn wsX2_lasts (wsV RX2 86 RX2 yX2_requireCrane wsX2_requireCrane) := goodIn_app (goodIn_of _ (by decide +kernel)) ggX2_lasts_X2_requireCrane
set_option maxRecDepth 20000 in
theorem ggX2_lasts_X2_requireWeight : GoodIn wsX2_lasts wsX2_requireWeight := goodIn_ca (goodIn_r _ [22, 23, 24, 17, 18, 7, 19] (by decide +kernel) (by decide +kernel)) (goodIn_sub (fun _ h => List.mem_cons_of_mem _ (List.mem_append_right _ h)) (by decide +kernel))
set_option maxRecDepth 20000 in
theorem gX2_lasts_X2_requireWeight : GoodIn wsX2_lasts (va_wsS RX2 29 yX2_requireWeight wsX2_requireWeight) := goodIn_app (goodIn_of _ (by decide +kernel)) ggX2_lasts_X2_requireWeight
set_option maxRecDepth 20000 in
theorem ggX2_lasts_X2_wearInATick : GoodIn wsX2_lasts wsX2_wearInATick := goodIn_r _ [27] (by decide +kernel) (by decide +kernel)
set_option maxRecDepth 20000 in
theorem gX2_lasts_X2_wearInATick : GoodIn wsX2_lasts (va_wsS RX2 190 yX2_wearInATick wsX2_wearInATick) := goodIn_app (goodIn_of _ (by decide +kernel)) ggX2_lasts_X2_wearInATick
set_option maxRecDepth 20000 in
theorem ggX2_lasts_Jx4a65c_get_915e3 : GoodIn wsX2_lasts wsJx4a65c_get_915e3 := goodIn_r _ [31, 16, 32, 33, 34, 35, 36, 37, 38, 39, 40, 41, 42, 14, 43, 44, 57, 58, 59] (by decide +kernel) (by decide +kernel)
set_option maxRecDepth 20000 in
theorem gX2_lasts_Jx4a65c_get_915e3 : GoodIn wsX2_lasts (wsV RX2 89 RJx4a65c yJx4a65c_get_915e3 wsJx4a65c_get_915e3) := goodIn_app (goodIn_of _ (by decide +kernel)) ggX2_lasts_Jx4a65c_get_915e3
theorem dX2_lasts_0 : decode cX2_lasts 0 = .ok (.aload_n 0, 1) := by decide +kernel
theorem dX2_lasts_1 : decode cX2_lasts 1 = .ok (.iload_n 1, 1) := by decide +kernel
theorem dX2_lasts_2 : decode cX2_lasts 2 = .ok (.invokevirtual 86, 3) := by decide +kernel
theorem dX2_lasts_5 : decode cX2_lasts 5 = .ok (.iload_n 2, 1) := by decide +kernel
theorem dX2_lasts_6 : decode cX2_lasts 6 = .ok (.invokestatic 29, 3) := by decide +kernel
theorem dX2_lasts_9 : decode cX2_lasts 9 = .ok (.iload_n 2, 1) := by decide +kernel
theorem dX2_lasts_10 : decode cX2_lasts 10 = .ok (.invokestatic 190, 3) := by decide +kernel
theorem dX2_lasts_13 : decode cX2_lasts 13 = .ok (.istore_n 3, 1) := by decide +kernel
theorem dX2_lasts_14 : decode cX2_lasts 14 = .ok (.iload_n 3, 1) := by decide +kernel
theorem dX2_lasts_15 : decode cX2_lasts 15 = .ok (.iconst 1, 1) := by decide +kernel
theorem dX2_lasts_16 : decode cX2_lasts 16 = .ok (.if_icmp .ge 7, 3) := by decide +kernel
theorem dX2_lasts_19 : decode cX2_lasts 19 = .ok (.iconst 0, 1) := by decide +kernel
theorem dX2_lasts_20 : decode cX2_lasts 20 = .ok (.goto 22, 3) := by decide +kernel
theorem dX2_lasts_23 : decode cX2_lasts 23 = .ok (.bipush 99, 2) := by decide +kernel
theorem dX2_lasts_25 : decode cX2_lasts 25 = .ok (.aload_n 0, 1) := by decide +kernel
theorem dX2_lasts_26 : decode cX2_lasts 26 = .ok (.getfield 22, 3) := by decide +kernel
theorem dX2_lasts_29 : decode cX2_lasts 29 = .ok (.iload_n 1, 1) := by decide +kernel
theorem dX2_lasts_30 : decode cX2_lasts 30 = .ok (.invokevirtual 89, 3) := by decide +kernel
theorem dX2_lasts_33 : decode cX2_lasts 33 = .ok (.checkcast 81, 3) := by decide +kernel
theorem dX2_lasts_36 : decode cX2_lasts 36 = .ok (.getfield 96, 3) := by decide +kernel
theorem dX2_lasts_39 : decode cX2_lasts 39 = .ok (.isub, 1) := by decide +kernel
theorem dX2_lasts_40 : decode cX2_lasts 40 = .ok (.iload_n 3, 1) := by decide +kernel
theorem dX2_lasts_41 : decode cX2_lasts 41 = .ok (.idiv, 1) := by decide +kernel
theorem dX2_lasts_42 : decode cX2_lasts 42 = .ok (.ireturn, 1) := by decide +kernel
set_option maxRecDepth 20000 in
theorem ggX2_within_X2_requireCrane : GoodIn wsX2_within wsX2_requireCrane := goodIn_ca (goodIn_r _ [11, 12, 13, 1, 14, 15, 16, 17, 18, 19, 20, 21, 10, 22, 63, 64, 65, 66, 74, 75, 76] (by decide +kernel) (by decide +kernel)) (goodIn_sub (fun _ h => List.mem_cons_of_mem _ (List.mem_append_right _ h)) (by decide +kernel))
set_option maxRecDepth 20000 in
theorem gX2_within_X2_requireCrane : GoodIn wsX2_within (wsV RX2 86 RX2 yX2_requireCrane wsX2_requireCrane) := goodIn_app (goodIn_of _ (by decide +kernel)) ggX2_within_X2_requireCrane
set_option maxRecDepth 20000 in
theorem ggX2_within_Jx4a65c_get_915e3 : GoodIn wsX2_within wsJx4a65c_get_915e3 := goodIn_r _ [26, 19, 27, 28, 29, 30, 31, 32, 33, 34, 35, 36, 37, 17, 38, 39, 74, 75, 76] (by decide +kernel) (by decide +kernel)
set_option maxRecDepth 20000 in
theorem gX2_within_Jx4a65c_get_915e3 : GoodIn wsX2_within (wsV RX2 89 RJx4a65c yJx4a65c_get_915e3 wsJx4a65c_get_915e3) := goodIn_app (goodIn_of _ (by decide +kernel)) ggX2_within_Jx4a65c_get_915e3
set_option maxRecDepth 20000 in
theorem ggX2_within_Jx4a65c_size_8abf5 : GoodIn wsX2_within wsJx4a65c_size_8abf5 := goodIn_r _ [18, 19, 74, 75, 76] (by decide +kernel) (by decide +kernel)
set_option maxRecDepth 20000 in
theorem gX2_within_Jx4a65c_size_8abf5 : GoodIn wsX2_within (wsV RX2 32 RJx4a65c yJx4a65c_size_8abf5 wsJx4a65c_size_8abf5) := goodIn_app (goodIn_of _ (by decide +kernel)) ggX2_within_Jx4a65c_size_8abf5
set_option maxRecDepth 20000 in
theorem ggX2_within_X1_reaches : GoodIn wsX2_within wsX1_reaches := goodIn_r _ [44, 45, 46, 47, 10, 48, 49, 50, 51, 52, 77, 78, 79, 80, 81, 82, 83, 84] (by decide +kernel) (by decide +kernel)
set_option maxRecDepth 20000 in
theorem gX2_within_X1_reaches : GoodIn wsX2_within (wsV RX2 99 RX1 yX1_reaches wsX1_reaches) := goodIn_app (goodIn_of _ (by decide +kernel)) ggX2_within_X1_reaches
set_option maxRecDepth 20000 in
theorem ggX2_within_X1_canLift : GoodIn wsX2_within wsX1_canLift := goodIn_r _ [56, 57, 58, 59, 43, 60, 61, 62, 77, 78, 79, 80, 81, 82, 83, 84] (by decide +kernel) (by decide +kernel)
set_option maxRecDepth 20000 in
theorem gX2_within_X1_canLift : GoodIn wsX2_within (wsV RX2 137 RX1 yX1_canLift wsX1_canLift) := goodIn_app (goodIn_of _ (by decide +kernel)) ggX2_within_X1_canLift
theorem dX2_within_0 : decode cX2_within 0 = .ok (.aload_n 0, 1) := by decide +kernel
theorem dX2_within_1 : decode cX2_within 1 = .ok (.iload_n 1, 1) := by decide +kernel
theorem dX2_within_2 : decode cX2_within 2 = .ok (.invokevirtual 86, 3) := by decide +kernel
theorem dX2_within_5 : decode cX2_within 5 = .ok (.aload_n 0, 1) := by decide +kernel
theorem dX2_within_6 : decode cX2_within 6 = .ok (.getfield 22, 3) := by decide +kernel
theorem dX2_within_9 : decode cX2_within 9 = .ok (.iload_n 1, 1) := by decide +kernel
theorem dX2_within_10 : decode cX2_within 10 = .ok (.invokevirtual 89, 3) := by decide +kernel
theorem dX2_within_13 : decode cX2_within 13 = .ok (.checkcast 81, 3) := by decide +kernel
theorem dX2_within_16 : decode cX2_within 16 = .ok (.astore_n 2, 1) := by decide +kernel
theorem dX2_within_17 : decode cX2_within 17 = .ok (.iconst 0, 1) := by decide +kernel
theorem dX2_within_18 : decode cX2_within 18 = .ok (.istore_n 3, 1) := by decide +kernel
theorem dX2_within_19 : decode cX2_within 19 = .ok (.iconst 0, 1) := by decide +kernel
theorem dX2_within_20 : decode cX2_within 20 = .ok (.istore 4, 2) := by decide +kernel
theorem dX2_within_22 : decode cX2_within 22 = .ok (.iload 4, 2) := by decide +kernel
theorem dX2_within_24 : decode cX2_within 24 = .ok (.aload_n 0, 1) := by decide +kernel
theorem dX2_within_25 : decode cX2_within 25 = .ok (.getfield 18, 3) := by decide +kernel
theorem dX2_within_28 : decode cX2_within 28 = .ok (.invokevirtual 32, 3) := by decide +kernel
theorem dX2_within_31 : decode cX2_within 31 = .ok (.if_icmp .ge 59, 3) := by decide +kernel
theorem dX2_within_34 : decode cX2_within 34 = .ok (.aload_n 0, 1) := by decide +kernel
theorem dX2_within_35 : decode cX2_within 35 = .ok (.getfield 18, 3) := by decide +kernel
theorem dX2_within_38 : decode cX2_within 38 = .ok (.iload 4, 2) := by decide +kernel
theorem dX2_within_40 : decode cX2_within 40 = .ok (.invokevirtual 89, 3) := by decide +kernel
theorem dX2_within_43 : decode cX2_within 43 = .ok (.checkcast 9, 3) := by decide +kernel
theorem dX2_within_46 : decode cX2_within 46 = .ok (.astore 5, 2) := by decide +kernel
theorem dX2_within_48 : decode cX2_within 48 = .ok (.aload 5, 2) := by decide +kernel
theorem dX2_within_50 : decode cX2_within 50 = .ok (.getfield 193, 3) := by decide +kernel
theorem dX2_within_53 : decode cX2_within 53 = .ok (.iconst (-1), 1) := by decide +kernel
theorem dX2_within_54 : decode cX2_within 54 = .ok (.if_icmp .eq 30, 3) := by decide +kernel
theorem dX2_within_57 : decode cX2_within 57 = .ok (.aload_n 2, 1) := by decide +kernel
theorem dX2_within_58 : decode cX2_within 58 = .ok (.aload 5, 2) := by decide +kernel
theorem dX2_within_60 : decode cX2_within 60 = .ok (.getfield 193, 3) := by decide +kernel
theorem dX2_within_63 : decode cX2_within 63 = .ok (.invokevirtual 99, 3) := by decide +kernel
theorem dX2_within_66 : decode cX2_within 66 = .ok (.ifCond .eq 18, 3) := by decide +kernel
theorem dX2_within_69 : decode cX2_within 69 = .ok (.aload_n 2, 1) := by decide +kernel
theorem dX2_within_70 : decode cX2_within 70 = .ok (.aload 5, 2) := by decide +kernel
theorem dX2_within_72 : decode cX2_within 72 = .ok (.getfield 134, 3) := by decide +kernel
theorem dX2_within_75 : decode cX2_within 75 = .ok (.invokevirtual 137, 3) := by decide +kernel
theorem dX2_within_78 : decode cX2_within 78 = .ok (.ifCond .eq 6, 3) := by decide +kernel
theorem dX2_within_81 : decode cX2_within 81 = .ok (.iinc 3 1, 3) := by decide +kernel
theorem dX2_within_84 : decode cX2_within 84 = .ok (.iinc 4 1, 3) := by decide +kernel
theorem dX2_within_87 : decode cX2_within 87 = .ok (.goto (-65), 3) := by decide +kernel
theorem dX2_within_90 : decode cX2_within 90 = .ok (.iload_n 3, 1) := by decide +kernel
theorem dX2_within_91 : decode cX2_within 91 = .ok (.ireturn, 1) := by decide +kernel
set_option maxRecDepth 20000 in
theorem ggX2_mean_Jx4a65c_size_8abf5 : GoodIn wsX2_mean wsJx4a65c_size_8abf5 := goodIn_r _ [9, 10, 39, 40, 41] (by decide +kernel) (by decide +kernel)
set_option maxRecDepth 20000 in
theorem gX2_mean_Jx4a65c_size_8abf5 : GoodIn wsX2_mean (wsV RX2 32 RJx4a65c yJx4a65c_size_8abf5 wsJx4a65c_size_8abf5) := goodIn_app (goodIn_of _ (by decide +kernel)) ggX2_mean_Jx4a65c_size_8abf5
set_option maxRecDepth 20000 in
theorem ggX2_mean_Jx4a65c_get_915e3 : GoodIn wsX2_mean wsJx4a65c_get_915e3 := goodIn_r _ [14, 10, 15, 16, 17, 18, 19, 20, 21, 22, 23, 24, 25, 8, 26, 27, 39, 40, 41] (by decide +kernel) (by decide +kernel)
set_option maxRecDepth 20000 in
theorem gX2_mean_Jx4a65c_get_915e3 : GoodIn wsX2_mean (wsV RX2 89 RJx4a65c yJx4a65c_get_915e3 wsJx4a65c_get_915e3) := goodIn_app (goodIn_of _ (by decide +kernel)) ggX2_mean_Jx4a65c_get_915e3
theorem dX2_mean_0 : decode cX2_mean 0 = .ok (.iconst 0, 1) := by decide +kernel
theorem dX2_mean_1 : decode cX2_mean 1 = .ok (.istore_n 1, 1) := by decide +kernel
theorem dX2_mean_2 : decode cX2_mean 2 = .ok (.iconst 0, 1) := by decide +kernel
theorem dX2_mean_3 : decode cX2_mean 3 = .ok (.istore_n 2, 1) := by decide +kernel
theorem dX2_mean_4 : decode cX2_mean 4 = .ok (.iconst 0, 1) := by decide +kernel
theorem dX2_mean_5 : decode cX2_mean 5 = .ok (.istore_n 3, 1) := by decide +kernel
theorem dX2_mean_6 : decode cX2_mean 6 = .ok (.iload_n 3, 1) := by decide +kernel
theorem dX2_mean_7 : decode cX2_mean 7 = .ok (.aload_n 0, 1) := by decide +kernel
theorem dX2_mean_8 : decode cX2_mean 8 = .ok (.getfield 18, 3) := by decide +kernel
theorem dX2_mean_11 : decode cX2_mean 11 = .ok (.invokevirtual 32, 3) := by decide +kernel
theorem dX2_mean_14 : decode cX2_mean 14 = .ok (.if_icmp .ge 41, 3) := by decide +kernel
theorem dX2_mean_17 : decode cX2_mean 17 = .ok (.aload_n 0, 1) := by decide +kernel
theorem dX2_mean_18 : decode cX2_mean 18 = .ok (.getfield 18, 3) := by decide +kernel
theorem dX2_mean_21 : decode cX2_mean 21 = .ok (.iload_n 3, 1) := by decide +kernel
theorem dX2_mean_22 : decode cX2_mean 22 = .ok (.invokevirtual 89, 3) := by decide +kernel
theorem dX2_mean_25 : decode cX2_mean 25 = .ok (.checkcast 9, 3) := by decide +kernel
theorem dX2_mean_28 : decode cX2_mean 28 = .ok (.astore 4, 2) := by decide +kernel
theorem dX2_mean_30 : decode cX2_mean 30 = .ok (.aload 4, 2) := by decide +kernel
theorem dX2_mean_32 : decode cX2_mean 32 = .ok (.getfield 196, 3) := by decide +kernel
theorem dX2_mean_35 : decode cX2_mean 35 = .ok (.ifCond .ne 14, 3) := by decide +kernel
theorem dX2_mean_38 : decode cX2_mean 38 = .ok (.iload_n 1, 1) := by decide +kernel
theorem dX2_mean_39 : decode cX2_mean 39 = .ok (.aload 4, 2) := by decide +kernel
theorem dX2_mean_41 : decode cX2_mean 41 = .ok (.getfield 134, 3) := by decide +kernel
theorem dX2_mean_44 : decode cX2_mean 44 = .ok (.iadd, 1) := by decide +kernel
theorem dX2_mean_45 : decode cX2_mean 45 = .ok (.istore_n 1, 1) := by decide +kernel
theorem dX2_mean_46 : decode cX2_mean 46 = .ok (.iinc 2 1, 3) := by decide +kernel
theorem dX2_mean_49 : decode cX2_mean 49 = .ok (.iinc 3 1, 3) := by decide +kernel
theorem dX2_mean_52 : decode cX2_mean 52 = .ok (.goto (-46), 3) := by decide +kernel
theorem dX2_mean_55 : decode cX2_mean 55 = .ok (.iload_n 2, 1) := by decide +kernel
theorem dX2_mean_56 : decode cX2_mean 56 = .ok (.ifCond .ne 7, 3) := by decide +kernel
theorem dX2_mean_59 : decode cX2_mean 59 = .ok (.dconst 0, 1) := by decide +kernel
theorem dX2_mean_60 : decode cX2_mean 60 = .ok (.goto 8, 3) := by decide +kernel
theorem dX2_mean_63 : decode cX2_mean 63 = .ok (.iload_n 1, 1) := by decide +kernel
theorem dX2_mean_64 : decode cX2_mean 64 = .ok (.i2d, 1) := by decide +kernel
theorem dX2_mean_65 : decode cX2_mean 65 = .ok (.iload_n 2, 1) := by decide +kernel
theorem dX2_mean_66 : decode cX2_mean 66 = .ok (.i2d, 1) := by decide +kernel
theorem dX2_mean_67 : decode cX2_mean 67 = .ok (.ddiv, 1) := by decide +kernel
theorem dX2_mean_68 : decode cX2_mean 68 = .ok (.dreturn, 1) := by decide +kernel
set_option maxRecDepth 20000 in
theorem ggX2_digest_X2_countAnswer : GoodIn wsX2_digest wsX2_countAnswer := goodIn_r _ [11, 12, 3, 5, 13, 14, 15, 16, 17, 18, 19, 20, 21, 10, 22, 23, 24, 25, 26, 27, 28, 29, 30, 31, 32, 33, 34, 35, 36, 37, 38, 39, 40, 41, 42, 6, 43, 44, 45, 46, 47, 48, 49, 50, 51, 52, 53, 54, 55, 56, 57, 58, 59, 60, 61, 62, 63, 64, 65, 66, 67, 68, 69, 70, 71, 114, 115, 116, 117, 118, 119, 120, 121, 122, 123, 124, 125, 126, 127, 128, 129, 130, 131, 132, 133, 134, 135] (by decide +kernel) (by decide +kernel)
set_option maxRecDepth 20000 in
theorem gX2_digest_X2_countAnswer : GoodIn wsX2_digest (wsV RX2 183 RX2 yX2_countAnswer wsX2_countAnswer) := goodIn_app (goodIn_of _ (by decide +kernel)) ggX2_digest_X2_countAnswer
set_option maxRecDepth 20000 in
theorem ggX2_digest_X2_placeAnswer : GoodIn wsX2_digest wsX2_placeAnswer := goodIn_r _ [75, 23, 24, 25, 10, 26, 27, 28, 29, 30, 31, 32, 33, 34, 35, 36, 37, 38, 76, 77, 78, 79, 80, 81, 82, 83, 84, 85, 86, 87, 88, 89, 5, 6, 90, 13, 14, 15, 16, 17, 18, 44, 45, 46, 47, 48, 49, 50, 51, 52, 53, 54, 55, 56, 57, 58, 59, 60, 121, 122, 123, 124, 125, 126, 127, 114, 115, 116, 117, 128, 129, 130, 131, 132, 133, 134, 135, 118, 119, 120] (by decide +kernel) (by decide +kernel)
set_option maxRecDepth 20000 in
theorem gX2_digest_X2_placeAnswer : GoodIn wsX2_digest (wsV RX2 168 RX2 yX2_placeAnswer wsX2_placeAnswer) := goodIn_app (goodIn_of _ (by decide +kernel)) ggX2_digest_X2_placeAnswer
set_option maxRecDepth 20000 in
theorem ggX2_digest_Jx4a65c_size_8abf5 : GoodIn wsX2_digest wsJx4a65c_size_8abf5 := goodIn_r _ [17, 18, 118, 119, 120] (by decide +kernel) (by decide +kernel)
set_option maxRecDepth 20000 in
theorem gX2_digest_Jx4a65c_size_8abf5 : GoodIn wsX2_digest (wsV RX2 32 RJx4a65c yJx4a65c_size_8abf5 wsJx4a65c_size_8abf5) := goodIn_app (goodIn_of _ (by decide +kernel)) ggX2_digest_Jx4a65c_size_8abf5
set_option maxRecDepth 20000 in
theorem ggX2_digest_Jx4a65c_get_915e3 : GoodIn wsX2_digest wsJx4a65c_get_915e3 := goodIn_r _ [47, 18, 48, 49, 50, 51, 52, 53, 54, 55, 56, 57, 58, 16, 59, 60, 118, 119, 120] (by decide +kernel) (by decide +kernel)
set_option maxRecDepth 20000 in
theorem gX2_digest_Jx4a65c_get_915e3 : GoodIn wsX2_digest (wsV RX2 89 RJx4a65c yJx4a65c_get_915e3 wsJx4a65c_get_915e3) := goodIn_app (goodIn_of _ (by decide +kernel)) ggX2_digest_Jx4a65c_get_915e3
set_option maxRecDepth 20000 in
theorem ggX2_digest_X2_barrelAnswer : GoodIn wsX2_digest wsX2_barrelAnswer := goodIn_r _ [94, 84, 95, 27, 96, 97, 23, 24, 25, 10, 26, 28, 29, 30, 31, 32, 33, 34, 35, 36, 37, 38, 121, 122, 123, 124, 125, 126, 127, 114, 115, 116, 117] (by decide +kernel) (by decide +kernel)
set_option maxRecDepth 20000 in
theorem gX2_digest_X2_barrelAnswer : GoodIn wsX2_digest (wsV RX2 176 RX2 yX2_barrelAnswer wsX2_barrelAnswer) := goodIn_app (goodIn_of _ (by decide +kernel)) ggX2_digest_X2_barrelAnswer
set_option maxRecDepth 20000 in
theorem ggX2_digest_X2_craneAnswer : GoodIn wsX2_digest wsX2_craneAnswer := goodIn_r _ [100, 101, 102, 103, 104, 105, 90, 106, 43, 76, 77, 10, 78, 79, 107, 108, 109, 110, 111, 112, 113, 128, 129, 130, 131, 132, 133, 134, 135, 121, 122, 123, 124, 125, 126, 127] (by decide +kernel) (by decide +kernel)
set_option maxRecDepth 20000 in
theorem gX2_digest_X2_craneAnswer : GoodIn wsX2_digest (va_wsS RX2 180 yX2_craneAnswer wsX2_craneAnswer) := goodIn_app (goodIn_of _ (by decide +kernel)) ggX2_digest_X2_craneAnswer
theorem dX2_digest_0 : decode cX2_digest 0 = .ok (.ldc2_w 200, 3) := by decide +kernel
theorem dX2_digest_3 : decode cX2_digest 3 = .ok (.lstore_n 1, 1) := by decide +kernel
theorem dX2_digest_4 : decode cX2_digest 4 = .ok (.iconst 0, 1) := by decide +kernel
theorem dX2_digest_5 : decode cX2_digest 5 = .ok (.istore_n 3, 1) := by decide +kernel
theorem dX2_digest_6 : decode cX2_digest 6 = .ok (.iload_n 3, 1) := by decide +kernel
theorem dX2_digest_7 : decode cX2_digest 7 = .ok (.bipush 7, 2) := by decide +kernel
theorem dX2_digest_9 : decode cX2_digest 9 = .ok (.if_icmp .ge 22, 3) := by decide +kernel
theorem dX2_digest_12 : decode cX2_digest 12 = .ok (.lload_n 1, 1) := by decide +kernel
theorem dX2_digest_13 : decode cX2_digest 13 = .ok (.ldc2_w 202, 3) := by decide +kernel
theorem dX2_digest_16 : decode cX2_digest 16 = .ok (.lmul, 1) := by decide +kernel
theorem dX2_digest_17 : decode cX2_digest 17 = .ok (.aload_n 0, 1) := by decide +kernel
theorem dX2_digest_18 : decode cX2_digest 18 = .ok (.iload_n 3, 1) := by decide +kernel
theorem dX2_digest_19 : decode cX2_digest 19 = .ok (.invokevirtual 183, 3) := by decide +kernel
theorem dX2_digest_22 : decode cX2_digest 22 = .ok (.i2l, 1) := by decide +kernel
theorem dX2_digest_23 : decode cX2_digest 23 = .ok (.ladd, 1) := by decide +kernel
theorem dX2_digest_24 : decode cX2_digest 24 = .ok (.lstore_n 1, 1) := by decide +kernel
theorem dX2_digest_25 : decode cX2_digest 25 = .ok (.iinc 3 1, 3) := by decide +kernel
theorem dX2_digest_28 : decode cX2_digest 28 = .ok (.goto (-22), 3) := by decide +kernel
theorem dX2_digest_31 : decode cX2_digest 31 = .ok (.iconst 0, 1) := by decide +kernel
theorem dX2_digest_32 : decode cX2_digest 32 = .ok (.istore_n 3, 1) := by decide +kernel
theorem dX2_digest_33 : decode cX2_digest 33 = .ok (.iload_n 3, 1) := by decide +kernel
theorem dX2_digest_34 : decode cX2_digest 34 = .ok (.bipush 16, 2) := by decide +kernel
theorem dX2_digest_36 : decode cX2_digest 36 = .ok (.if_icmp .ge 39, 3) := by decide +kernel
theorem dX2_digest_39 : decode cX2_digest 39 = .ok (.iconst 0, 1) := by decide +kernel
theorem dX2_digest_40 : decode cX2_digest 40 = .ok (.istore 4, 2) := by decide +kernel
theorem dX2_digest_42 : decode cX2_digest 42 = .ok (.iload 4, 2) := by decide +kernel
theorem dX2_digest_44 : decode cX2_digest 44 = .ok (.iconst 4, 1) := by decide +kernel
theorem dX2_digest_45 : decode cX2_digest 45 = .ok (.if_icmp .ge 24, 3) := by decide +kernel
theorem dX2_digest_48 : decode cX2_digest 48 = .ok (.lload_n 1, 1) := by decide +kernel
theorem dX2_digest_49 : decode cX2_digest 49 = .ok (.ldc2_w 202, 3) := by decide +kernel
theorem dX2_digest_52 : decode cX2_digest 52 = .ok (.lmul, 1) := by decide +kernel
theorem dX2_digest_53 : decode cX2_digest 53 = .ok (.aload_n 0, 1) := by decide +kernel
theorem dX2_digest_54 : decode cX2_digest 54 = .ok (.iload_n 3, 1) := by decide +kernel
theorem dX2_digest_55 : decode cX2_digest 55 = .ok (.iload 4, 2) := by decide +kernel
theorem dX2_digest_57 : decode cX2_digest 57 = .ok (.invokevirtual 168, 3) := by decide +kernel
theorem dX2_digest_60 : decode cX2_digest 60 = .ok (.i2l, 1) := by decide +kernel
theorem dX2_digest_61 : decode cX2_digest 61 = .ok (.ladd, 1) := by decide +kernel
theorem dX2_digest_62 : decode cX2_digest 62 = .ok (.lstore_n 1, 1) := by decide +kernel
theorem dX2_digest_63 : decode cX2_digest 63 = .ok (.iinc 4 1, 3) := by decide +kernel
theorem dX2_digest_66 : decode cX2_digest 66 = .ok (.goto (-24), 3) := by decide +kernel
theorem dX2_digest_69 : decode cX2_digest 69 = .ok (.iinc 3 1, 3) := by decide +kernel
theorem dX2_digest_72 : decode cX2_digest 72 = .ok (.goto (-39), 3) := by decide +kernel
theorem dX2_digest_75 : decode cX2_digest 75 = .ok (.iconst 0, 1) := by decide +kernel
theorem dX2_digest_76 : decode cX2_digest 76 = .ok (.istore_n 3, 1) := by decide +kernel
theorem dX2_digest_77 : decode cX2_digest 77 = .ok (.iload_n 3, 1) := by decide +kernel
theorem dX2_digest_78 : decode cX2_digest 78 = .ok (.aload_n 0, 1) := by decide +kernel
theorem dX2_digest_79 : decode cX2_digest 79 = .ok (.getfield 18, 3) := by decide +kernel
theorem dX2_digest_82 : decode cX2_digest 82 = .ok (.invokevirtual 32, 3) := by decide +kernel
theorem dX2_digest_85 : decode cX2_digest 85 = .ok (.if_icmp .ge 49, 3) := by decide +kernel
theorem dX2_digest_88 : decode cX2_digest 88 = .ok (.iconst 0, 1) := by decide +kernel
theorem dX2_digest_89 : decode cX2_digest 89 = .ok (.istore 4, 2) := by decide +kernel
theorem dX2_digest_91 : decode cX2_digest 91 = .ok (.iload 4, 2) := by decide +kernel
theorem dX2_digest_93 : decode cX2_digest 93 = .ok (.iconst 5, 1) := by decide +kernel
theorem dX2_digest_94 : decode cX2_digest 94 = .ok (.if_icmp .ge 34, 3) := by decide +kernel
theorem dX2_digest_97 : decode cX2_digest 97 = .ok (.lload_n 1, 1) := by decide +kernel
theorem dX2_digest_98 : decode cX2_digest 98 = .ok (.ldc2_w 202, 3) := by decide +kernel
theorem dX2_digest_101 : decode cX2_digest 101 = .ok (.lmul, 1) := by decide +kernel
theorem dX2_digest_102 : decode cX2_digest 102 = .ok (.aload_n 0, 1) := by decide +kernel
theorem dX2_digest_103 : decode cX2_digest 103 = .ok (.aload_n 0, 1) := by decide +kernel
theorem dX2_digest_104 : decode cX2_digest 104 = .ok (.getfield 18, 3) := by decide +kernel
theorem dX2_digest_107 : decode cX2_digest 107 = .ok (.iload_n 3, 1) := by decide +kernel
theorem dX2_digest_108 : decode cX2_digest 108 = .ok (.invokevirtual 89, 3) := by decide +kernel
theorem dX2_digest_111 : decode cX2_digest 111 = .ok (.checkcast 9, 3) := by decide +kernel
theorem dX2_digest_114 : decode cX2_digest 114 = .ok (.iload 4, 2) := by decide +kernel
theorem dX2_digest_116 : decode cX2_digest 116 = .ok (.invokevirtual 176, 3) := by decide +kernel
theorem dX2_digest_119 : decode cX2_digest 119 = .ok (.i2l, 1) := by decide +kernel
theorem dX2_digest_120 : decode cX2_digest 120 = .ok (.ladd, 1) := by decide +kernel
theorem dX2_digest_121 : decode cX2_digest 121 = .ok (.lstore_n 1, 1) := by decide +kernel
theorem dX2_digest_122 : decode cX2_digest 122 = .ok (.iinc 4 1, 3) := by decide +kernel
theorem dX2_digest_125 : decode cX2_digest 125 = .ok (.goto (-34), 3) := by decide +kernel
theorem dX2_digest_128 : decode cX2_digest 128 = .ok (.iinc 3 1, 3) := by decide +kernel
theorem dX2_digest_131 : decode cX2_digest 131 = .ok (.goto (-54), 3) := by decide +kernel
theorem dX2_digest_134 : decode cX2_digest 134 = .ok (.iconst 0, 1) := by decide +kernel
theorem dX2_digest_135 : decode cX2_digest 135 = .ok (.istore_n 3, 1) := by decide +kernel
theorem dX2_digest_136 : decode cX2_digest 136 = .ok (.iload_n 3, 1) := by decide +kernel
theorem dX2_digest_137 : decode cX2_digest 137 = .ok (.aload_n 0, 1) := by decide +kernel
theorem dX2_digest_138 : decode cX2_digest 138 = .ok (.getfield 22, 3) := by decide +kernel
theorem dX2_digest_141 : decode cX2_digest 141 = .ok (.invokevirtual 32, 3) := by decide +kernel
theorem dX2_digest_144 : decode cX2_digest 144 = .ok (.if_icmp .ge 49, 3) := by decide +kernel
theorem dX2_digest_147 : decode cX2_digest 147 = .ok (.iconst 0, 1) := by decide +kernel
theorem dX2_digest_148 : decode cX2_digest 148 = .ok (.istore 4, 2) := by decide +kernel
theorem dX2_digest_150 : decode cX2_digest 150 = .ok (.iload 4, 2) := by decide +kernel
theorem dX2_digest_152 : decode cX2_digest 152 = .ok (.bipush 9, 2) := by decide +kernel
theorem dX2_digest_154 : decode cX2_digest 154 = .ok (.if_icmp .ge 33, 3) := by decide +kernel
theorem dX2_digest_157 : decode cX2_digest 157 = .ok (.lload_n 1, 1) := by decide +kernel
theorem dX2_digest_158 : decode cX2_digest 158 = .ok (.ldc2_w 202, 3) := by decide +kernel
theorem dX2_digest_161 : decode cX2_digest 161 = .ok (.lmul, 1) := by decide +kernel
theorem dX2_digest_162 : decode cX2_digest 162 = .ok (.aload_n 0, 1) := by decide +kernel
theorem dX2_digest_163 : decode cX2_digest 163 = .ok (.getfield 22, 3) := by decide +kernel
theorem dX2_digest_166 : decode cX2_digest 166 = .ok (.iload_n 3, 1) := by decide +kernel
theorem dX2_digest_167 : decode cX2_digest 167 = .ok (.invokevirtual 89, 3) := by decide +kernel
theorem dX2_digest_170 : decode cX2_digest 170 = .ok (.checkcast 81, 3) := by decide +kernel
theorem dX2_digest_173 : decode cX2_digest 173 = .ok (.iload 4, 2) := by decide +kernel
theorem dX2_digest_175 : decode cX2_digest 175 = .ok (.invokestatic 180, 3) := by decide +kernel
theorem dX2_digest_178 : decode cX2_digest 178 = .ok (.i2l, 1) := by decide +kernel
theorem dX2_digest_179 : decode cX2_digest 179 = .ok (.ladd, 1) := by decide +kernel
theorem dX2_digest_180 : decode cX2_digest 180 = .ok (.lstore_n 1, 1) := by decide +kernel
theorem dX2_digest_181 : decode cX2_digest 181 = .ok (.iinc 4 1, 3) := by decide +kernel
theorem dX2_digest_184 : decode cX2_digest 184 = .ok (.goto (-34), 3) := by decide +kernel
theorem dX2_digest_187 : decode cX2_digest 187 = .ok (.iinc 3 1, 3) := by decide +kernel
theorem dX2_digest_190 : decode cX2_digest 190 = .ok (.goto (-54), 3) := by decide +kernel
theorem dX2_digest_193 : decode cX2_digest 193 = .ok (.lload_n 1, 1) := by decide +kernel
theorem dX2_digest_194 : decode cX2_digest 194 = .ok (.lreturn, 1) := by decide +kernel
theorem dX2_isBetween_0 : decode cX2_isBetween 0 = .ok (.iload_n 0, 1) := by decide +kernel
theorem dX2_isBetween_1 : decode cX2_isBetween 1 = .ok (.iload_n 1, 1) := by decide +kernel
theorem dX2_isBetween_2 : decode cX2_isBetween 2 = .ok (.if_icmp .lt 12, 3) := by decide +kernel
theorem dX2_isBetween_5 : decode cX2_isBetween 5 = .ok (.iload_n 0, 1) := by decide +kernel
theorem dX2_isBetween_6 : decode cX2_isBetween 6 = .ok (.iload_n 2, 1) := by decide +kernel
theorem dX2_isBetween_7 : decode cX2_isBetween 7 = .ok (.if_icmp .gt 7, 3) := by decide +kernel
theorem dX2_isBetween_10 : decode cX2_isBetween 10 = .ok (.iconst 1, 1) := by decide +kernel
theorem dX2_isBetween_11 : decode cX2_isBetween 11 = .ok (.goto 4, 3) := by decide +kernel
theorem dX2_isBetween_14 : decode cX2_isBetween 14 = .ok (.iconst 0, 1) := by decide +kernel
theorem dX2_isBetween_15 : decode cX2_isBetween 15 = .ok (.ireturn, 1) := by decide +kernel
set_option maxRecDepth 20000 in
theorem ggX2_isPlace_X2_isBetween : GoodIn wsX2_isPlace wsX2_isBetween := goodIn_r _ [4] (by decide +kernel) (by decide +kernel)
set_option maxRecDepth 20000 in
theorem gX2_isPlace_X2_isBetween : GoodIn wsX2_isPlace (va_wsS RX2 68 yX2_isBetween wsX2_isBetween) := goodIn_app (goodIn_of _ (by decide +kernel)) ggX2_isPlace_X2_isBetween
theorem dX2_isPlace_0 : decode cX2_isPlace 0 = .ok (.iload_n 0, 1) := by decide +kernel
theorem dX2_isPlace_1 : decode cX2_isPlace 1 = .ok (.iconst 0, 1) := by decide +kernel
theorem dX2_isPlace_2 : decode cX2_isPlace 2 = .ok (.bipush 15, 2) := by decide +kernel
theorem dX2_isPlace_4 : decode cX2_isPlace 4 = .ok (.invokestatic 68, 3) := by decide +kernel
theorem dX2_isPlace_7 : decode cX2_isPlace 7 = .ok (.ireturn, 1) := by decide +kernel
set_option maxRecDepth 20000 in
theorem ggX2_requirePlace_X2_isPlace : GoodIn wsX2_requirePlace wsX2_isPlace := goodIn_r _ [6, 7, 8, 5, 9] (by decide +kernel) (by decide +kernel)
set_option maxRecDepth 20000 in
theorem gX2_requirePlace_X2_isPlace : GoodIn wsX2_requirePlace (va_wsS RX2 204 yX2_isPlace wsX2_isPlace) := goodIn_app (goodIn_of _ (by decide +kernel)) ggX2_requirePlace_X2_isPlace
theorem dX2_requirePlace_0 : decode cX2_requirePlace 0 = .ok (.iload_n 0, 1) := by decide +kernel
theorem dX2_requirePlace_1 : decode cX2_requirePlace 1 = .ok (.invokestatic 204, 3) := by decide +kernel
theorem dX2_requirePlace_4 : decode cX2_requirePlace 4 = .ok (.ifCond .ne 13, 3) := by decide +kernel
theorem dX2_requirePlace_7 : decode cX2_requirePlace 7 = .ok (.new 171, 3) := by decide +kernel
theorem dX2_requirePlace_10 : decode cX2_requirePlace 10 = .ok (.dup, 1) := by decide +kernel
theorem dX2_requirePlace_11 : decode cX2_requirePlace 11 = .ok (.ldc 207, 2) := by decide +kernel
theorem dX2_requirePlace_13 : decode cX2_requirePlace 13 = .ok (.invokespecial 175, 3) := by decide +kernel
theorem dX2_requirePlace_16 : decode cX2_requirePlace 16 = .ok (.athrow, 1) := by decide +kernel
theorem dX2_requirePlace_17 : decode cX2_requirePlace 17 = .ok (.return_, 1) := by decide +kernel
set_option maxRecDepth 20000 in
theorem ggX2_requireCrane_Jx4a65c_size_8abf5 : GoodIn wsX2_requireCrane wsJx4a65c_size_8abf5 := goodIn_r _ [8, 9, 18, 19, 20] (by decide +kernel) (by decide +kernel)
set_option maxRecDepth 20000 in
theorem gX2_requireCrane_Jx4a65c_size_8abf5 : GoodIn wsX2_requireCrane (wsV RX2 32 RJx4a65c yJx4a65c_size_8abf5 wsJx4a65c_size_8abf5) := goodIn_app (goodIn_of _ (by decide +kernel)) ggX2_requireCrane_Jx4a65c_size_8abf5
set_option maxRecDepth 20000 in
theorem ggX2_requireCrane_X2_isBetween : GoodIn wsX2_requireCrane wsX2_isBetween := goodIn_r _ [13] (by decide +kernel) (by decide +kernel)
set_option maxRecDepth 20000 in
theorem gX2_requireCrane_X2_isBetween : GoodIn wsX2_requireCrane (va_wsS RX2 68 yX2_isBetween wsX2_isBetween) := goodIn_app (goodIn_of _ (by decide +kernel)) ggX2_requireCrane_X2_isBetween
theorem dX2_requireCrane_0 : decode cX2_requireCrane 0 = .ok (.iload_n 1, 1) := by decide +kernel
theorem dX2_requireCrane_1 : decode cX2_requireCrane 1 = .ok (.iconst 0, 1) := by decide +kernel
theorem dX2_requireCrane_2 : decode cX2_requireCrane 2 = .ok (.aload_n 0, 1) := by decide +kernel
theorem dX2_requireCrane_3 : decode cX2_requireCrane 3 = .ok (.getfield 22, 3) := by decide +kernel
theorem dX2_requireCrane_6 : decode cX2_requireCrane 6 = .ok (.invokevirtual 32, 3) := by decide +kernel
theorem dX2_requireCrane_9 : decode cX2_requireCrane 9 = .ok (.iconst 1, 1) := by decide +kernel
theorem dX2_requireCrane_10 : decode cX2_requireCrane 10 = .ok (.isub, 1) := by decide +kernel
theorem dX2_requireCrane_11 : decode cX2_requireCrane 11 = .ok (.invokestatic 68, 3) := by decide +kernel
theorem dX2_requireCrane_14 : decode cX2_requireCrane 14 = .ok (.ifCond .ne 13, 3) := by decide +kernel
theorem dX2_requireCrane_17 : decode cX2_requireCrane 17 = .ok (.new 171, 3) := by decide +kernel
theorem dX2_requireCrane_20 : decode cX2_requireCrane 20 = .ok (.dup, 1) := by decide +kernel
theorem dX2_requireCrane_21 : decode cX2_requireCrane 21 = .ok (.ldc 209, 2) := by decide +kernel
theorem dX2_requireCrane_23 : decode cX2_requireCrane 23 = .ok (.invokespecial 175, 3) := by decide +kernel
theorem dX2_requireCrane_26 : decode cX2_requireCrane 26 = .ok (.athrow, 1) := by decide +kernel
theorem dX2_requireCrane_27 : decode cX2_requireCrane 27 = .ok (.return_, 1) := by decide +kernel
set_option maxRecDepth 20000 in
theorem ggX2_requireAnswer_X2_isBetween : GoodIn wsX2_requireAnswer wsX2_isBetween := goodIn_r _ [6] (by decide +kernel) (by decide +kernel)
set_option maxRecDepth 20000 in
theorem gX2_requireAnswer_X2_isBetween : GoodIn wsX2_requireAnswer (va_wsS RX2 68 yX2_isBetween wsX2_isBetween) := goodIn_app (goodIn_of _ (by decide +kernel)) ggX2_requireAnswer_X2_isBetween
theorem dX2_requireAnswer_0 : decode cX2_requireAnswer 0 = .ok (.iload_n 0, 1) := by decide +kernel
theorem dX2_requireAnswer_1 : decode cX2_requireAnswer 1 = .ok (.iconst 0, 1) := by decide +kernel
theorem dX2_requireAnswer_2 : decode cX2_requireAnswer 2 = .ok (.iload_n 1, 1) := by decide +kernel
theorem dX2_requireAnswer_3 : decode cX2_requireAnswer 3 = .ok (.iconst 1, 1) := by decide +kernel
theorem dX2_requireAnswer_4 : decode cX2_requireAnswer 4 = .ok (.isub, 1) := by decide +kernel
theorem dX2_requireAnswer_5 : decode cX2_requireAnswer 5 = .ok (.invokestatic 68, 3) := by decide +kernel
theorem dX2_requireAnswer_8 : decode cX2_requireAnswer 8 = .ok (.ifCond .ne 13, 3) := by decide +kernel
theorem dX2_requireAnswer_11 : decode cX2_requireAnswer 11 = .ok (.new 171, 3) := by decide +kernel
theorem dX2_requireAnswer_14 : decode cX2_requireAnswer 14 = .ok (.dup, 1) := by decide +kernel
theorem dX2_requireAnswer_15 : decode cX2_requireAnswer 15 = .ok (.ldc 211, 2) := by decide +kernel
theorem dX2_requireAnswer_17 : decode cX2_requireAnswer 17 = .ok (.invokespecial 175, 3) := by decide +kernel
theorem dX2_requireAnswer_20 : decode cX2_requireAnswer 20 = .ok (.athrow, 1) := by decide +kernel
theorem dX2_requireAnswer_21 : decode cX2_requireAnswer 21 = .ok (.return_, 1) := by decide +kernel
set_option maxRecDepth 20000 in
theorem ggX2_requireWeight_X2_isBetween : GoodIn wsX2_requireWeight wsX2_isBetween := goodIn_r _ [6] (by decide +kernel) (by decide +kernel)
set_option maxRecDepth 20000 in
theorem gX2_requireWeight_X2_isBetween : GoodIn wsX2_requireWeight (va_wsS RX2 68 yX2_isBetween wsX2_isBetween) := goodIn_app (goodIn_of _ (by decide +kernel)) ggX2_requireWeight_X2_isBetween
theorem dX2_requireWeight_0 : decode cX2_requireWeight 0 = .ok (.iload_n 0, 1) := by decide +kernel
theorem dX2_requireWeight_1 : decode cX2_requireWeight 1 = .ok (.iconst 1, 1) := by decide +kernel
theorem dX2_requireWeight_2 : decode cX2_requireWeight 2 = .ok (.bipush 60, 2) := by decide +kernel
theorem dX2_requireWeight_4 : decode cX2_requireWeight 4 = .ok (.invokestatic 68, 3) := by decide +kernel
theorem dX2_requireWeight_7 : decode cX2_requireWeight 7 = .ok (.ifCond .ne 13, 3) := by decide +kernel
theorem dX2_requireWeight_10 : decode cX2_requireWeight 10 = .ok (.new 71, 3) := by decide +kernel
theorem dX2_requireWeight_13 : decode cX2_requireWeight 13 = .ok (.dup, 1) := by decide +kernel
theorem dX2_requireWeight_14 : decode cX2_requireWeight 14 = .ok (.ldc 213, 2) := by decide +kernel
theorem dX2_requireWeight_16 : decode cX2_requireWeight 16 = .ok (.invokespecial 75, 3) := by decide +kernel
theorem dX2_requireWeight_19 : decode cX2_requireWeight 19 = .ok (.athrow, 1) := by decide +kernel
theorem dX2_requireWeight_20 : decode cX2_requireWeight 20 = .ok (.return_, 1) := by decide +kernel
set_option maxRecDepth 20000 in
theorem ggX2_requireWalkers_X2_isBetween : GoodIn wsX2_requireWalkers wsX2_isBetween := goodIn_r _ [6] (by decide +kernel) (by decide +kernel)
set_option maxRecDepth 20000 in
theorem gX2_requireWalkers_X2_isBetween : GoodIn wsX2_requireWalkers (va_wsS RX2 68 yX2_isBetween wsX2_isBetween) := goodIn_app (goodIn_of _ (by decide +kernel)) ggX2_requireWalkers_X2_isBetween
theorem dX2_requireWalkers_0 : decode cX2_requireWalkers 0 = .ok (.iload_n 0, 1) := by decide +kernel
theorem dX2_requireWalkers_1 : decode cX2_requireWalkers 1 = .ok (.iconst 0, 1) := by decide +kernel
theorem dX2_requireWalkers_2 : decode cX2_requireWalkers 2 = .ok (.bipush 8, 2) := by decide +kernel
theorem dX2_requireWalkers_4 : decode cX2_requireWalkers 4 = .ok (.invokestatic 68, 3) := by decide +kernel
theorem dX2_requireWalkers_7 : decode cX2_requireWalkers 7 = .ok (.ifCond .ne 13, 3) := by decide +kernel
theorem dX2_requireWalkers_10 : decode cX2_requireWalkers 10 = .ok (.new 71, 3) := by decide +kernel
theorem dX2_requireWalkers_13 : decode cX2_requireWalkers 13 = .ok (.dup, 1) := by decide +kernel
theorem dX2_requireWalkers_14 : decode cX2_requireWalkers 14 = .ok (.ldc 215, 2) := by decide +kernel
theorem dX2_requireWalkers_16 : decode cX2_requireWalkers 16 = .ok (.invokespecial 75, 3) := by decide +kernel
theorem dX2_requireWalkers_19 : decode cX2_requireWalkers 19 = .ok (.athrow, 1) := by decide +kernel
theorem dX2_requireWalkers_20 : decode cX2_requireWalkers 20 = .ok (.return_, 1) := by decide +kernel
theorem dX2_distance_0 : decode cX2_distance 0 = .ok (.iload_n 0, 1) := by decide +kernel
theorem dX2_distance_1 : decode cX2_distance 1 = .ok (.iload_n 1, 1) := by decide +kernel
theorem dX2_distance_2 : decode cX2_distance 2 = .ok (.isub, 1) := by decide +kernel
theorem dX2_distance_3 : decode cX2_distance 3 = .ok (.invokestatic 217, 3) := by decide +kernel
theorem dX2_distance_6 : decode cX2_distance 6 = .ok (.ireturn, 1) := by decide +kernel
set_option maxRecDepth 20000 in
theorem ggX2_uppermostAt_X2_isPlace : GoodIn wsX2_uppermostAt wsX2_isPlace := goodIn_r _ [5, 6, 7, 4, 8] (by decide +kernel) (by decide +kernel)
set_option maxRecDepth 20000 in
theorem gX2_uppermostAt_X2_isPlace : GoodIn wsX2_uppermostAt (va_wsS RX2 204 yX2_isPlace wsX2_isPlace) := goodIn_app (goodIn_of _ (by decide +kernel)) ggX2_uppermostAt_X2_isPlace
theorem dX2_uppermostAt_0 : decode cX2_uppermostAt 0 = .ok (.iload_n 1, 1) := by decide +kernel
theorem dX2_uppermostAt_1 : decode cX2_uppermostAt 1 = .ok (.invokestatic 204, 3) := by decide +kernel
theorem dX2_uppermostAt_4 : decode cX2_uppermostAt 4 = .ok (.ifCond .eq 12, 3) := by decide +kernel
theorem dX2_uppermostAt_7 : decode cX2_uppermostAt 7 = .ok (.aload_n 0, 1) := by decide +kernel
theorem dX2_uppermostAt_8 : decode cX2_uppermostAt 8 = .ok (.getfield 11, 3) := by decide +kernel
theorem dX2_uppermostAt_11 : decode cX2_uppermostAt 11 = .ok (.iload_n 1, 1) := by decide +kernel
theorem dX2_uppermostAt_12 : decode cX2_uppermostAt 12 = .ok (.aaload, 1) := by decide +kernel
theorem dX2_uppermostAt_13 : decode cX2_uppermostAt 13 = .ok (.goto 4, 3) := by decide +kernel
theorem dX2_uppermostAt_16 : decode cX2_uppermostAt 16 = .ok (.aconst_null, 1) := by decide +kernel
theorem dX2_uppermostAt_17 : decode cX2_uppermostAt 17 = .ok (.areturn, 1) := by decide +kernel
set_option maxRecDepth 20000 in
theorem ggX2_heightOf_X2_uppermostAt : GoodIn wsX2_heightOf wsX2_uppermostAt := goodIn_r _ [6, 7, 8, 9, 5, 10, 11, 12, 13, 21, 22, 23, 24] (by decide +kernel) (by decide +kernel)
set_option maxRecDepth 20000 in
theorem gX2_heightOf_X2_uppermostAt : GoodIn wsX2_heightOf (wsV RX2 149 RX2 yX2_uppermostAt wsX2_uppermostAt) := goodIn_app (goodIn_of _ (by decide +kernel)) ggX2_heightOf_X2_uppermostAt
theorem dX2_heightOf_0 : decode cX2_heightOf 0 = .ok (.aload_n 0, 1) := by decide +kernel
theorem dX2_heightOf_1 : decode cX2_heightOf 1 = .ok (.iload_n 1, 1) := by decide +kernel
theorem dX2_heightOf_2 : decode cX2_heightOf 2 = .ok (.invokevirtual 149, 3) := by decide +kernel
theorem dX2_heightOf_5 : decode cX2_heightOf 5 = .ok (.astore_n 2, 1) := by decide +kernel
theorem dX2_heightOf_6 : decode cX2_heightOf 6 = .ok (.aload_n 2, 1) := by decide +kernel
theorem dX2_heightOf_7 : decode cX2_heightOf 7 = .ok (.ifnonnull 7, 3) := by decide +kernel
theorem dX2_heightOf_10 : decode cX2_heightOf 10 = .ok (.iconst 0, 1) := by decide +kernel
theorem dX2_heightOf_11 : decode cX2_heightOf 11 = .ok (.goto 9, 3) := by decide +kernel
theorem dX2_heightOf_14 : decode cX2_heightOf 14 = .ok (.aload_n 2, 1) := by decide +kernel
theorem dX2_heightOf_15 : decode cX2_heightOf 15 = .ok (.getfield 222, 3) := by decide +kernel
theorem dX2_heightOf_18 : decode cX2_heightOf 18 = .ok (.iconst 1, 1) := by decide +kernel
theorem dX2_heightOf_19 : decode cX2_heightOf 19 = .ok (.iadd, 1) := by decide +kernel
theorem dX2_heightOf_20 : decode cX2_heightOf 20 = .ok (.ireturn, 1) := by decide +kernel
set_option maxRecDepth 20000 in
theorem ggX2_highestBetween_X2_isBetween : GoodIn wsX2_highestBetween wsX2_isBetween := goodIn_r _ [11] (by decide +kernel) (by decide +kernel)
set_option maxRecDepth 20000 in
theorem gX2_highestBetween_X2_isBetween : GoodIn wsX2_highestBetween (va_wsS RX2 68 yX2_isBetween wsX2_isBetween) := goodIn_app (goodIn_of _ (by decide +kernel)) ggX2_highestBetween_X2_isBetween
set_option maxRecDepth 20000 in
theorem ggX2_highestBetween_X2_heightOf : GoodIn wsX2_highestBetween wsX2_heightOf := goodIn_r _ [15, 16, 17, 18, 19, 10, 20, 21, 22, 23, 24, 8, 9, 11, 25, 26, 27, 28, 29, 30, 31, 32, 33, 34, 35] (by decide +kernel) (by decide +kernel)
set_option maxRecDepth 20000 in
theorem gX2_highestBetween_X2_heightOf : GoodIn wsX2_highestBetween (wsV RX2 36 RX2 yX2_heightOf wsX2_heightOf) := goodIn_app (goodIn_of _ (by decide +kernel)) ggX2_highestBetween_X2_heightOf
theorem dX2_highestBetween_0 : decode cX2_highestBetween 0 = .ok (.iconst 0, 1) := by decide +kernel
theorem dX2_highestBetween_1 : decode cX2_highestBetween 1 = .ok (.istore_n 3, 1) := by decide +kernel
theorem dX2_highestBetween_2 : decode cX2_highestBetween 2 = .ok (.iconst 0, 1) := by decide +kernel
theorem dX2_highestBetween_3 : decode cX2_highestBetween 3 = .ok (.istore 4, 2) := by decide +kernel
theorem dX2_highestBetween_5 : decode cX2_highestBetween 5 = .ok (.iload 4, 2) := by decide +kernel
theorem dX2_highestBetween_7 : decode cX2_highestBetween 7 = .ok (.bipush 16, 2) := by decide +kernel
theorem dX2_highestBetween_9 : decode cX2_highestBetween 9 = .ok (.if_icmp .ge 38, 3) := by decide +kernel
theorem dX2_highestBetween_12 : decode cX2_highestBetween 12 = .ok (.iload 4, 2) := by decide +kernel
theorem dX2_highestBetween_14 : decode cX2_highestBetween 14 = .ok (.iload_n 1, 1) := by decide +kernel
theorem dX2_highestBetween_15 : decode cX2_highestBetween 15 = .ok (.iload_n 2, 1) := by decide +kernel
theorem dX2_highestBetween_16 : decode cX2_highestBetween 16 = .ok (.invokestatic 225, 3) := by decide +kernel
theorem dX2_highestBetween_19 : decode cX2_highestBetween 19 = .ok (.iload_n 1, 1) := by decide +kernel
theorem dX2_highestBetween_20 : decode cX2_highestBetween 20 = .ok (.iload_n 2, 1) := by decide +kernel
theorem dX2_highestBetween_21 : decode cX2_highestBetween 21 = .ok (.invokestatic 228, 3) := by decide +kernel
theorem dX2_highestBetween_24 : decode cX2_highestBetween 24 = .ok (.invokestatic 68, 3) := by decide +kernel
theorem dX2_highestBetween_27 : decode cX2_highestBetween 27 = .ok (.ifCond .eq 14, 3) := by decide +kernel
theorem dX2_highestBetween_30 : decode cX2_highestBetween 30 = .ok (.iload_n 3, 1) := by decide +kernel
theorem dX2_highestBetween_31 : decode cX2_highestBetween 31 = .ok (.aload_n 0, 1) := by decide +kernel
theorem dX2_highestBetween_32 : decode cX2_highestBetween 32 = .ok (.iload 4, 2) := by decide +kernel
theorem dX2_highestBetween_34 : decode cX2_highestBetween 34 = .ok (.invokevirtual 36, 3) := by decide +kernel
theorem dX2_highestBetween_37 : decode cX2_highestBetween 37 = .ok (.invokestatic 228, 3) := by decide +kernel
theorem dX2_highestBetween_40 : decode cX2_highestBetween 40 = .ok (.istore_n 3, 1) := by decide +kernel
theorem dX2_highestBetween_41 : decode cX2_highestBetween 41 = .ok (.iinc 4 1, 3) := by decide +kernel
theorem dX2_highestBetween_44 : decode cX2_highestBetween 44 = .ok (.goto (-39), 3) := by decide +kernel
theorem dX2_highestBetween_47 : decode cX2_highestBetween 47 = .ok (.iload_n 3, 1) := by decide +kernel
theorem dX2_highestBetween_48 : decode cX2_highestBetween 48 = .ok (.ireturn, 1) := by decide +kernel
set_option maxRecDepth 20000 in
theorem ggX2_putUpon_X2_isPlace : GoodIn wsX2_putUpon wsX2_isPlace := goodIn_r _ [8, 9, 10, 7, 11] (by decide +kernel) (by decide +kernel)
set_option maxRecDepth 20000 in
theorem gX2_putUpon_X2_isPlace : GoodIn wsX2_putUpon (va_wsS RX2 204 yX2_isPlace wsX2_isPlace) := goodIn_app (goodIn_of _ (by decide +kernel)) ggX2_putUpon_X2_isPlace
set_option maxRecDepth 20000 in
theorem ggX2_putUpon_X2_heightOf : GoodIn wsX2_putUpon wsX2_heightOf := goodIn_r _ [15, 2, 16, 17, 18, 7, 19, 3, 5, 6, 8, 9, 10, 11, 20, 21, 22, 23, 24, 25, 26, 27, 28, 29, 30] (by decide +kernel) (by decide +kernel)
set_option maxRecDepth 20000 in
theorem gX2_putUpon_X2_heightOf : GoodIn wsX2_putUpon (wsV RX2 36 RX2 yX2_heightOf wsX2_heightOf) := goodIn_app (goodIn_of _ (by decide +kernel)) ggX2_putUpon_X2_heightOf
theorem dX2_putUpon_0 : decode cX2_putUpon 0 = .ok (.iload_n 1, 1) := by decide +kernel
theorem dX2_putUpon_1 : decode cX2_putUpon 1 = .ok (.invokestatic 204, 3) := by decide +kernel
theorem dX2_putUpon_4 : decode cX2_putUpon 4 = .ok (.ifCond .eq 34, 3) := by decide +kernel
theorem dX2_putUpon_7 : decode cX2_putUpon 7 = .ok (.aload_n 2, 1) := by decide +kernel
theorem dX2_putUpon_8 : decode cX2_putUpon 8 = .ok (.iload_n 1, 1) := by decide +kernel
theorem dX2_putUpon_9 : decode cX2_putUpon 9 = .ok (.putfield 193, 3) := by decide +kernel
theorem dX2_putUpon_12 : decode cX2_putUpon 12 = .ok (.aload_n 2, 1) := by decide +kernel
theorem dX2_putUpon_13 : decode cX2_putUpon 13 = .ok (.aload_n 0, 1) := by decide +kernel
theorem dX2_putUpon_14 : decode cX2_putUpon 14 = .ok (.iload_n 1, 1) := by decide +kernel
theorem dX2_putUpon_15 : decode cX2_putUpon 15 = .ok (.invokevirtual 36, 3) := by decide +kernel
theorem dX2_putUpon_18 : decode cX2_putUpon 18 = .ok (.putfield 222, 3) := by decide +kernel
theorem dX2_putUpon_21 : decode cX2_putUpon 21 = .ok (.aload_n 2, 1) := by decide +kernel
theorem dX2_putUpon_22 : decode cX2_putUpon 22 = .ok (.aload_n 0, 1) := by decide +kernel
theorem dX2_putUpon_23 : decode cX2_putUpon 23 = .ok (.getfield 11, 3) := by decide +kernel
theorem dX2_putUpon_26 : decode cX2_putUpon 26 = .ok (.iload_n 1, 1) := by decide +kernel
theorem dX2_putUpon_27 : decode cX2_putUpon 27 = .ok (.aaload, 1) := by decide +kernel
theorem dX2_putUpon_28 : decode cX2_putUpon 28 = .ok (.putfield 231, 3) := by decide +kernel
theorem dX2_putUpon_31 : decode cX2_putUpon 31 = .ok (.aload_n 0, 1) := by decide +kernel
theorem dX2_putUpon_32 : decode cX2_putUpon 32 = .ok (.getfield 11, 3) := by decide +kernel
theorem dX2_putUpon_35 : decode cX2_putUpon 35 = .ok (.iload_n 1, 1) := by decide +kernel
theorem dX2_putUpon_36 : decode cX2_putUpon 36 = .ok (.aload_n 2, 1) := by decide +kernel
theorem dX2_putUpon_37 : decode cX2_putUpon 37 = .ok (.aastore, 1) := by decide +kernel
theorem dX2_putUpon_38 : decode cX2_putUpon 38 = .ok (.return_, 1) := by decide +kernel
set_option maxRecDepth 20000 in
theorem ggX2_removeUppermost_X2_uppermostAt : GoodIn wsX2_removeUppermost wsX2_uppermostAt := goodIn_r _ [8, 1, 9, 10, 7, 11, 12, 13, 14, 15, 16, 17, 18] (by decide +kernel) (by decide +kernel)
set_option maxRecDepth 20000 in
theorem gX2_removeUppermost_X2_uppermostAt : GoodIn wsX2_removeUppermost (wsV RX2 149 RX2 yX2_uppermostAt wsX2_uppermostAt) := goodIn_app (goodIn_of _ (by decide +kernel)) ggX2_removeUppermost_X2_uppermostAt
set_option maxRecDepth 20000 in
theorem ggX2_removeUppermost_X2_isPlace : GoodIn wsX2_removeUppermost wsX2_isPlace := goodIn_r _ [11, 12, 13, 7, 14] (by decide +kernel) (by decide +kernel)
set_option maxRecDepth 20000 in
theorem gX2_removeUppermost_X2_isPlace : GoodIn wsX2_removeUppermost (va_wsS RX2 204 yX2_isPlace wsX2_isPlace) := goodIn_app (goodIn_of _ (by decide +kernel)) ggX2_removeUppermost_X2_isPlace
theorem dX2_removeUppermost_0 : decode cX2_removeUppermost 0 = .ok (.aload_n 0, 1) := by decide +kernel
theorem dX2_removeUppermost_1 : decode cX2_removeUppermost 1 = .ok (.iload_n 1, 1) := by decide +kernel
theorem dX2_removeUppermost_2 : decode cX2_removeUppermost 2 = .ok (.invokevirtual 149, 3) := by decide +kernel
theorem dX2_removeUppermost_5 : decode cX2_removeUppermost 5 = .ok (.astore_n 2, 1) := by decide +kernel
theorem dX2_removeUppermost_6 : decode cX2_removeUppermost 6 = .ok (.aload_n 2, 1) := by decide +kernel
theorem dX2_removeUppermost_7 : decode cX2_removeUppermost 7 = .ok (.ifnull 25, 3) := by decide +kernel
theorem dX2_removeUppermost_10 : decode cX2_removeUppermost 10 = .ok (.iload_n 1, 1) := by decide +kernel
theorem dX2_removeUppermost_11 : decode cX2_removeUppermost 11 = .ok (.invokestatic 204, 3) := by decide +kernel
theorem dX2_removeUppermost_14 : decode cX2_removeUppermost 14 = .ok (.ifCond .eq 18, 3) := by decide +kernel
theorem dX2_removeUppermost_17 : decode cX2_removeUppermost 17 = .ok (.aload_n 0, 1) := by decide +kernel
theorem dX2_removeUppermost_18 : decode cX2_removeUppermost 18 = .ok (.getfield 11, 3) := by decide +kernel
theorem dX2_removeUppermost_21 : decode cX2_removeUppermost 21 = .ok (.iload_n 1, 1) := by decide +kernel
theorem dX2_removeUppermost_22 : decode cX2_removeUppermost 22 = .ok (.aload_n 2, 1) := by decide +kernel
theorem dX2_removeUppermost_23 : decode cX2_removeUppermost 23 = .ok (.getfield 231, 3) := by decide +kernel
theorem dX2_removeUppermost_26 : decode cX2_removeUppermost 26 = .ok (.aastore, 1) := by decide +kernel
theorem dX2_removeUppermost_27 : decode cX2_removeUppermost 27 = .ok (.aload_n 2, 1) := by decide +kernel
theorem dX2_removeUppermost_28 : decode cX2_removeUppermost 28 = .ok (.iconst (-1), 1) := by decide +kernel
theorem dX2_removeUppermost_29 : decode cX2_removeUppermost 29 = .ok (.putfield 193, 3) := by decide +kernel
theorem dX2_removeUppermost_32 : decode cX2_removeUppermost 32 = .ok (.return_, 1) := by decide +kernel
set_option maxRecDepth 20000 in
theorem ggX2_hooksAllow_Jx4a65c_size_8abf5 : GoodIn wsX2_hooksAllow wsJx4a65c_size_8abf5 := goodIn_r _ [9, 10, 46, 47, 48] (by decide +kernel) (by decide +kernel)
set_option maxRecDepth 20000 in
theorem gX2_hooksAllow_Jx4a65c_size_8abf5 : GoodIn wsX2_hooksAllow (wsV RX2 32 RJx4a65c yJx4a65c_size_8abf5 wsJx4a65c_size_8abf5) := goodIn_app (goodIn_of _ (by decide +kernel)) ggX2_hooksAllow_Jx4a65c_size_8abf5
set_option maxRecDepth 20000 in
theorem ggX2_hooksAllow_Jx4a65c_get_915e3 : GoodIn wsX2_hooksAllow wsJx4a65c_get_915e3 := goodIn_r _ [14, 10, 15, 16, 17, 18, 19, 20, 21, 22, 23, 24, 25, 8, 26, 27, 46, 47, 48] (by decide +kernel) (by decide +kernel)
set_option maxRecDepth 20000 in
theorem gX2_hooksAllow_Jx4a65c_get_915e3 : GoodIn wsX2_hooksAllow (wsV RX2 89 RJx4a65c yJx4a65c_get_915e3 wsJx4a65c_get_915e3) := goodIn_app (goodIn_of _ (by decide +kernel)) ggX2_hooksAllow_Jx4a65c_get_915e3
set_option maxRecDepth 20000 in
theorem ggX2_hooksAllow_X1_lowestHook : GoodIn wsX2_hooksAllow wsX1_lowestHook := goodIn_r _ [32, 33, 38, 39, 40, 41, 42, 43, 44, 45] (by decide +kernel) (by decide +kernel)
set_option maxRecDepth 20000 in
theorem gX2_hooksAllow_X1_lowestHook : GoodIn wsX2_hooksAllow (wsV RX2 115 RX1 yX1_lowestHook wsX1_lowestHook) := goodIn_app (goodIn_of _ (by decide +kernel)) ggX2_hooksAllow_X1_lowestHook
theorem dX2_hooksAllow_0 : decode cX2_hooksAllow 0 = .ok (.iconst 0, 1) := by decide +kernel
theorem dX2_hooksAllow_1 : decode cX2_hooksAllow 1 = .ok (.istore 4, 2) := by decide +kernel
theorem dX2_hooksAllow_3 : decode cX2_hooksAllow 3 = .ok (.iload 4, 2) := by decide +kernel
theorem dX2_hooksAllow_5 : decode cX2_hooksAllow 5 = .ok (.aload_n 0, 1) := by decide +kernel
theorem dX2_hooksAllow_6 : decode cX2_hooksAllow 6 = .ok (.getfield 22, 3) := by decide +kernel
theorem dX2_hooksAllow_9 : decode cX2_hooksAllow 9 = .ok (.invokevirtual 32, 3) := by decide +kernel
theorem dX2_hooksAllow_12 : decode cX2_hooksAllow 12 = .ok (.if_icmp .ge 54, 3) := by decide +kernel
theorem dX2_hooksAllow_15 : decode cX2_hooksAllow 15 = .ok (.aload_n 0, 1) := by decide +kernel
theorem dX2_hooksAllow_16 : decode cX2_hooksAllow 16 = .ok (.getfield 22, 3) := by decide +kernel
theorem dX2_hooksAllow_19 : decode cX2_hooksAllow 19 = .ok (.iload 4, 2) := by decide +kernel
theorem dX2_hooksAllow_21 : decode cX2_hooksAllow 21 = .ok (.invokevirtual 89, 3) := by decide +kernel
theorem dX2_hooksAllow_24 : decode cX2_hooksAllow 24 = .ok (.checkcast 81, 3) := by decide +kernel
theorem dX2_hooksAllow_27 : decode cX2_hooksAllow 27 = .ok (.astore 5, 2) := by decide +kernel
theorem dX2_hooksAllow_29 : decode cX2_hooksAllow 29 = .ok (.iload 4, 2) := by decide +kernel
theorem dX2_hooksAllow_31 : decode cX2_hooksAllow 31 = .ok (.iload_n 3, 1) := by decide +kernel
theorem dX2_hooksAllow_32 : decode cX2_hooksAllow 32 = .ok (.if_icmp .eq 28, 3) := by decide +kernel
theorem dX2_hooksAllow_35 : decode cX2_hooksAllow 35 = .ok (.aload 5, 2) := by decide +kernel
theorem dX2_hooksAllow_37 : decode cX2_hooksAllow 37 = .ok (.getfield 108, 3) := by decide +kernel
theorem dX2_hooksAllow_40 : decode cX2_hooksAllow 40 = .ok (.iload_n 1, 1) := by decide +kernel
theorem dX2_hooksAllow_41 : decode cX2_hooksAllow 41 = .ok (.if_icmp .ne 19, 3) := by decide +kernel
theorem dX2_hooksAllow_44 : decode cX2_hooksAllow 44 = .ok (.aload 5, 2) := by decide +kernel
theorem dX2_hooksAllow_46 : decode cX2_hooksAllow 46 = .ok (.getfield 105, 3) := by decide +kernel
theorem dX2_hooksAllow_49 : decode cX2_hooksAllow 49 = .ok (.aload 5, 2) := by decide +kernel
theorem dX2_hooksAllow_51 : decode cX2_hooksAllow 51 = .ok (.iload_n 2, 1) := by decide +kernel
theorem dX2_hooksAllow_52 : decode cX2_hooksAllow 52 = .ok (.invokevirtual 115, 3) := by decide +kernel
theorem dX2_hooksAllow_55 : decode cX2_hooksAllow 55 = .ok (.if_icmp .ge 5, 3) := by decide +kernel
theorem dX2_hooksAllow_58 : decode cX2_hooksAllow 58 = .ok (.iconst 0, 1) := by decide +kernel
theorem dX2_hooksAllow_59 : decode cX2_hooksAllow 59 = .ok (.ireturn, 1) := by decide +kernel
theorem dX2_hooksAllow_60 : decode cX2_hooksAllow 60 = .ok (.iinc 4 1, 3) := by decide +kernel
theorem dX2_hooksAllow_63 : decode cX2_hooksAllow 63 = .ok (.goto (-60), 3) := by decide +kernel
theorem dX2_hooksAllow_66 : decode cX2_hooksAllow 66 = .ok (.iconst 1, 1) := by decide +kernel
theorem dX2_hooksAllow_67 : decode cX2_hooksAllow 67 = .ok (.ireturn, 1) := by decide +kernel
theorem dX2_wearInATick_0 : decode cX2_wearInATick 0 = .ok (.iload_n 0, 1) := by decide +kernel
theorem dX2_wearInATick_1 : decode cX2_wearInATick 1 = .ok (.bipush 20, 2) := by decide +kernel
theorem dX2_wearInATick_3 : decode cX2_wearInATick 3 = .ok (.idiv, 1) := by decide +kernel
theorem dX2_wearInATick_4 : decode cX2_wearInATick 4 = .ok (.iconst 1, 1) := by decide +kernel
theorem dX2_wearInATick_5 : decode cX2_wearInATick 5 = .ok (.iadd, 1) := by decide +kernel
theorem dX2_wearInATick_6 : decode cX2_wearInATick 6 = .ok (.ireturn, 1) := by decide +kernel
set_option maxRecDepth 20000 in
theorem ggX2_raiseHook_X1_ticksToWind : GoodIn wsX2_raiseHook wsX1_ticksToWind := goodIn_r _ [7, 8, 9, 10, 11, 12, 13, 14, 15, 16] (by decide +kernel) (by decide +kernel)
set_option maxRecDepth 20000 in
theorem gX2_raiseHook_X1_ticksToWind : GoodIn wsX2_raiseHook (wsV RX2 234 RX1 yX1_ticksToWind wsX1_ticksToWind) := goodIn_app (goodIn_of _ (by decide +kernel)) ggX2_raiseHook_X1_ticksToWind
theorem dX2_raiseHook_0 : decode cX2_raiseHook 0 = .ok (.aload_n 1, 1) := by decide +kernel
theorem dX2_raiseHook_1 : decode cX2_raiseHook 1 = .ok (.iload_n 2, 1) := by decide +kernel
theorem dX2_raiseHook_2 : decode cX2_raiseHook 2 = .ok (.aload_n 1, 1) := by decide +kernel
theorem dX2_raiseHook_3 : decode cX2_raiseHook 3 = .ok (.getfield 105, 3) := by decide +kernel
theorem dX2_raiseHook_6 : decode cX2_raiseHook 6 = .ok (.isub, 1) := by decide +kernel
theorem dX2_raiseHook_7 : decode cX2_raiseHook 7 = .ok (.invokevirtual 234, 3) := by decide +kernel
theorem dX2_raiseHook_10 : decode cX2_raiseHook 10 = .ok (.istore_n 3, 1) := by decide +kernel
theorem dX2_raiseHook_11 : decode cX2_raiseHook 11 = .ok (.aload_n 1, 1) := by decide +kernel
theorem dX2_raiseHook_12 : decode cX2_raiseHook 12 = .ok (.iload_n 2, 1) := by decide +kernel
theorem dX2_raiseHook_13 : decode cX2_raiseHook 13 = .ok (.putfield 105, 3) := by decide +kernel
theorem dX2_raiseHook_16 : decode cX2_raiseHook 16 = .ok (.aload_n 0, 1) := by decide +kernel
theorem dX2_raiseHook_17 : decode cX2_raiseHook 17 = .ok (.dup, 1) := by decide +kernel
theorem dX2_raiseHook_18 : decode cX2_raiseHook 18 = .ok (.getfield 123, 3) := by decide +kernel
theorem dX2_raiseHook_21 : decode cX2_raiseHook 21 = .ok (.iload_n 3, 1) := by decide +kernel
theorem dX2_raiseHook_22 : decode cX2_raiseHook 22 = .ok (.iadd, 1) := by decide +kernel
theorem dX2_raiseHook_23 : decode cX2_raiseHook 23 = .ok (.putfield 123, 3) := by decide +kernel
theorem dX2_raiseHook_26 : decode cX2_raiseHook 26 = .ok (.iload_n 3, 1) := by decide +kernel
theorem dX2_raiseHook_27 : decode cX2_raiseHook 27 = .ok (.ireturn, 1) := by decide +kernel
set_option maxRecDepth 20000 in
theorem ggX2_lowerHook_X1_ticksToWind : GoodIn wsX2_lowerHook wsX1_ticksToWind := goodIn_r _ [10, 11, 25, 26, 27, 28, 29, 30, 31, 32] (by decide +kernel) (by decide +kernel)
set_option maxRecDepth 20000 in
theorem gX2_lowerHook_X1_ticksToWind : GoodIn wsX2_lowerHook (wsV RX2 234 RX1 yX1_ticksToWind wsX1_ticksToWind) := goodIn_app (goodIn_of _ (by decide +kernel)) ggX2_lowerHook_X1_ticksToWind
set_option maxRecDepth 20000 in
theorem ggX2_lowerHook_X1_wornAfterLowering : GoodIn wsX2_lowerHook wsX1_wornAfterLowering := goodIn_r _ [15, 16, 17, 18, 19, 25, 26, 27, 28, 29, 30, 31, 32] (by decide +kernel) (by decide +kernel)
set_option maxRecDepth 20000 in
theorem gX2_lowerHook_X1_wornAfterLowering : GoodIn wsX2_lowerHook (wsV RX2 237 RX1 yX1_wornAfterLowering wsX1_wornAfterLowering) := goodIn_app (goodIn_of _ (by decide +kernel)) ggX2_lowerHook_X1_wornAfterLowering
set_option maxRecDepth 20000 in
theorem ggX2_lowerHook_X2_dropLoad : GoodIn wsX2_lowerHook wsX2_dropLoad := goodIn_r _ [22, 2, 23, 24, 4, 25, 26, 27, 28, 29, 30, 31, 32, 33, 34, 35, 36, 37, 38, 39] (by decide +kernel) (by decide +kernel)
set_option maxRecDepth 20000 in
theorem gX2_lowerHook_X2_dropLoad : GoodIn wsX2_lowerHook (va_wsS RX2 240 yX2_dropLoad wsX2_dropLoad) := goodIn_app (goodIn_of _ (by decide +kernel)) ggX2_lowerHook_X2_dropLoad
theorem dX2_lowerHook_0 : decode cX2_lowerHook 0 = .ok (.aload_n 1, 1) := by decide +kernel
theorem dX2_lowerHook_1 : decode cX2_lowerHook 1 = .ok (.aload_n 1, 1) := by decide +kernel
theorem dX2_lowerHook_2 : decode cX2_lowerHook 2 = .ok (.getfield 105, 3) := by decide +kernel
theorem dX2_lowerHook_5 : decode cX2_lowerHook 5 = .ok (.iload_n 2, 1) := by decide +kernel
theorem dX2_lowerHook_6 : decode cX2_lowerHook 6 = .ok (.isub, 1) := by decide +kernel
theorem dX2_lowerHook_7 : decode cX2_lowerHook 7 = .ok (.invokevirtual 234, 3) := by decide +kernel
theorem dX2_lowerHook_10 : decode cX2_lowerHook 10 = .ok (.istore_n 3, 1) := by decide +kernel
theorem dX2_lowerHook_11 : decode cX2_lowerHook 11 = .ok (.aload_n 1, 1) := by decide +kernel
theorem dX2_lowerHook_12 : decode cX2_lowerHook 12 = .ok (.getfield 130, 3) := by decide +kernel
theorem dX2_lowerHook_15 : decode cX2_lowerHook 15 = .ok (.astore 4, 2) := by decide +kernel
theorem dX2_lowerHook_17 : decode cX2_lowerHook 17 = .ok (.aload 4, 2) := by decide +kernel
theorem dX2_lowerHook_19 : decode cX2_lowerHook 19 = .ok (.ifnull 34, 3) := by decide +kernel
theorem dX2_lowerHook_22 : decode cX2_lowerHook 22 = .ok (.aload_n 1, 1) := by decide +kernel
theorem dX2_lowerHook_23 : decode cX2_lowerHook 23 = .ok (.aload 4, 2) := by decide +kernel
theorem dX2_lowerHook_25 : decode cX2_lowerHook 25 = .ok (.getfield 134, 3) := by decide +kernel
theorem dX2_lowerHook_28 : decode cX2_lowerHook 28 = .ok (.iload_n 3, 1) := by decide +kernel
theorem dX2_lowerHook_29 : decode cX2_lowerHook 29 = .ok (.invokevirtual 237, 3) := by decide +kernel
theorem dX2_lowerHook_32 : decode cX2_lowerHook 32 = .ok (.istore 5, 2) := by decide +kernel
theorem dX2_lowerHook_34 : decode cX2_lowerHook 34 = .ok (.iload 5, 2) := by decide +kernel
theorem dX2_lowerHook_36 : decode cX2_lowerHook 36 = .ok (.bipush 99, 2) := by decide +kernel
theorem dX2_lowerHook_38 : decode cX2_lowerHook 38 = .ok (.if_icmp .le 9, 3) := by decide +kernel
theorem dX2_lowerHook_41 : decode cX2_lowerHook 41 = .ok (.aload_n 1, 1) := by decide +kernel
theorem dX2_lowerHook_42 : decode cX2_lowerHook 42 = .ok (.invokestatic 240, 3) := by decide +kernel
theorem dX2_lowerHook_45 : decode cX2_lowerHook 45 = .ok (.iconst (-1), 1) := by decide +kernel
theorem dX2_lowerHook_46 : decode cX2_lowerHook 46 = .ok (.ireturn, 1) := by decide +kernel
theorem dX2_lowerHook_47 : decode cX2_lowerHook 47 = .ok (.aload_n 1, 1) := by decide +kernel
theorem dX2_lowerHook_48 : decode cX2_lowerHook 48 = .ok (.iload 5, 2) := by decide +kernel
theorem dX2_lowerHook_50 : decode cX2_lowerHook 50 = .ok (.putfield 96, 3) := by decide +kernel
theorem dX2_lowerHook_53 : decode cX2_lowerHook 53 = .ok (.aload_n 1, 1) := by decide +kernel
theorem dX2_lowerHook_54 : decode cX2_lowerHook 54 = .ok (.iload_n 2, 1) := by decide +kernel
theorem dX2_lowerHook_55 : decode cX2_lowerHook 55 = .ok (.putfield 105, 3) := by decide +kernel
theorem dX2_lowerHook_58 : decode cX2_lowerHook 58 = .ok (.aload_n 0, 1) := by decide +kernel
theorem dX2_lowerHook_59 : decode cX2_lowerHook 59 = .ok (.dup, 1) := by decide +kernel
theorem dX2_lowerHook_60 : decode cX2_lowerHook 60 = .ok (.getfield 123, 3) := by decide +kernel
theorem dX2_lowerHook_63 : decode cX2_lowerHook 63 = .ok (.iload_n 3, 1) := by decide +kernel
theorem dX2_lowerHook_64 : decode cX2_lowerHook 64 = .ok (.iadd, 1) := by decide +kernel
theorem dX2_lowerHook_65 : decode cX2_lowerHook 65 = .ok (.putfield 123, 3) := by decide +kernel
theorem dX2_lowerHook_68 : decode cX2_lowerHook 68 = .ok (.iload_n 3, 1) := by decide +kernel
theorem dX2_lowerHook_69 : decode cX2_lowerHook 69 = .ok (.ireturn, 1) := by decide +kernel
theorem dX2_dropLoad_0 : decode cX2_dropLoad 0 = .ok (.aload_n 0, 1) := by decide +kernel
theorem dX2_dropLoad_1 : decode cX2_dropLoad 1 = .ok (.getfield 130, 3) := by decide +kernel
theorem dX2_dropLoad_4 : decode cX2_dropLoad 4 = .ok (.astore_n 1, 1) := by decide +kernel
theorem dX2_dropLoad_5 : decode cX2_dropLoad 5 = .ok (.aload_n 1, 1) := by decide +kernel
theorem dX2_dropLoad_6 : decode cX2_dropLoad 6 = .ok (.ifnull 13, 3) := by decide +kernel
theorem dX2_dropLoad_9 : decode cX2_dropLoad 9 = .ok (.aload_n 1, 1) := by decide +kernel
theorem dX2_dropLoad_10 : decode cX2_dropLoad 10 = .ok (.iconst (-1), 1) := by decide +kernel
theorem dX2_dropLoad_11 : decode cX2_dropLoad 11 = .ok (.putfield 158, 3) := by decide +kernel
theorem dX2_dropLoad_14 : decode cX2_dropLoad 14 = .ok (.aload_n 1, 1) := by decide +kernel
theorem dX2_dropLoad_15 : decode cX2_dropLoad 15 = .ok (.iconst 1, 1) := by decide +kernel
theorem dX2_dropLoad_16 : decode cX2_dropLoad 16 = .ok (.putfield 196, 3) := by decide +kernel
theorem dX2_dropLoad_19 : decode cX2_dropLoad 19 = .ok (.aload_n 0, 1) := by decide +kernel
theorem dX2_dropLoad_20 : decode cX2_dropLoad 20 = .ok (.aconst_null, 1) := by decide +kernel
theorem dX2_dropLoad_21 : decode cX2_dropLoad 21 = .ok (.putfield 130, 3) := by decide +kernel
theorem dX2_dropLoad_24 : decode cX2_dropLoad 24 = .ok (.aload_n 0, 1) := by decide +kernel
theorem dX2_dropLoad_25 : decode cX2_dropLoad 25 = .ok (.bipush 99, 2) := by decide +kernel
theorem dX2_dropLoad_27 : decode cX2_dropLoad 27 = .ok (.putfield 96, 3) := by decide +kernel
theorem dX2_dropLoad_30 : decode cX2_dropLoad 30 = .ok (.return_, 1) := by decide +kernel
set_option maxRecDepth 20000 in
theorem ggX2_isFreeToMove_X1_reaches : GoodIn wsX2_isFreeToMove wsX1_reaches := goodIn_r _ [6, 7, 8, 9, 10, 11, 12, 13, 14, 15, 32, 33, 34, 35, 36, 37, 38, 39] (by decide +kernel) (by decide +kernel)
set_option maxRecDepth 20000 in
theorem gX2_isFreeToMove_X1_reaches : GoodIn wsX2_isFreeToMove (wsV RX2 99 RX1 yX1_reaches wsX1_reaches) := goodIn_app (goodIn_of _ (by decide +kernel)) ggX2_isFreeToMove_X1_reaches
set_option maxRecDepth 20000 in
theorem ggX2_isFreeToMove_X2_heightOf : GoodIn wsX2_isFreeToMove wsX2_heightOf := goodIn_r _ [19, 20, 21, 22, 23, 10, 24, 25, 26, 27, 28, 29, 30, 31, 40, 41, 42, 43, 44, 45, 46, 47, 48, 49, 50] (by decide +kernel) (by decide +kernel)
set_option maxRecDepth 20000 in
theorem gX2_isFreeToMove_X2_heightOf : GoodIn wsX2_isFreeToMove (wsV RX2 36 RX2 yX2_heightOf wsX2_heightOf) := goodIn_app (goodIn_of _ (by decide +kernel)) ggX2_isFreeToMove_X2_heightOf
theorem dX2_isFreeToMove_0 : decode cX2_isFreeToMove 0 = .ok (.aload_n 1, 1) := by decide +kernel
theorem dX2_isFreeToMove_1 : decode cX2_isFreeToMove 1 = .ok (.getfield 130, 3) := by decide +kernel
theorem dX2_isFreeToMove_4 : decode cX2_isFreeToMove 4 = .ok (.ifnonnull 38, 3) := by decide +kernel
theorem dX2_isFreeToMove_7 : decode cX2_isFreeToMove 7 = .ok (.iload_n 2, 1) := by decide +kernel
theorem dX2_isFreeToMove_8 : decode cX2_isFreeToMove 8 = .ok (.iload_n 3, 1) := by decide +kernel
theorem dX2_isFreeToMove_9 : decode cX2_isFreeToMove 9 = .ok (.if_icmp .eq 33, 3) := by decide +kernel
theorem dX2_isFreeToMove_12 : decode cX2_isFreeToMove 12 = .ok (.aload_n 1, 1) := by decide +kernel
theorem dX2_isFreeToMove_13 : decode cX2_isFreeToMove 13 = .ok (.iload_n 2, 1) := by decide +kernel
theorem dX2_isFreeToMove_14 : decode cX2_isFreeToMove 14 = .ok (.invokevirtual 99, 3) := by decide +kernel
theorem dX2_isFreeToMove_17 : decode cX2_isFreeToMove 17 = .ok (.ifCond .eq 25, 3) := by decide +kernel
theorem dX2_isFreeToMove_20 : decode cX2_isFreeToMove 20 = .ok (.aload_n 1, 1) := by decide +kernel
theorem dX2_isFreeToMove_21 : decode cX2_isFreeToMove 21 = .ok (.iload_n 3, 1) := by decide +kernel
theorem dX2_isFreeToMove_22 : decode cX2_isFreeToMove 22 = .ok (.invokevirtual 99, 3) := by decide +kernel
theorem dX2_isFreeToMove_25 : decode cX2_isFreeToMove 25 = .ok (.ifCond .eq 17, 3) := by decide +kernel
theorem dX2_isFreeToMove_28 : decode cX2_isFreeToMove 28 = .ok (.aload_n 0, 1) := by decide +kernel
theorem dX2_isFreeToMove_29 : decode cX2_isFreeToMove 29 = .ok (.iload_n 3, 1) := by decide +kernel
theorem dX2_isFreeToMove_30 : decode cX2_isFreeToMove 30 = .ok (.invokevirtual 36, 3) := by decide +kernel
theorem dX2_isFreeToMove_33 : decode cX2_isFreeToMove 33 = .ok (.bipush 8, 2) := by decide +kernel
theorem dX2_isFreeToMove_35 : decode cX2_isFreeToMove 35 = .ok (.if_icmp .ge 7, 3) := by decide +kernel
theorem dX2_isFreeToMove_38 : decode cX2_isFreeToMove 38 = .ok (.iconst 1, 1) := by decide +kernel
theorem dX2_isFreeToMove_39 : decode cX2_isFreeToMove 39 = .ok (.goto 4, 3) := by decide +kernel
theorem dX2_isFreeToMove_42 : decode cX2_isFreeToMove 42 = .ok (.iconst 0, 1) := by decide +kernel
theorem dX2_isFreeToMove_43 : decode cX2_isFreeToMove 43 = .ok (.ireturn, 1) := by decide +kernel
set_option maxRecDepth 20000 in
theorem ggX2_ticksToMove_X2_uppermostAt : GoodIn wsX2_ticksToMove wsX2_uppermostAt := goodIn_r _ [12, 13, 14, 15, 11, 16, 17, 18, 19, 86, 87, 88, 89] (by decide +kernel) (by decide +kernel)
set_option maxRecDepth 20000 in
theorem gX2_ticksToMove_X2_uppermostAt : GoodIn wsX2_ticksToMove (wsV RX2 149 RX2 yX2_uppermostAt wsX2_uppermostAt) := goodIn_app (goodIn_of _ (by decide +kernel)) ggX2_ticksToMove_X2_uppermostAt
set_option maxRecDepth 20000 in
theorem ggX2_ticksToMove_X1_canLift : GoodIn wsX2_ticksToMove wsX1_canLift := goodIn_r _ [24, 25, 26, 27, 23, 28, 29, 30, 78, 79, 80, 81, 82, 83, 84, 85] (by decide +kernel) (by decide +kernel)
set_option maxRecDepth 20000 in
theorem gX2_ticksToMove_X1_canLift : GoodIn wsX2_ticksToMove (wsV RX2 137 RX1 yX1_canLift wsX1_canLift) := goodIn_app (goodIn_of _ (by decide +kernel)) ggX2_ticksToMove_X1_canLift
set_option maxRecDepth 20000 in
theorem ggX2_ticksToMove_X2_isFreeToMove : GoodIn wsX2_ticksToMove wsX2_isFreeToMove := goodIn_r _ [34, 35, 36, 37, 38, 23, 39, 40, 41, 42, 11, 43, 44, 45, 6, 46, 47, 48, 49, 50, 51, 8, 9, 10, 12, 13, 14, 15, 16, 17, 18, 19, 78, 79, 80, 81, 82, 83, 84, 85, 71, 72, 73, 74, 75, 76, 77, 86, 87, 88, 89] (by decide +kernel) (by decide +kernel)
set_option maxRecDepth 20000 in
theorem gX2_ticksToMove_X2_isFreeToMove : GoodIn wsX2_ticksToMove (wsV RX2 244 RX2 yX2_isFreeToMove wsX2_isFreeToMove) := goodIn_app (goodIn_of _ (by decide +kernel)) ggX2_ticksToMove_X2_isFreeToMove
set_option maxRecDepth 20000 in
theorem ggX2_ticksToMove_X2_heightOf : GoodIn wsX2_ticksToMove wsX2_heightOf := goodIn_r _ [50, 51, 8, 9, 10, 11, 12, 13, 14, 15, 16, 17, 18, 19, 71, 72, 73, 74, 75, 76, 77, 86, 87, 88, 89] (by decide +kernel) (by decide +kernel)
set_option maxRecDepth 20000 in
theorem gX2_ticksToMove_X2_heightOf : GoodIn wsX2_ticksToMove (wsV RX2 36 RX2 yX2_heightOf wsX2_heightOf) := goodIn_app (goodIn_of _ (by decide +kernel)) ggX2_ticksToMove_X2_heightOf
set_option maxRecDepth 20000 in
theorem ggX2_ticksToMove_X2_highestBetween : GoodIn wsX2_ticksToMove wsX2_highestBetween := goodIn_r _ [55, 56, 57, 6, 58, 4, 5, 7, 17, 18, 11, 19, 47, 48, 49, 50, 51, 8, 9, 10, 12, 13, 14, 15, 16, 71, 72, 73, 74, 75, 76, 77, 86, 87, 88, 89] (by decide +kernel) (by decide +kernel)
set_option maxRecDepth 20000 in
theorem gX2_ticksToMove_X2_highestBetween : GoodIn wsX2_ticksToMove (wsV RX2 111 RX2 yX2_highestBetween wsX2_highestBetween) := goodIn_app (goodIn_of _ (by decide +kernel)) ggX2_ticksToMove_X2_highestBetween
set_option maxRecDepth 20000 in
theorem ggX2_ticksToMove_X1_ticksToWind : GoodIn wsX2_ticksToMove wsX1_ticksToWind := goodIn_r _ [62, 29, 78, 79, 80, 81, 82, 83, 84, 85] (by decide +kernel) (by decide +kernel)
set_option maxRecDepth 20000 in
theorem gX2_ticksToMove_X1_ticksToWind : GoodIn wsX2_ticksToMove (wsV RX2 234 RX1 yX1_ticksToWind wsX1_ticksToWind) := goodIn_app (goodIn_of _ (by decide +kernel)) ggX2_ticksToMove_X1_ticksToWind
set_option maxRecDepth 20000 in
theorem ggX2_ticksToMove_X1_wornAfterLowering : GoodIn wsX2_ticksToMove wsX1_wornAfterLowering := goodIn_r _ [66, 67, 68, 11, 69, 78, 79, 80, 81, 82, 83, 84, 85] (by decide +kernel) (by decide +kernel)
set_option maxRecDepth 20000 in
theorem gX2_ticksToMove_X1_wornAfterLowering : GoodIn wsX2_ticksToMove (wsV RX2 237 RX1 yX1_wornAfterLowering wsX1_wornAfterLowering) := goodIn_app (goodIn_of _ (by decide +kernel)) ggX2_ticksToMove_X1_wornAfterLowering
set_option maxRecDepth 20000 in
theorem ggX2_ticksToMove_X2_distance : GoodIn wsX2_ticksToMove wsX2_distance := goodIn_r _ [43, 44, 45, 6, 46] (by decide +kernel) (by decide +kernel)
set_option maxRecDepth 20000 in
theorem gX2_ticksToMove_X2_distance : GoodIn wsX2_ticksToMove (va_wsS RX2 120 yX2_distance wsX2_distance) := goodIn_app (goodIn_of _ (by decide +kernel)) ggX2_ticksToMove_X2_distance
theorem dX2_ticksToMove_0 : decode cX2_ticksToMove 0 = .ok (.aload_n 0, 1) := by decide +kernel
theorem dX2_ticksToMove_1 : decode cX2_ticksToMove 1 = .ok (.iload_n 2, 1) := by decide +kernel
theorem dX2_ticksToMove_2 : decode cX2_ticksToMove 2 = .ok (.invokevirtual 149, 3) := by decide +kernel
theorem dX2_ticksToMove_5 : decode cX2_ticksToMove 5 = .ok (.astore 4, 2) := by decide +kernel
