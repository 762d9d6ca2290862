theorem dX2_hooksOver_0 : decode cX2_hooksOver 0 = .ok (.iconst 0, 1) := by decide +kernel
theorem dX2_hooksOver_1 : decode cX2_hooksOver 1 = .ok (.istore_n 2, 1) := by decide +kernel
theorem dX2_hooksOver_2 : decode cX2_hooksOver 2 = .ok (.iconst 0, 1) := by decide +kernel
theorem dX2_hooksOver_3 : decode cX2_hooksOver 3 = .ok (.istore_n 3, 1) := by decide +kernel
theorem dX2_hooksOver_4 : decode cX2_hooksOver 4 = .ok (.iload_n 3, 1) := by decide +kernel
theorem dX2_hooksOver_5 : decode cX2_hooksOver 5 = .ok (.aload_n 0, 1) := by decide +kernel
theorem dX2_hooksOver_6 : decode cX2_hooksOver 6 = .ok (.getfield 22, 3) := by decide +kernel
theorem dX2_hooksOver_9 : decode cX2_hooksOver 9 = .ok (.invokevirtual 32, 3) := by decide +kernel
theorem dX2_hooksOver_12 : decode cX2_hooksOver 12 = .ok (.if_icmp .ge 30, 3) := by decide +kernel
theorem dX2_hooksOver_15 : decode cX2_hooksOver 15 = .ok (.aload_n 0, 1) := by decide +kernel
theorem dX2_hooksOver_16 : decode cX2_hooksOver 16 = .ok (.getfield 22, 3) := by decide +kernel
theorem dX2_hooksOver_19 : decode cX2_hooksOver 19 = .ok (.iload_n 3, 1) := by decide +kernel
theorem dX2_hooksOver_20 : decode cX2_hooksOver 20 = .ok (.invokevirtual 89, 3) := by decide +kernel
theorem dX2_hooksOver_23 : decode cX2_hooksOver 23 = .ok (.checkcast 81, 3) := by decide +kernel
theorem dX2_hooksOver_26 : decode cX2_hooksOver 26 = .ok (.getfield 108, 3) := by decide +kernel
theorem dX2_hooksOver_29 : decode cX2_hooksOver 29 = .ok (.iload_n 1, 1) := by decide +kernel
theorem dX2_hooksOver_30 : decode cX2_hooksOver 30 = .ok (.if_icmp .ne 6, 3) := by decide +kernel
theorem dX2_hooksOver_33 : decode cX2_hooksOver 33 = .ok (.iinc 2 1, 3) := by decide +kernel
theorem dX2_hooksOver_36 : decode cX2_hooksOver 36 = .ok (.iinc 3 1, 3) := by decide +kernel
theorem dX2_hooksOver_39 : decode cX2_hooksOver 39 = .ok (.goto (-35), 3) := by decide +kernel
theorem dX2_hooksOver_42 : decode cX2_hooksOver 42 = .ok (.iload_n 2, 1) := by decide +kernel
theorem dX2_hooksOver_43 : decode cX2_hooksOver 43 = .ok (.ireturn, 1) := by decide +kernel
set_option maxRecDepth 20000 in
theorem ggX2_standing_X2_heightOf : GoodIn wsX2_standing wsX2_heightOf := goodIn_r _ [5, 6, 7, 8, 9, 4, 10, 11, 12, 13, 14, 15, 16, 17, 18, 19, 20, 21, 22, 23, 24, 25, 26, 27, 28] (by decide +kernel) (by decide +kernel)
set_option maxRecDepth 20000 in
theorem gX2_standing_X2_heightOf : GoodIn wsX2_standing (wsV RX2 36 RX2 yX2_heightOf wsX2_heightOf) := goodIn_app (goodIn_of _ (by decide +kernel)) ggX2_standing_X2_heightOf
theorem dX2_standing_0 : decode cX2_standing 0 = .ok (.iconst 0, 1) := by decide +kernel
theorem dX2_standing_1 : decode cX2_standing 1 = .ok (.istore_n 1, 1) := by decide +kernel
theorem dX2_standing_2 : decode cX2_standing 2 = .ok (.iconst 0, 1) := by decide +kernel
theorem dX2_standing_3 : decode cX2_standing 3 = .ok (.istore_n 2, 1) := by decide +kernel
theorem dX2_standing_4 : decode cX2_standing 4 = .ok (.iload_n 2, 1) := by decide +kernel
theorem dX2_standing_5 : decode cX2_standing 5 = .ok (.bipush 16, 2) := by decide +kernel
theorem dX2_standing_7 : decode cX2_standing 7 = .ok (.if_icmp .ge 17, 3) := by decide +kernel
theorem dX2_standing_10 : decode cX2_standing 10 = .ok (.iload_n 1, 1) := by decide +kernel
theorem dX2_standing_11 : decode cX2_standing 11 = .ok (.aload_n 0, 1) := by decide +kernel
theorem dX2_standing_12 : decode cX2_standing 12 = .ok (.iload_n 2, 1) := by decide +kernel
theorem dX2_standing_13 : decode cX2_standing 13 = .ok (.invokevirtual 36, 3) := by decide +kernel
theorem dX2_standing_16 : decode cX2_standing 16 = .ok (.iadd, 1) := by decide +kernel
theorem dX2_standing_17 : decode cX2_standing 17 = .ok (.istore_n 1, 1) := by decide +kernel
theorem dX2_standing_18 : decode cX2_standing 18 = .ok (.iinc 2 1, 3) := by decide +kernel
theorem dX2_standing_21 : decode cX2_standing 21 = .ok (.goto (-17), 3) := by decide +kernel
theorem dX2_standing_24 : decode cX2_standing 24 = .ok (.iload_n 1, 1) := by decide +kernel
theorem dX2_standing_25 : decode cX2_standing 25 = .ok (.ireturn, 1) := by decide +kernel
set_option maxRecDepth 20000 in
theorem ggX2_hanging_Jx4a65c_size_8abf5 : GoodIn wsX2_hanging wsJx4a65c_size_8abf5 := goodIn_r _ [8, 9, 39, 40, 41] (by decide +kernel) (by decide +kernel)
set_option maxRecDepth 20000 in
theorem gX2_hanging_Jx4a65c_size_8abf5 : GoodIn wsX2_hanging (wsV RX2 32 RJx4a65c yJx4a65c_size_8abf5 wsJx4a65c_size_8abf5) := goodIn_app (goodIn_of _ (by decide +kernel)) ggX2_hanging_Jx4a65c_size_8abf5
set_option maxRecDepth 20000 in
theorem ggX2_hanging_Jx4a65c_get_915e3 : GoodIn wsX2_hanging wsJx4a65c_get_915e3 := goodIn_r _ [13, 9, 14, 15, 16, 17, 18, 19, 20, 21, 22, 23, 24, 7, 25, 26, 39, 40, 41] (by decide +kernel) (by decide +kernel)
set_option maxRecDepth 20000 in
theorem gX2_hanging_Jx4a65c_get_915e3 : GoodIn wsX2_hanging (wsV RX2 89 RJx4a65c yJx4a65c_get_915e3 wsJx4a65c_get_915e3) := goodIn_app (goodIn_of _ (by decide +kernel)) ggX2_hanging_Jx4a65c_get_915e3
theorem dX2_hanging_0 : decode cX2_hanging 0 = .ok (.iconst 0, 1) := by decide +kernel
theorem dX2_hanging_1 : decode cX2_hanging 1 = .ok (.istore_n 1, 1) := by decide +kernel
theorem dX2_hanging_2 : decode cX2_hanging 2 = .ok (.iconst 0, 1) := by decide +kernel
theorem dX2_hanging_3 : decode cX2_hanging 3 = .ok (.istore_n 2, 1) := by decide +kernel
theorem dX2_hanging_4 : decode cX2_hanging 4 = .ok (.iload_n 2, 1) := by decide +kernel
theorem dX2_hanging_5 : decode cX2_hanging 5 = .ok (.aload_n 0, 1) := by decide +kernel
theorem dX2_hanging_6 : decode cX2_hanging 6 = .ok (.getfield 22, 3) := by decide +kernel
theorem dX2_hanging_9 : decode cX2_hanging 9 = .ok (.invokevirtual 32, 3) := by decide +kernel
theorem dX2_hanging_12 : decode cX2_hanging 12 = .ok (.if_icmp .ge 29, 3) := by decide +kernel
theorem dX2_hanging_15 : decode cX2_hanging 15 = .ok (.aload_n 0, 1) := by decide +kernel
theorem dX2_hanging_16 : decode cX2_hanging 16 = .ok (.getfield 22, 3) := by decide +kernel
theorem dX2_hanging_19 : decode cX2_hanging 19 = .ok (.iload_n 2, 1) := by decide +kernel
theorem dX2_hanging_20 : decode cX2_hanging 20 = .ok (.invokevirtual 89, 3) := by decide +kernel
theorem dX2_hanging_23 : decode cX2_hanging 23 = .ok (.checkcast 81, 3) := by decide +kernel
theorem dX2_hanging_26 : decode cX2_hanging 26 = .ok (.getfield 130, 3) := by decide +kernel
theorem dX2_hanging_29 : decode cX2_hanging 29 = .ok (.ifnull 6, 3) := by decide +kernel
theorem dX2_hanging_32 : decode cX2_hanging 32 = .ok (.iinc 1 1, 3) := by decide +kernel
theorem dX2_hanging_35 : decode cX2_hanging 35 = .ok (.iinc 2 1, 3) := by decide +kernel
theorem dX2_hanging_38 : decode cX2_hanging 38 = .ok (.goto (-34), 3) := by decide +kernel
theorem dX2_hanging_41 : decode cX2_hanging 41 = .ok (.iload_n 1, 1) := by decide +kernel
theorem dX2_hanging_42 : decode cX2_hanging 42 = .ok (.ireturn, 1) := by decide +kernel
theorem dX3_init_0 : decode cX3_init 0 = .ok (.aload_n 0, 1) := by decide +kernel
theorem dX3_init_1 : decode cX3_init 1 = .ok (.invokespecial 1, 3) := by decide +kernel
theorem dX3_init_4 : decode cX3_init 4 = .ok (.aload_n 0, 1) := by decide +kernel
theorem dX3_init_5 : decode cX3_init 5 = .ok (.bipush 40, 2) := by decide +kernel
theorem dX3_init_7 : decode cX3_init 7 = .ok (.newarray .int, 2) := by decide +kernel
theorem dX3_init_9 : decode cX3_init 9 = .ok (.putfield 9, 3) := by decide +kernel
theorem dX3_init_12 : decode cX3_init 12 = .ok (.aload_n 0, 1) := by decide +kernel
theorem dX3_init_13 : decode cX3_init 13 = .ok (.bipush 40, 2) := by decide +kernel
theorem dX3_init_15 : decode cX3_init 15 = .ok (.newarray .int, 2) := by decide +kernel
theorem dX3_init_17 : decode cX3_init 17 = .ok (.putfield 13, 3) := by decide +kernel
theorem dX3_init_20 : decode cX3_init 20 = .ok (.aload_n 0, 1) := by decide +kernel
theorem dX3_init_21 : decode cX3_init 21 = .ok (.bipush 40, 2) := by decide +kernel
theorem dX3_init_23 : decode cX3_init 23 = .ok (.newarray .int, 2) := by decide +kernel
theorem dX3_init_25 : decode cX3_init 25 = .ok (.putfield 16, 3) := by decide +kernel
theorem dX3_init_28 : decode cX3_init 28 = .ok (.aload_n 0, 1) := by decide +kernel
theorem dX3_init_29 : decode cX3_init 29 = .ok (.iconst 5, 1) := by decide +kernel
theorem dX3_init_30 : decode cX3_init 30 = .ok (.newarray .int, 2) := by decide +kernel
theorem dX3_init_32 : decode cX3_init 32 = .ok (.putfield 19, 3) := by decide +kernel
theorem dX3_init_35 : decode cX3_init 35 = .ok (.aload_n 0, 1) := by decide +kernel
theorem dX3_init_36 : decode cX3_init 36 = .ok (.iconst 5, 1) := by decide +kernel
theorem dX3_init_37 : decode cX3_init 37 = .ok (.newarray .int, 2) := by decide +kernel
theorem dX3_init_39 : decode cX3_init 39 = .ok (.putfield 22, 3) := by decide +kernel
theorem dX3_init_42 : decode cX3_init 42 = .ok (.aload_n 0, 1) := by decide +kernel
theorem dX3_init_43 : decode cX3_init 43 = .ok (.iconst 5, 1) := by decide +kernel
theorem dX3_init_44 : decode cX3_init 44 = .ok (.newarray .int, 2) := by decide +kernel
theorem dX3_init_46 : decode cX3_init 46 = .ok (.putfield 25, 3) := by decide +kernel
theorem dX3_init_49 : decode cX3_init 49 = .ok (.aload_n 0, 1) := by decide +kernel
theorem dX3_init_50 : decode cX3_init 50 = .ok (.iconst 5, 1) := by decide +kernel
theorem dX3_init_51 : decode cX3_init 51 = .ok (.newarray .int, 2) := by decide +kernel
theorem dX3_init_53 : decode cX3_init 53 = .ok (.putfield 28, 3) := by decide +kernel
theorem dX3_init_56 : decode cX3_init 56 = .ok (.aload_n 0, 1) := by decide +kernel
theorem dX3_init_57 : decode cX3_init 57 = .ok (.iconst 5, 1) := by decide +kernel
theorem dX3_init_58 : decode cX3_init 58 = .ok (.newarray .int, 2) := by decide +kernel
theorem dX3_init_60 : decode cX3_init 60 = .ok (.putfield 31, 3) := by decide +kernel
theorem dX3_init_63 : decode cX3_init 63 = .ok (.aload_n 0, 1) := by decide +kernel
theorem dX3_init_64 : decode cX3_init 64 = .ok (.iconst 5, 1) := by decide +kernel
theorem dX3_init_65 : decode cX3_init 65 = .ok (.newarray .int, 2) := by decide +kernel
theorem dX3_init_67 : decode cX3_init 67 = .ok (.putfield 34, 3) := by decide +kernel
theorem dX3_init_70 : decode cX3_init 70 = .ok (.aload_n 0, 1) := by decide +kernel
theorem dX3_init_71 : decode cX3_init 71 = .ok (.iconst 5, 1) := by decide +kernel
theorem dX3_init_72 : decode cX3_init 72 = .ok (.newarray .int, 2) := by decide +kernel
theorem dX3_init_74 : decode cX3_init 74 = .ok (.putfield 37, 3) := by decide +kernel
theorem dX3_init_77 : decode cX3_init 77 = .ok (.aload_n 0, 1) := by decide +kernel
theorem dX3_init_78 : decode cX3_init 78 = .ok (.iconst 5, 1) := by decide +kernel
theorem dX3_init_79 : decode cX3_init 79 = .ok (.newarray .int, 2) := by decide +kernel
theorem dX3_init_81 : decode cX3_init 81 = .ok (.putfield 40, 3) := by decide +kernel
theorem dX3_init_84 : decode cX3_init 84 = .ok (.return_, 1) := by decide +kernel
theorem dX3_thrown_0 : decode cX3_thrown 0 = .ok (.aload_n 0, 1) := by decide +kernel
theorem dX3_thrown_1 : decode cX3_thrown 1 = .ok (.getfield 43, 3) := by decide +kernel
theorem dX3_thrown_4 : decode cX3_thrown 4 = .ok (.ireturn, 1) := by decide +kernel
theorem dX3_no_0 : decode cX3_no 0 = .ok (.aload_n 0, 1) := by decide +kernel
theorem dX3_no_1 : decode cX3_no 1 = .ok (.iload_n 1, 1) := by decide +kernel
theorem dX3_no_2 : decode cX3_no 2 = .ok (.putfield 43, 3) := by decide +kernel
theorem dX3_no_5 : decode cX3_no 5 = .ok (.iconst 0, 1) := by decide +kernel
theorem dX3_no_6 : decode cX3_no 6 = .ok (.ireturn, 1) := by decide +kernel
theorem dX3_isIn_0 : decode cX3_isIn 0 = .ok (.iload_n 0, 1) := by decide +kernel
theorem dX3_isIn_1 : decode cX3_isIn 1 = .ok (.iload_n 1, 1) := by decide +kernel
theorem dX3_isIn_2 : decode cX3_isIn 2 = .ok (.if_icmp .lt 12, 3) := by decide +kernel
theorem dX3_isIn_5 : decode cX3_isIn 5 = .ok (.iload_n 0, 1) := by decide +kernel
theorem dX3_isIn_6 : decode cX3_isIn 6 = .ok (.iload_n 2, 1) := by decide +kernel
theorem dX3_isIn_7 : decode cX3_isIn 7 = .ok (.if_icmp .gt 7, 3) := by decide +kernel
theorem dX3_isIn_10 : decode cX3_isIn 10 = .ok (.iconst 1, 1) := by decide +kernel
theorem dX3_isIn_11 : decode cX3_isIn 11 = .ok (.goto 4, 3) := by decide +kernel
theorem dX3_isIn_14 : decode cX3_isIn 14 = .ok (.iconst 0, 1) := by decide +kernel
theorem dX3_isIn_15 : decode cX3_isIn 15 = .ok (.ireturn, 1) := by decide +kernel
set_option maxRecDepth 20000 in
theorem ggX3_isPlace_X3_isIn : GoodIn wsX3_isPlace wsX3_isIn := goodIn_r _ [4] (by decide +kernel) (by decide +kernel)
set_option maxRecDepth 20000 in
theorem gX3_isPlace_X3_isIn : GoodIn wsX3_isPlace (va_wsS RX3 47 yX3_isIn wsX3_isIn) := goodIn_app (goodIn_of _ (by decide +kernel)) ggX3_isPlace_X3_isIn
theorem dX3_isPlace_0 : decode cX3_isPlace 0 = .ok (.iload_n 0, 1) := by decide +kernel
theorem dX3_isPlace_1 : decode cX3_isPlace 1 = .ok (.iconst 0, 1) := by decide +kernel
theorem dX3_isPlace_2 : decode cX3_isPlace 2 = .ok (.bipush 15, 2) := by decide +kernel
theorem dX3_isPlace_4 : decode cX3_isPlace 4 = .ok (.invokestatic 47, 3) := by decide +kernel
theorem dX3_isPlace_7 : decode cX3_isPlace 7 = .ok (.ireturn, 1) := by decide +kernel
set_option maxRecDepth 20000 in
theorem ggX3_isCrane_X3_isIn : GoodIn wsX3_isCrane wsX3_isIn := goodIn_r _ [5] (by decide +kernel) (by decide +kernel)
set_option maxRecDepth 20000 in
theorem gX3_isCrane_X3_isIn : GoodIn wsX3_isCrane (va_wsS RX3 47 yX3_isIn wsX3_isIn) := goodIn_app (goodIn_of _ (by decide +kernel)) ggX3_isCrane_X3_isIn
theorem dX3_isCrane_0 : decode cX3_isCrane 0 = .ok (.iload_n 1, 1) := by decide +kernel
theorem dX3_isCrane_1 : decode cX3_isCrane 1 = .ok (.iconst 0, 1) := by decide +kernel
theorem dX3_isCrane_2 : decode cX3_isCrane 2 = .ok (.aload_n 0, 1) := by decide +kernel
theorem dX3_isCrane_3 : decode cX3_isCrane 3 = .ok (.getfield 51, 3) := by decide +kernel
theorem dX3_isCrane_6 : decode cX3_isCrane 6 = .ok (.iconst 1, 1) := by decide +kernel
theorem dX3_isCrane_7 : decode cX3_isCrane 7 = .ok (.isub, 1) := by decide +kernel
theorem dX3_isCrane_8 : decode cX3_isCrane 8 = .ok (.invokestatic 47, 3) := by decide +kernel
theorem dX3_isCrane_11 : decode cX3_isCrane 11 = .ok (.ireturn, 1) := by decide +kernel
theorem dX3_high_0 : decode cX3_high 0 = .ok (.iconst 0, 1) := by decide +kernel
theorem dX3_high_1 : decode cX3_high 1 = .ok (.istore_n 2, 1) := by decide +kernel
theorem dX3_high_2 : decode cX3_high 2 = .ok (.iconst 0, 1) := by decide +kernel
theorem dX3_high_3 : decode cX3_high 3 = .ok (.istore_n 3, 1) := by decide +kernel
theorem dX3_high_4 : decode cX3_high 4 = .ok (.iload_n 3, 1) := by decide +kernel
theorem dX3_high_5 : decode cX3_high 5 = .ok (.aload_n 0, 1) := by decide +kernel
theorem dX3_high_6 : decode cX3_high 6 = .ok (.getfield 54, 3) := by decide +kernel
theorem dX3_high_9 : decode cX3_high 9 = .ok (.if_icmp .ge 27, 3) := by decide +kernel
theorem dX3_high_12 : decode cX3_high 12 = .ok (.iload_n 2, 1) := by decide +kernel
theorem dX3_high_13 : decode cX3_high 13 = .ok (.aload_n 0, 1) := by decide +kernel
theorem dX3_high_14 : decode cX3_high 14 = .ok (.getfield 13, 3) := by decide +kernel
theorem dX3_high_17 : decode cX3_high 17 = .ok (.iload_n 3, 1) := by decide +kernel
theorem dX3_high_18 : decode cX3_high 18 = .ok (.iaload, 1) := by decide +kernel
theorem dX3_high_19 : decode cX3_high 19 = .ok (.iload_n 1, 1) := by decide +kernel
theorem dX3_high_20 : decode cX3_high 20 = .ok (.if_icmp .ne 7, 3) := by decide +kernel
theorem dX3_high_23 : decode cX3_high 23 = .ok (.iconst 1, 1) := by decide +kernel
theorem dX3_high_24 : decode cX3_high 24 = .ok (.goto 4, 3) := by decide +kernel
theorem dX3_high_27 : decode cX3_high 27 = .ok (.iconst 0, 1) := by decide +kernel
theorem dX3_high_28 : decode cX3_high 28 = .ok (.iadd, 1) := by decide +kernel
theorem dX3_high_29 : decode cX3_high 29 = .ok (.istore_n 2, 1) := by decide +kernel
theorem dX3_high_30 : decode cX3_high 30 = .ok (.iinc 3 1, 3) := by decide +kernel
theorem dX3_high_33 : decode cX3_high 33 = .ok (.goto (-29), 3) := by decide +kernel
theorem dX3_high_36 : decode cX3_high 36 = .ok (.iload_n 2, 1) := by decide +kernel
theorem dX3_high_37 : decode cX3_high 37 = .ok (.ireturn, 1) := by decide +kernel
set_option maxRecDepth 20000 in
theorem ggX3_top_X3_high : GoodIn wsX3_top wsX3_high := goodIn_r _ [8, 1, 2, 9, 10, 11, 12, 13, 14, 15, 16, 17, 18, 19, 20, 21, 22, 23] (by decide +kernel) (by decide +kernel)
set_option maxRecDepth 20000 in
theorem gX3_top_X3_high : GoodIn wsX3_top (wsV RX3 57 RX3 yX3_high wsX3_high) := goodIn_app (goodIn_of _ (by decide +kernel)) ggX3_top_X3_high
theorem dX3_top_0 : decode cX3_top 0 = .ok (.iconst 0, 1) := by decide +kernel
theorem dX3_top_1 : decode cX3_top 1 = .ok (.istore_n 2, 1) := by decide +kernel
theorem dX3_top_2 : decode cX3_top 2 = .ok (.iload_n 2, 1) := by decide +kernel
theorem dX3_top_3 : decode cX3_top 3 = .ok (.aload_n 0, 1) := by decide +kernel
theorem dX3_top_4 : decode cX3_top 4 = .ok (.getfield 54, 3) := by decide +kernel
theorem dX3_top_7 : decode cX3_top 7 = .ok (.if_icmp .ge 37, 3) := by decide +kernel
theorem dX3_top_10 : decode cX3_top 10 = .ok (.aload_n 0, 1) := by decide +kernel
theorem dX3_top_11 : decode cX3_top 11 = .ok (.getfield 13, 3) := by decide +kernel
theorem dX3_top_14 : decode cX3_top 14 = .ok (.iload_n 2, 1) := by decide +kernel
theorem dX3_top_15 : decode cX3_top 15 = .ok (.iaload, 1) := by decide +kernel
theorem dX3_top_16 : decode cX3_top 16 = .ok (.iload_n 1, 1) := by decide +kernel
theorem dX3_top_17 : decode cX3_top 17 = .ok (.if_icmp .ne 21, 3) := by decide +kernel
theorem dX3_top_20 : decode cX3_top 20 = .ok (.aload_n 0, 1) := by decide +kernel
theorem dX3_top_21 : decode cX3_top 21 = .ok (.getfield 16, 3) := by decide +kernel
theorem dX3_top_24 : decode cX3_top 24 = .ok (.iload_n 2, 1) := by decide +kernel
theorem dX3_top_25 : decode cX3_top 25 = .ok (.iaload, 1) := by decide +kernel
theorem dX3_top_26 : decode cX3_top 26 = .ok (.aload_n 0, 1) := by decide +kernel
theorem dX3_top_27 : decode cX3_top 27 = .ok (.iload_n 1, 1) := by decide +kernel
theorem dX3_top_28 : decode cX3_top 28 = .ok (.invokevirtual 57, 3) := by decide +kernel
theorem dX3_top_31 : decode cX3_top 31 = .ok (.iconst 1, 1) := by decide +kernel
theorem dX3_top_32 : decode cX3_top 32 = .ok (.isub, 1) := by decide +kernel
theorem dX3_top_33 : decode cX3_top 33 = .ok (.if_icmp .ne 5, 3) := by decide +kernel
theorem dX3_top_36 : decode cX3_top 36 = .ok (.iload_n 2, 1) := by decide +kernel
theorem dX3_top_37 : decode cX3_top 37 = .ok (.ireturn, 1) := by decide +kernel
theorem dX3_top_38 : decode cX3_top 38 = .ok (.iinc 2 1, 3) := by decide +kernel
theorem dX3_top_41 : decode cX3_top 41 = .ok (.goto (-39), 3) := by decide +kernel
theorem dX3_top_44 : decode cX3_top 44 = .ok (.iconst (-1), 1) := by decide +kernel
theorem dX3_top_45 : decode cX3_top 45 = .ok (.ireturn, 1) := by decide +kernel
theorem dX3_loaded_0 : decode cX3_loaded 0 = .ok (.aload_n 0, 1) := by decide +kernel
theorem dX3_loaded_1 : decode cX3_loaded 1 = .ok (.getfield 40, 3) := by decide +kernel
theorem dX3_loaded_4 : decode cX3_loaded 4 = .ok (.iload_n 1, 1) := by decide +kernel
theorem dX3_loaded_5 : decode cX3_loaded 5 = .ok (.iaload, 1) := by decide +kernel
theorem dX3_loaded_6 : decode cX3_loaded 6 = .ok (.iconst (-1), 1) := by decide +kernel
theorem dX3_loaded_7 : decode cX3_loaded 7 = .ok (.if_icmp .ne 7, 3) := by decide +kernel
theorem dX3_loaded_10 : decode cX3_loaded 10 = .ok (.iconst 0, 1) := by decide +kernel
theorem dX3_loaded_11 : decode cX3_loaded 11 = .ok (.goto 4, 3) := by decide +kernel
theorem dX3_loaded_14 : decode cX3_loaded 14 = .ok (.iconst 1, 1) := by decide +kernel
theorem dX3_loaded_15 : decode cX3_loaded 15 = .ok (.ireturn, 1) := by decide +kernel
theorem dX3_strength_0 : decode cX3_strength 0 = .ok (.bipush 12, 2) := by decide +kernel
theorem dX3_strength_2 : decode cX3_strength 2 = .ok (.aload_n 0, 1) := by decide +kernel
theorem dX3_strength_3 : decode cX3_strength 3 = .ok (.getfield 28, 3) := by decide +kernel
theorem dX3_strength_6 : decode cX3_strength 6 = .ok (.iload_n 1, 1) := by decide +kernel
theorem dX3_strength_7 : decode cX3_strength 7 = .ok (.iaload, 1) := by decide +kernel
theorem dX3_strength_8 : decode cX3_strength 8 = .ok (.imul, 1) := by decide +kernel
theorem dX3_strength_9 : decode cX3_strength 9 = .ok (.aload_n 0, 1) := by decide +kernel
theorem dX3_strength_10 : decode cX3_strength 10 = .ok (.getfield 25, 3) := by decide +kernel
theorem dX3_strength_13 : decode cX3_strength 13 = .ok (.iload_n 1, 1) := by decide +kernel
theorem dX3_strength_14 : decode cX3_strength 14 = .ok (.iaload, 1) := by decide +kernel
theorem dX3_strength_15 : decode cX3_strength 15 = .ok (.idiv, 1) := by decide +kernel
theorem dX3_strength_16 : decode cX3_strength 16 = .ok (.ireturn, 1) := by decide +kernel
theorem dX3_wound_0 : decode cX3_wound 0 = .ok (.iload_n 2, 1) := by decide +kernel
theorem dX3_wound_1 : decode cX3_wound 1 = .ok (.aload_n 0, 1) := by decide +kernel
theorem dX3_wound_2 : decode cX3_wound 2 = .ok (.getfield 25, 3) := by decide +kernel
theorem dX3_wound_5 : decode cX3_wound 5 = .ok (.iload_n 1, 1) := by decide +kernel
theorem dX3_wound_6 : decode cX3_wound 6 = .ok (.iaload, 1) := by decide +kernel
theorem dX3_wound_7 : decode cX3_wound 7 = .ok (.iadd, 1) := by decide +kernel
theorem dX3_wound_8 : decode cX3_wound 8 = .ok (.iconst 1, 1) := by decide +kernel
theorem dX3_wound_9 : decode cX3_wound 9 = .ok (.isub, 1) := by decide +kernel
theorem dX3_wound_10 : decode cX3_wound 10 = .ok (.aload_n 0, 1) := by decide +kernel
theorem dX3_wound_11 : decode cX3_wound 11 = .ok (.getfield 25, 3) := by decide +kernel
theorem dX3_wound_14 : decode cX3_wound 14 = .ok (.iload_n 1, 1) := by decide +kernel
theorem dX3_wound_15 : decode cX3_wound 15 = .ok (.iaload, 1) := by decide +kernel
theorem dX3_wound_16 : decode cX3_wound 16 = .ok (.idiv, 1) := by decide +kernel
theorem dX3_wound_17 : decode cX3_wound 17 = .ok (.ireturn, 1) := by decide +kernel
theorem dX3_isInReach_0 : decode cX3_isInReach 0 = .ok (.iload_n 2, 1) := by decide +kernel
theorem dX3_isInReach_1 : decode cX3_isInReach 1 = .ok (.aload_n 0, 1) := by decide +kernel
theorem dX3_isInReach_2 : decode cX3_isInReach 2 = .ok (.getfield 19, 3) := by decide +kernel
theorem dX3_isInReach_5 : decode cX3_isInReach 5 = .ok (.iload_n 1, 1) := by decide +kernel
theorem dX3_isInReach_6 : decode cX3_isInReach 6 = .ok (.iaload, 1) := by decide +kernel
theorem dX3_isInReach_7 : decode cX3_isInReach 7 = .ok (.isub, 1) := by decide +kernel
theorem dX3_isInReach_8 : decode cX3_isInReach 8 = .ok (.invokestatic 61, 3) := by decide +kernel
theorem dX3_isInReach_11 : decode cX3_isInReach 11 = .ok (.aload_n 0, 1) := by decide +kernel
theorem dX3_isInReach_12 : decode cX3_isInReach 12 = .ok (.getfield 22, 3) := by decide +kernel
theorem dX3_isInReach_15 : decode cX3_isInReach 15 = .ok (.iload_n 1, 1) := by decide +kernel
theorem dX3_isInReach_16 : decode cX3_isInReach 16 = .ok (.iaload, 1) := by decide +kernel
theorem dX3_isInReach_17 : decode cX3_isInReach 17 = .ok (.if_icmp .gt 7, 3) := by decide +kernel
theorem dX3_isInReach_20 : decode cX3_isInReach 20 = .ok (.iconst 1, 1) := by decide +kernel
theorem dX3_isInReach_21 : decode cX3_isInReach 21 = .ok (.goto 4, 3) := by decide +kernel
theorem dX3_isInReach_24 : decode cX3_isInReach 24 = .ok (.iconst 0, 1) := by decide +kernel
theorem dX3_isInReach_25 : decode cX3_isInReach 25 = .ok (.ireturn, 1) := by decide +kernel
set_option maxRecDepth 20000 in
theorem ggX3_isTooLow_X3_loaded : GoodIn wsX3_isTooLow wsX3_loaded := goodIn_r _ [8, 9, 10, 11, 12, 13, 14, 15, 16, 17, 18, 19, 20, 21, 22, 23, 24] (by decide +kernel) (by decide +kernel)
set_option maxRecDepth 20000 in
theorem gX3_isTooLow_X3_loaded : GoodIn wsX3_isTooLow (wsV RX3 66 RX3 yX3_loaded wsX3_loaded) := goodIn_app (goodIn_of _ (by decide +kernel)) ggX3_isTooLow_X3_loaded
theorem dX3_isTooLow_0 : decode cX3_isTooLow 0 = .ok (.iconst 0, 1) := by decide +kernel
theorem dX3_isTooLow_1 : decode cX3_isTooLow 1 = .ok (.istore 4, 2) := by decide +kernel
theorem dX3_isTooLow_3 : decode cX3_isTooLow 3 = .ok (.iload 4, 2) := by decide +kernel
theorem dX3_isTooLow_5 : decode cX3_isTooLow 5 = .ok (.aload_n 0, 1) := by decide +kernel
theorem dX3_isTooLow_6 : decode cX3_isTooLow 6 = .ok (.getfield 51, 3) := by decide +kernel
theorem dX3_isTooLow_9 : decode cX3_isTooLow 9 = .ok (.if_icmp .ge 46, 3) := by decide +kernel
theorem dX3_isTooLow_12 : decode cX3_isTooLow 12 = .ok (.iload 4, 2) := by decide +kernel
theorem dX3_isTooLow_14 : decode cX3_isTooLow 14 = .ok (.iload_n 3, 1) := by decide +kernel
theorem dX3_isTooLow_15 : decode cX3_isTooLow 15 = .ok (.if_icmp .eq 34, 3) := by decide +kernel
theorem dX3_isTooLow_18 : decode cX3_isTooLow 18 = .ok (.aload_n 0, 1) := by decide +kernel
theorem dX3_isTooLow_19 : decode cX3_isTooLow 19 = .ok (.getfield 34, 3) := by decide +kernel
theorem dX3_isTooLow_22 : decode cX3_isTooLow 22 = .ok (.iload 4, 2) := by decide +kernel
theorem dX3_isTooLow_24 : decode cX3_isTooLow 24 = .ok (.iaload, 1) := by decide +kernel
theorem dX3_isTooLow_25 : decode cX3_isTooLow 25 = .ok (.iload_n 1, 1) := by decide +kernel
theorem dX3_isTooLow_26 : decode cX3_isTooLow 26 = .ok (.if_icmp .ne 23, 3) := by decide +kernel
theorem dX3_isTooLow_29 : decode cX3_isTooLow 29 = .ok (.aload_n 0, 1) := by decide +kernel
theorem dX3_isTooLow_30 : decode cX3_isTooLow 30 = .ok (.getfield 37, 3) := by decide +kernel
theorem dX3_isTooLow_33 : decode cX3_isTooLow 33 = .ok (.iload 4, 2) := by decide +kernel
theorem dX3_isTooLow_35 : decode cX3_isTooLow 35 = .ok (.iaload, 1) := by decide +kernel
theorem dX3_isTooLow_36 : decode cX3_isTooLow 36 = .ok (.iload_n 2, 1) := by decide +kernel
theorem dX3_isTooLow_37 : decode cX3_isTooLow 37 = .ok (.aload_n 0, 1) := by decide +kernel
theorem dX3_isTooLow_38 : decode cX3_isTooLow 38 = .ok (.iload 4, 2) := by decide +kernel
theorem dX3_isTooLow_40 : decode cX3_isTooLow 40 = .ok (.invokevirtual 66, 3) := by decide +kernel
theorem dX3_isTooLow_43 : decode cX3_isTooLow 43 = .ok (.iadd, 1) := by decide +kernel
theorem dX3_isTooLow_44 : decode cX3_isTooLow 44 = .ok (.if_icmp .ge 5, 3) := by decide +kernel
theorem dX3_isTooLow_47 : decode cX3_isTooLow 47 = .ok (.iconst 1, 1) := by decide +kernel
theorem dX3_isTooLow_48 : decode cX3_isTooLow 48 = .ok (.ireturn, 1) := by decide +kernel
theorem dX3_isTooLow_49 : decode cX3_isTooLow 49 = .ok (.iinc 4 1, 3) := by decide +kernel
theorem dX3_isTooLow_52 : decode cX3_isTooLow 52 = .ok (.goto (-49), 3) := by decide +kernel
theorem dX3_isTooLow_55 : decode cX3_isTooLow 55 = .ok (.iconst 0, 1) := by decide +kernel
theorem dX3_isTooLow_56 : decode cX3_isTooLow 56 = .ok (.ireturn, 1) := by decide +kernel
set_option maxRecDepth 20000 in
theorem ggX3_highest_X3_high : GoodIn wsX3_highest wsX3_high := goodIn_r _ [12, 13, 14, 15, 16, 17, 18, 19, 20, 21, 22, 23, 24, 25, 26, 27, 28, 29] (by decide +kernel) (by decide +kernel)
set_option maxRecDepth 20000 in
theorem gX3_highest_X3_high : GoodIn wsX3_highest (wsV RX3 57 RX3 yX3_high wsX3_high) := goodIn_app (goodIn_of _ (by decide +kernel)) ggX3_highest_X3_high
theorem dX3_highest_0 : decode cX3_highest 0 = .ok (.iconst 0, 1) := by decide +kernel
theorem dX3_highest_1 : decode cX3_highest 1 = .ok (.istore 4, 2) := by decide +kernel
theorem dX3_highest_3 : decode cX3_highest 3 = .ok (.iload_n 1, 1) := by decide +kernel
theorem dX3_highest_4 : decode cX3_highest 4 = .ok (.iload_n 2, 1) := by decide +kernel
theorem dX3_highest_5 : decode cX3_highest 5 = .ok (.invokestatic 69, 3) := by decide +kernel
theorem dX3_highest_8 : decode cX3_highest 8 = .ok (.istore 5, 2) := by decide +kernel
theorem dX3_highest_10 : decode cX3_highest 10 = .ok (.iload 5, 2) := by decide +kernel
theorem dX3_highest_12 : decode cX3_highest 12 = .ok (.iload_n 1, 1) := by decide +kernel
theorem dX3_highest_13 : decode cX3_highest 13 = .ok (.iload_n 2, 1) := by decide +kernel
theorem dX3_highest_14 : decode cX3_highest 14 = .ok (.invokestatic 73, 3) := by decide +kernel
theorem dX3_highest_17 : decode cX3_highest 17 = .ok (.if_icmp .gt 34, 3) := by decide +kernel
theorem dX3_highest_20 : decode cX3_highest 20 = .ok (.iload 4, 2) := by decide +kernel
theorem dX3_highest_22 : decode cX3_highest 22 = .ok (.aload_n 0, 1) := by decide +kernel
theorem dX3_highest_23 : decode cX3_highest 23 = .ok (.iload 5, 2) := by decide +kernel
theorem dX3_highest_25 : decode cX3_highest 25 = .ok (.invokevirtual 57, 3) := by decide +kernel
theorem dX3_highest_28 : decode cX3_highest 28 = .ok (.iload 5, 2) := by decide +kernel
theorem dX3_highest_30 : decode cX3_highest 30 = .ok (.iload_n 3, 1) := by decide +kernel
theorem dX3_highest_31 : decode cX3_highest 31 = .ok (.if_icmp .ne 7, 3) := by decide +kernel
theorem dX3_highest_34 : decode cX3_highest 34 = .ok (.iconst 1, 1) := by decide +kernel
theorem dX3_highest_35 : decode cX3_highest 35 = .ok (.goto 4, 3) := by decide +kernel
theorem dX3_highest_38 : decode cX3_highest 38 = .ok (.iconst 0, 1) := by decide +kernel
theorem dX3_highest_39 : decode cX3_highest 39 = .ok (.isub, 1) := by decide +kernel
theorem dX3_highest_40 : decode cX3_highest 40 = .ok (.invokestatic 73, 3) := by decide +kernel
theorem dX3_highest_43 : decode cX3_highest 43 = .ok (.istore 4, 2) := by decide +kernel
theorem dX3_highest_45 : decode cX3_highest 45 = .ok (.iinc 5 1, 3) := by decide +kernel
theorem dX3_highest_48 : decode cX3_highest 48 = .ok (.goto (-38), 3) := by decide +kernel
theorem dX3_highest_51 : decode cX3_highest 51 = .ok (.iload 4, 2) := by decide +kernel
theorem dX3_highest_53 : decode cX3_highest 53 = .ok (.ireturn, 1) := by decide +kernel
set_option maxRecDepth 20000 in
theorem ggX3_land_X3_isPlace : GoodIn wsX3_land wsX3_isPlace := goodIn_r _ [9, 10, 11, 8, 12] (by decide +kernel) (by decide +kernel)
set_option maxRecDepth 20000 in
theorem gX3_land_X3_isPlace : GoodIn wsX3_land (va_wsS RX3 76 yX3_isPlace wsX3_isPlace) := goodIn_app (goodIn_of _ (by decide +kernel)) ggX3_land_X3_isPlace
set_option maxRecDepth 20000 in
theorem ggX3_land_X3_no : GoodIn wsX3_land wsX3_no := goodIn_r _ [16, 1, 33, 34, 35, 36, 37, 38, 39, 40, 41, 42, 43, 44, 45, 46, 47] (by decide +kernel) (by decide +kernel)
set_option maxRecDepth 20000 in
theorem gX3_land_X3_no : GoodIn wsX3_land (wsV RX3 80 RX3 yX3_no wsX3_no) := goodIn_app (goodIn_of _ (by decide +kernel)) ggX3_land_X3_no
set_option maxRecDepth 20000 in
theorem ggX3_land_X3_isIn : GoodIn wsX3_land wsX3_isIn := goodIn_r _ [12] (by decide +kernel) (by decide +kernel)
set_option maxRecDepth 20000 in
theorem gX3_land_X3_isIn : GoodIn wsX3_land (va_wsS RX3 47 yX3_isIn wsX3_isIn) := goodIn_app (goodIn_of _ (by decide +kernel)) ggX3_land_X3_isIn
set_option maxRecDepth 20000 in
theorem ggX3_land_X3_high : GoodIn wsX3_land wsX3_high := goodIn_r _ [20, 2, 4, 33, 34, 35, 36, 37, 38, 39, 40, 41, 42, 43, 44, 45, 46, 47] (by decide +kernel) (by decide +kernel)
set_option maxRecDepth 20000 in
theorem gX3_land_X3_high : GoodIn wsX3_land (wsV RX3 57 RX3 yX3_high wsX3_high) := goodIn_app (goodIn_of _ (by decide +kernel)) ggX3_land_X3_high
set_option maxRecDepth 20000 in
theorem ggX3_land_X3_isTooLow : GoodIn wsX3_land wsX3_isTooLow := goodIn_r _ [24, 25, 26, 27, 28, 29, 30, 8, 31, 32, 33, 34, 35, 36, 37, 38, 39, 40, 41, 42, 43, 44, 45, 46, 47] (by decide +kernel) (by decide +kernel)
set_option maxRecDepth 20000 in
theorem gX3_land_X3_isTooLow : GoodIn wsX3_land (wsV RX3 83 RX3 yX3_isTooLow wsX3_isTooLow) := goodIn_app (goodIn_of _ (by decide +kernel)) ggX3_land_X3_isTooLow
theorem dX3_land_0 : decode cX3_land 0 = .ok (.aload_n 0, 1) := by decide +kernel
theorem dX3_land_1 : decode cX3_land 1 = .ok (.iconst 0, 1) := by decide +kernel
theorem dX3_land_2 : decode cX3_land 2 = .ok (.putfield 43, 3) := by decide +kernel
theorem dX3_land_5 : decode cX3_land 5 = .ok (.iload_n 1, 1) := by decide +kernel
theorem dX3_land_6 : decode cX3_land 6 = .ok (.invokestatic 76, 3) := by decide +kernel
theorem dX3_land_9 : decode cX3_land 9 = .ok (.ifCond .ne 9, 3) := by decide +kernel
theorem dX3_land_12 : decode cX3_land 12 = .ok (.aload_n 0, 1) := by decide +kernel
theorem dX3_land_13 : decode cX3_land 13 = .ok (.iconst 1, 1) := by decide +kernel
theorem dX3_land_14 : decode cX3_land 14 = .ok (.invokevirtual 80, 3) := by decide +kernel
theorem dX3_land_17 : decode cX3_land 17 = .ok (.ireturn, 1) := by decide +kernel
theorem dX3_land_18 : decode cX3_land 18 = .ok (.iload_n 2, 1) := by decide +kernel
theorem dX3_land_19 : decode cX3_land 19 = .ok (.iconst 1, 1) := by decide +kernel
theorem dX3_land_20 : decode cX3_land 20 = .ok (.bipush 60, 2) := by decide +kernel
theorem dX3_land_22 : decode cX3_land 22 = .ok (.invokestatic 47, 3) := by decide +kernel
theorem dX3_land_25 : decode cX3_land 25 = .ok (.ifCond .ne 9, 3) := by decide +kernel
theorem dX3_land_28 : decode cX3_land 28 = .ok (.aload_n 0, 1) := by decide +kernel
theorem dX3_land_29 : decode cX3_land 29 = .ok (.iconst 2, 1) := by decide +kernel
theorem dX3_land_30 : decode cX3_land 30 = .ok (.invokevirtual 80, 3) := by decide +kernel
theorem dX3_land_33 : decode cX3_land 33 = .ok (.ireturn, 1) := by decide +kernel
theorem dX3_land_34 : decode cX3_land 34 = .ok (.aload_n 0, 1) := by decide +kernel
theorem dX3_land_35 : decode cX3_land 35 = .ok (.iload_n 1, 1) := by decide +kernel
theorem dX3_land_36 : decode cX3_land 36 = .ok (.invokevirtual 57, 3) := by decide +kernel
theorem dX3_land_39 : decode cX3_land 39 = .ok (.istore_n 3, 1) := by decide +kernel
theorem dX3_land_40 : decode cX3_land 40 = .ok (.aload_n 0, 1) := by decide +kernel
theorem dX3_land_41 : decode cX3_land 41 = .ok (.getfield 54, 3) := by decide +kernel
theorem dX3_land_44 : decode cX3_land 44 = .ok (.bipush 40, 2) := by decide +kernel
theorem dX3_land_46 : decode cX3_land 46 = .ok (.if_icmp .eq 21, 3) := by decide +kernel
theorem dX3_land_49 : decode cX3_land 49 = .ok (.iload_n 3, 1) := by decide +kernel
theorem dX3_land_50 : decode cX3_land 50 = .ok (.bipush 8, 2) := by decide +kernel
theorem dX3_land_52 : decode cX3_land 52 = .ok (.if_icmp .eq 15, 3) := by decide +kernel
theorem dX3_land_55 : decode cX3_land 55 = .ok (.aload_n 0, 1) := by decide +kernel
theorem dX3_land_56 : decode cX3_land 56 = .ok (.iload_n 1, 1) := by decide +kernel
theorem dX3_land_57 : decode cX3_land 57 = .ok (.iload_n 3, 1) := by decide +kernel
theorem dX3_land_58 : decode cX3_land 58 = .ok (.iconst 1, 1) := by decide +kernel
theorem dX3_land_59 : decode cX3_land 59 = .ok (.iadd, 1) := by decide +kernel
theorem dX3_land_60 : decode cX3_land 60 = .ok (.iconst (-1), 1) := by decide +kernel
theorem dX3_land_61 : decode cX3_land 61 = .ok (.invokevirtual 83, 3) := by decide +kernel
theorem dX3_land_64 : decode cX3_land 64 = .ok (.ifCond .eq 9, 3) := by decide +kernel
theorem dX3_land_67 : decode cX3_land 67 = .ok (.aload_n 0, 1) := by decide +kernel
theorem dX3_land_68 : decode cX3_land 68 = .ok (.iconst 3, 1) := by decide +kernel
theorem dX3_land_69 : decode cX3_land 69 = .ok (.invokevirtual 80, 3) := by decide +kernel
theorem dX3_land_72 : decode cX3_land 72 = .ok (.ireturn, 1) := by decide +kernel
theorem dX3_land_73 : decode cX3_land 73 = .ok (.aload_n 0, 1) := by decide +kernel
theorem dX3_land_74 : decode cX3_land 74 = .ok (.getfield 9, 3) := by decide +kernel
theorem dX3_land_77 : decode cX3_land 77 = .ok (.aload_n 0, 1) := by decide +kernel
theorem dX3_land_78 : decode cX3_land 78 = .ok (.getfield 54, 3) := by decide +kernel
theorem dX3_land_81 : decode cX3_land 81 = .ok (.iload_n 2, 1) := by decide +kernel
theorem dX3_land_82 : decode cX3_land 82 = .ok (.iastore, 1) := by decide +kernel
theorem dX3_land_83 : decode cX3_land 83 = .ok (.aload_n 0, 1) := by decide +kernel
theorem dX3_land_84 : decode cX3_land 84 = .ok (.getfield 13, 3) := by decide +kernel
theorem dX3_land_87 : decode cX3_land 87 = .ok (.aload_n 0, 1) := by decide +kernel
theorem dX3_land_88 : decode cX3_land 88 = .ok (.getfield 54, 3) := by decide +kernel
theorem dX3_land_91 : decode cX3_land 91 = .ok (.iload_n 1, 1) := by decide +kernel
theorem dX3_land_92 : decode cX3_land 92 = .ok (.iastore, 1) := by decide +kernel
theorem dX3_land_93 : decode cX3_land 93 = .ok (.aload_n 0, 1) := by decide +kernel
theorem dX3_land_94 : decode cX3_land 94 = .ok (.getfield 16, 3) := by decide +kernel
theorem dX3_land_97 : decode cX3_land 97 = .ok (.aload_n 0, 1) := by decide +kernel
theorem dX3_land_98 : decode cX3_land 98 = .ok (.getfield 54, 3) := by decide +kernel
theorem dX3_land_101 : decode cX3_land 101 = .ok (.iload_n 3, 1) := by decide +kernel
theorem dX3_land_102 : decode cX3_land 102 = .ok (.iastore, 1) := by decide +kernel
theorem dX3_land_103 : decode cX3_land 103 = .ok (.aload_n 0, 1) := by decide +kernel
theorem dX3_land_104 : decode cX3_land 104 = .ok (.dup, 1) := by decide +kernel
theorem dX3_land_105 : decode cX3_land 105 = .ok (.getfield 54, 3) := by decide +kernel
theorem dX3_land_108 : decode cX3_land 108 = .ok (.iconst 1, 1) := by decide +kernel
theorem dX3_land_109 : decode cX3_land 109 = .ok (.iadd, 1) := by decide +kernel
theorem dX3_land_110 : decode cX3_land 110 = .ok (.putfield 54, 3) := by decide +kernel
theorem dX3_land_113 : decode cX3_land 113 = .ok (.aload_n 0, 1) := by decide +kernel
theorem dX3_land_114 : decode cX3_land 114 = .ok (.getfield 54, 3) := by decide +kernel
theorem dX3_land_117 : decode cX3_land 117 = .ok (.iconst 1, 1) := by decide +kernel
theorem dX3_land_118 : decode cX3_land 118 = .ok (.isub, 1) := by decide +kernel
theorem dX3_land_119 : decode cX3_land 119 = .ok (.ireturn, 1) := by decide +kernel
set_option maxRecDepth 20000 in
theorem ggX3_build_X3_isPlace : GoodIn wsX3_build wsX3_isPlace := goodIn_r _ [13, 14, 15, 12, 16] (by decide +kernel) (by decide +kernel)
set_option maxRecDepth 20000 in
theorem gX3_build_X3_isPlace : GoodIn wsX3_build (va_wsS RX3 76 yX3_isPlace wsX3_isPlace) := goodIn_app (goodIn_of _ (by decide +kernel)) ggX3_build_X3_isPlace
set_option maxRecDepth 20000 in
theorem ggX3_build_X3_no : GoodIn wsX3_build wsX3_no := goodIn_r _ [20, 1, 21, 22, 23, 24, 25, 26, 27, 28, 29, 30, 31, 32, 33, 34, 35] (by decide +kernel) (by decide +kernel)
set_option maxRecDepth 20000 in
theorem gX3_build_X3_no : GoodIn wsX3_build (wsV RX3 80 RX3 yX3_no wsX3_no) := goodIn_app (goodIn_of _ (by decide +kernel)) ggX3_build_X3_no
set_option maxRecDepth 20000 in
theorem ggX3_build_X3_isIn : GoodIn wsX3_build wsX3_isIn := goodIn_r _ [16] (by decide +kernel) (by decide +kernel)
set_option maxRecDepth 20000 in
theorem gX3_build_X3_isIn : GoodIn wsX3_build (va_wsS RX3 47 yX3_isIn wsX3_isIn) := goodIn_app (goodIn_of _ (by decide +kernel)) ggX3_build_X3_isIn
theorem dX3_build_0 : decode cX3_build 0 = .ok (.aload_n 0, 1) := by decide +kernel
theorem dX3_build_1 : decode cX3_build 1 = .ok (.iconst 0, 1) := by decide +kernel
theorem dX3_build_2 : decode cX3_build 2 = .ok (.putfield 43, 3) := by decide +kernel
theorem dX3_build_5 : decode cX3_build 5 = .ok (.iload_n 1, 1) := by decide +kernel
theorem dX3_build_6 : decode cX3_build 6 = .ok (.invokestatic 76, 3) := by decide +kernel
theorem dX3_build_9 : decode cX3_build 9 = .ok (.ifCond .ne 9, 3) := by decide +kernel
theorem dX3_build_12 : decode cX3_build 12 = .ok (.aload_n 0, 1) := by decide +kernel
theorem dX3_build_13 : decode cX3_build 13 = .ok (.iconst 1, 1) := by decide +kernel
theorem dX3_build_14 : decode cX3_build 14 = .ok (.invokevirtual 80, 3) := by decide +kernel
theorem dX3_build_17 : decode cX3_build 17 = .ok (.ireturn, 1) := by decide +kernel
theorem dX3_build_18 : decode cX3_build 18 = .ok (.iload_n 2, 1) := by decide +kernel
theorem dX3_build_19 : decode cX3_build 19 = .ok (.iconst 1, 1) := by decide +kernel
theorem dX3_build_20 : decode cX3_build 20 = .ok (.bipush 15, 2) := by decide +kernel
theorem dX3_build_22 : decode cX3_build 22 = .ok (.invokestatic 47, 3) := by decide +kernel
theorem dX3_build_25 : decode cX3_build 25 = .ok (.ifCond .eq 24, 3) := by decide +kernel
theorem dX3_build_28 : decode cX3_build 28 = .ok (.iload_n 3, 1) := by decide +kernel
theorem dX3_build_29 : decode cX3_build 29 = .ok (.iconst 1, 1) := by decide +kernel
theorem dX3_build_30 : decode cX3_build 30 = .ok (.bipush 6, 2) := by decide +kernel
theorem dX3_build_32 : decode cX3_build 32 = .ok (.invokestatic 47, 3) := by decide +kernel
theorem dX3_build_35 : decode cX3_build 35 = .ok (.ifCond .eq 14, 3) := by decide +kernel
theorem dX3_build_38 : decode cX3_build 38 = .ok (.iload 4, 2) := by decide +kernel
theorem dX3_build_40 : decode cX3_build 40 = .ok (.iconst 0, 1) := by decide +kernel
theorem dX3_build_41 : decode cX3_build 41 = .ok (.bipush 8, 2) := by decide +kernel
theorem dX3_build_43 : decode cX3_build 43 = .ok (.invokestatic 47, 3) := by decide +kernel
theorem dX3_build_46 : decode cX3_build 46 = .ok (.ifCond .ne 9, 3) := by decide +kernel
theorem dX3_build_49 : decode cX3_build 49 = .ok (.aload_n 0, 1) := by decide +kernel
theorem dX3_build_50 : decode cX3_build 50 = .ok (.iconst 2, 1) := by decide +kernel
theorem dX3_build_51 : decode cX3_build 51 = .ok (.invokevirtual 80, 3) := by decide +kernel
theorem dX3_build_54 : decode cX3_build 54 = .ok (.ireturn, 1) := by decide +kernel
theorem dX3_build_55 : decode cX3_build 55 = .ok (.aload_n 0, 1) := by decide +kernel
theorem dX3_build_56 : decode cX3_build 56 = .ok (.getfield 51, 3) := by decide +kernel
theorem dX3_build_59 : decode cX3_build 59 = .ok (.iconst 5, 1) := by decide +kernel
theorem dX3_build_60 : decode cX3_build 60 = .ok (.if_icmp .ne 9, 3) := by decide +kernel
theorem dX3_build_63 : decode cX3_build 63 = .ok (.aload_n 0, 1) := by decide +kernel
theorem dX3_build_64 : decode cX3_build 64 = .ok (.iconst 3, 1) := by decide +kernel
theorem dX3_build_65 : decode cX3_build 65 = .ok (.invokevirtual 80, 3) := by decide +kernel
theorem dX3_build_68 : decode cX3_build 68 = .ok (.ireturn, 1) := by decide +kernel
theorem dX3_build_69 : decode cX3_build 69 = .ok (.aload_n 0, 1) := by decide +kernel
theorem dX3_build_70 : decode cX3_build 70 = .ok (.getfield 19, 3) := by decide +kernel
theorem dX3_build_73 : decode cX3_build 73 = .ok (.aload_n 0, 1) := by decide +kernel
theorem dX3_build_74 : decode cX3_build 74 = .ok (.getfield 51, 3) := by decide +kernel
theorem dX3_build_77 : decode cX3_build 77 = .ok (.iload_n 1, 1) := by decide +kernel
theorem dX3_build_78 : decode cX3_build 78 = .ok (.iastore, 1) := by decide +kernel
theorem dX3_build_79 : decode cX3_build 79 = .ok (.aload_n 0, 1) := by decide +kernel
theorem dX3_build_80 : decode cX3_build 80 = .ok (.getfield 22, 3) := by decide +kernel
theorem dX3_build_83 : decode cX3_build 83 = .ok (.aload_n 0, 1) := by decide +kernel
theorem dX3_build_84 : decode cX3_build 84 = .ok (.getfield 51, 3) := by decide +kernel
theorem dX3_build_87 : decode cX3_build 87 = .ok (.iload_n 2, 1) := by decide +kernel
theorem dX3_build_88 : decode cX3_build 88 = .ok (.iastore, 1) := by decide +kernel
theorem dX3_build_89 : decode cX3_build 89 = .ok (.aload_n 0, 1) := by decide +kernel
theorem dX3_build_90 : decode cX3_build 90 = .ok (.getfield 25, 3) := by decide +kernel
theorem dX3_build_93 : decode cX3_build 93 = .ok (.aload_n 0, 1) := by decide +kernel
theorem dX3_build_94 : decode cX3_build 94 = .ok (.getfield 51, 3) := by decide +kernel
theorem dX3_build_97 : decode cX3_build 97 = .ok (.iload_n 3, 1) := by decide +kernel
theorem dX3_build_98 : decode cX3_build 98 = .ok (.iastore, 1) := by decide +kernel
theorem dX3_build_99 : decode cX3_build 99 = .ok (.aload_n 0, 1) := by decide +kernel
theorem dX3_build_100 : decode cX3_build 100 = .ok (.getfield 28, 3) := by decide +kernel
theorem dX3_build_103 : decode cX3_build 103 = .ok (.aload_n 0, 1) := by decide +kernel
theorem dX3_build_104 : decode cX3_build 104 = .ok (.getfield 51, 3) := by decide +kernel
theorem dX3_build_107 : decode cX3_build 107 = .ok (.iload 4, 2) := by decide +kernel
theorem dX3_build_109 : decode cX3_build 109 = .ok (.iastore, 1) := by decide +kernel
theorem dX3_build_110 : decode cX3_build 110 = .ok (.aload_n 0, 1) := by decide +kernel
theorem dX3_build_111 : decode cX3_build 111 = .ok (.getfield 34, 3) := by decide +kernel
theorem dX3_build_114 : decode cX3_build 114 = .ok (.aload_n 0, 1) := by decide +kernel
theorem dX3_build_115 : decode cX3_build 115 = .ok (.getfield 51, 3) := by decide +kernel
theorem dX3_build_118 : decode cX3_build 118 = .ok (.iload_n 1, 1) := by decide +kernel
theorem dX3_build_119 : decode cX3_build 119 = .ok (.iastore, 1) := by decide +kernel
theorem dX3_build_120 : decode cX3_build 120 = .ok (.aload_n 0, 1) := by decide +kernel
theorem dX3_build_121 : decode cX3_build 121 = .ok (.getfield 37, 3) := by decide +kernel
theorem dX3_build_124 : decode cX3_build 124 = .ok (.aload_n 0, 1) := by decide +kernel
theorem dX3_build_125 : decode cX3_build 125 = .ok (.getfield 51, 3) := by decide +kernel
theorem dX3_build_128 : decode cX3_build 128 = .ok (.bipush 10, 2) := by decide +kernel
theorem dX3_build_130 : decode cX3_build 130 = .ok (.iastore, 1) := by decide +kernel
theorem dX3_build_131 : decode cX3_build 131 = .ok (.aload_n 0, 1) := by decide +kernel
theorem dX3_build_132 : decode cX3_build 132 = .ok (.getfield 40, 3) := by decide +kernel
theorem dX3_build_135 : decode cX3_build 135 = .ok (.aload_n 0, 1) := by decide +kernel
theorem dX3_build_136 : decode cX3_build 136 = .ok (.getfield 51, 3) := by decide +kernel
theorem dX3_build_139 : decode cX3_build 139 = .ok (.iconst (-1), 1) := by decide +kernel
theorem dX3_build_140 : decode cX3_build 140 = .ok (.iastore, 1) := by decide +kernel
theorem dX3_build_141 : decode cX3_build 141 = .ok (.aload_n 0, 1) := by decide +kernel
theorem dX3_build_142 : decode cX3_build 142 = .ok (.dup, 1) := by decide +kernel
theorem dX3_build_143 : decode cX3_build 143 = .ok (.getfield 51, 3) := by decide +kernel
theorem dX3_build_146 : decode cX3_build 146 = .ok (.iconst 1, 1) := by decide +kernel
theorem dX3_build_147 : decode cX3_build 147 = .ok (.iadd, 1) := by decide +kernel
theorem dX3_build_148 : decode cX3_build 148 = .ok (.putfield 51, 3) := by decide +kernel
theorem dX3_build_151 : decode cX3_build 151 = .ok (.aload_n 0, 1) := by decide +kernel
theorem dX3_build_152 : decode cX3_build 152 = .ok (.getfield 51, 3) := by decide +kernel
theorem dX3_build_155 : decode cX3_build 155 = .ok (.iconst 1, 1) := by decide +kernel
theorem dX3_build_156 : decode cX3_build 156 = .ok (.isub, 1) := by decide +kernel
theorem dX3_build_157 : decode cX3_build 157 = .ok (.ireturn, 1) := by decide +kernel
set_option maxRecDepth 20000 in
theorem ggX3_man_X3_isCrane : GoodIn wsX3_man wsX3_isCrane := goodIn_r _ [7, 8, 9, 10, 6, 11, 16, 17, 18, 19, 20, 21, 22, 23, 24, 25, 26, 27, 28, 29, 30] (by decide +kernel) (by decide +kernel)
set_option maxRecDepth 20000 in
theorem gX3_man_X3_isCrane : GoodIn wsX3_man (wsV RX3 86 RX3 yX3_isCrane wsX3_isCrane) := goodIn_app (goodIn_of _ (by decide +kernel)) ggX3_man_X3_isCrane
set_option maxRecDepth 20000 in
theorem ggX3_man_X3_no : GoodIn wsX3_man wsX3_no := goodIn_r _ [15, 1, 16, 17, 18, 19, 20, 21, 22, 23, 24, 25, 26, 27, 28, 29, 30] (by decide +kernel) (by decide +kernel)
set_option maxRecDepth 20000 in
theorem gX3_man_X3_no : GoodIn wsX3_man (wsV RX3 80 RX3 yX3_no wsX3_no) := goodIn_app (goodIn_of _ (by decide +kernel)) ggX3_man_X3_no
set_option maxRecDepth 20000 in
theorem ggX3_man_X3_isIn : GoodIn wsX3_man wsX3_isIn := goodIn_r _ [11] (by decide +kernel) (by decide +kernel)
set_option maxRecDepth 20000 in
theorem gX3_man_X3_isIn : GoodIn wsX3_man (va_wsS RX3 47 yX3_isIn wsX3_isIn) := goodIn_app (goodIn_of _ (by decide +kernel)) ggX3_man_X3_isIn
theorem dX3_man_0 : decode cX3_man 0 = .ok (.aload_n 0, 1) := by decide +kernel
theorem dX3_man_1 : decode cX3_man 1 = .ok (.iconst 0, 1) := by decide +kernel
theorem dX3_man_2 : decode cX3_man 2 = .ok (.putfield 43, 3) := by decide +kernel
theorem dX3_man_5 : decode cX3_man 5 = .ok (.aload_n 0, 1) := by decide +kernel
theorem dX3_man_6 : decode cX3_man 6 = .ok (.iload_n 1, 1) := by decide +kernel
theorem dX3_man_7 : decode cX3_man 7 = .ok (.invokevirtual 86, 3) := by decide +kernel
theorem dX3_man_10 : decode cX3_man 10 = .ok (.ifCond .ne 9, 3) := by decide +kernel
theorem dX3_man_13 : decode cX3_man 13 = .ok (.aload_n 0, 1) := by decide +kernel
theorem dX3_man_14 : decode cX3_man 14 = .ok (.iconst 1, 1) := by decide +kernel
theorem dX3_man_15 : decode cX3_man 15 = .ok (.invokevirtual 80, 3) := by decide +kernel
theorem dX3_man_18 : decode cX3_man 18 = .ok (.ireturn, 1) := by decide +kernel
theorem dX3_man_19 : decode cX3_man 19 = .ok (.iload_n 2, 1) := by decide +kernel
theorem dX3_man_20 : decode cX3_man 20 = .ok (.iconst 0, 1) := by decide +kernel
theorem dX3_man_21 : decode cX3_man 21 = .ok (.bipush 8, 2) := by decide +kernel
theorem dX3_man_23 : decode cX3_man 23 = .ok (.invokestatic 47, 3) := by decide +kernel
theorem dX3_man_26 : decode cX3_man 26 = .ok (.ifCond .ne 9, 3) := by decide +kernel
theorem dX3_man_29 : decode cX3_man 29 = .ok (.aload_n 0, 1) := by decide +kernel
theorem dX3_man_30 : decode cX3_man 30 = .ok (.iconst 2, 1) := by decide +kernel
theorem dX3_man_31 : decode cX3_man 31 = .ok (.invokevirtual 80, 3) := by decide +kernel
theorem dX3_man_34 : decode cX3_man 34 = .ok (.ireturn, 1) := by decide +kernel
theorem dX3_man_35 : decode cX3_man 35 = .ok (.aload_n 0, 1) := by decide +kernel
theorem dX3_man_36 : decode cX3_man 36 = .ok (.getfield 28, 3) := by decide +kernel
theorem dX3_man_39 : decode cX3_man 39 = .ok (.iload_n 1, 1) := by decide +kernel
theorem dX3_man_40 : decode cX3_man 40 = .ok (.iaload, 1) := by decide +kernel
theorem dX3_man_41 : decode cX3_man 41 = .ok (.istore_n 3, 1) := by decide +kernel
theorem dX3_man_42 : decode cX3_man 42 = .ok (.aload_n 0, 1) := by decide +kernel
theorem dX3_man_43 : decode cX3_man 43 = .ok (.getfield 28, 3) := by decide +kernel
theorem dX3_man_46 : decode cX3_man 46 = .ok (.iload_n 1, 1) := by decide +kernel
theorem dX3_man_47 : decode cX3_man 47 = .ok (.iload_n 2, 1) := by decide +kernel
theorem dX3_man_48 : decode cX3_man 48 = .ok (.iastore, 1) := by decide +kernel
theorem dX3_man_49 : decode cX3_man 49 = .ok (.iload_n 3, 1) := by decide +kernel
theorem dX3_man_50 : decode cX3_man 50 = .ok (.ireturn, 1) := by decide +kernel
set_option maxRecDepth 20000 in
theorem ggX3_mend_X3_isCrane : GoodIn wsX3_mend wsX3_isCrane := goodIn_r _ [7, 8, 9, 10, 6, 11, 16, 17, 18, 19, 20, 21, 22, 23, 24, 25, 26, 27, 28, 29, 30] (by decide +kernel) (by decide +kernel)
set_option maxRecDepth 20000 in
theorem gX3_mend_X3_isCrane : GoodIn wsX3_mend (wsV RX3 86 RX3 yX3_isCrane wsX3_isCrane) := goodIn_app (goodIn_of _ (by decide +kernel)) ggX3_mend_X3_isCrane
set_option maxRecDepth 20000 in
theorem ggX3_mend_X3_no : GoodIn wsX3_mend wsX3_no := goodIn_r _ [15, 1, 16, 17, 18, 19, 20, 21, 22, 23, 24, 25, 26, 27, 28, 29, 30] (by decide +kernel) (by decide +kernel)
set_option maxRecDepth 20000 in
theorem gX3_mend_X3_no : GoodIn wsX3_mend (wsV RX3 80 RX3 yX3_no wsX3_no) := goodIn_app (goodIn_of _ (by decide +kernel)) ggX3_mend_X3_no
theorem dX3_mend_0 : decode cX3_mend 0 = .ok (.aload_n 0, 1) := by decide +kernel
theorem dX3_mend_1 : decode cX3_mend 1 = .ok (.iconst 0, 1) := by decide +kernel
theorem dX3_mend_2 : decode cX3_mend 2 = .ok (.putfield 43, 3) := by decide +kernel
theorem dX3_mend_5 : decode cX3_mend 5 = .ok (.aload_n 0, 1) := by decide +kernel
theorem dX3_mend_6 : decode cX3_mend 6 = .ok (.iload_n 1, 1) := by decide +kernel
theorem dX3_mend_7 : decode cX3_mend 7 = .ok (.invokevirtual 86, 3) := by decide +kernel
theorem dX3_mend_10 : decode cX3_mend 10 = .ok (.ifCond .ne 9, 3) := by decide +kernel
theorem dX3_mend_13 : decode cX3_mend 13 = .ok (.aload_n 0, 1) := by decide +kernel
theorem dX3_mend_14 : decode cX3_mend 14 = .ok (.iconst 1, 1) := by decide +kernel
theorem dX3_mend_15 : decode cX3_mend 15 = .ok (.invokevirtual 80, 3) := by decide +kernel
theorem dX3_mend_18 : decode cX3_mend 18 = .ok (.ireturn, 1) := by decide +kernel
theorem dX3_mend_19 : decode cX3_mend 19 = .ok (.aload_n 0, 1) := by decide +kernel
theorem dX3_mend_20 : decode cX3_mend 20 = .ok (.getfield 31, 3) := by decide +kernel
theorem dX3_mend_23 : decode cX3_mend 23 = .ok (.iload_n 1, 1) := by decide +kernel
theorem dX3_mend_24 : decode cX3_mend 24 = .ok (.iaload, 1) := by decide +kernel
theorem dX3_mend_25 : decode cX3_mend 25 = .ok (.istore_n 2, 1) := by decide +kernel
theorem dX3_mend_26 : decode cX3_mend 26 = .ok (.aload_n 0, 1) := by decide +kernel
theorem dX3_mend_27 : decode cX3_mend 27 = .ok (.getfield 31, 3) := by decide +kernel
theorem dX3_mend_30 : decode cX3_mend 30 = .ok (.iload_n 1, 1) := by decide +kernel
theorem dX3_mend_31 : decode cX3_mend 31 = .ok (.iconst 0, 1) := by decide +kernel
theorem dX3_mend_32 : decode cX3_mend 32 = .ok (.iastore, 1) := by decide +kernel
theorem dX3_mend_33 : decode cX3_mend 33 = .ok (.iload_n 2, 1) := by decide +kernel
theorem dX3_mend_34 : decode cX3_mend 34 = .ok (.ireturn, 1) := by decide +kernel
set_option maxRecDepth 20000 in
theorem ggX3_turn_X3_isCrane : GoodIn wsX3_turn wsX3_isCrane := goodIn_r _ [13, 14, 15, 16, 12, 17, 52, 53, 54, 55, 56, 57, 58, 59, 60, 61, 62, 63, 64, 65, 66] (by decide +kernel) (by decide +kernel)
set_option maxRecDepth 20000 in
theorem gX3_turn_X3_isCrane : GoodIn wsX3_turn (wsV RX3 86 RX3 yX3_isCrane wsX3_isCrane) := goodIn_app (goodIn_of _ (by decide +kernel)) ggX3_turn_X3_isCrane
set_option maxRecDepth 20000 in
theorem ggX3_turn_X3_isPlace : GoodIn wsX3_turn wsX3_isPlace := goodIn_r _ [20, 15, 16, 12, 17] (by decide +kernel) (by decide +kernel)
set_option maxRecDepth 20000 in
theorem gX3_turn_X3_isPlace : GoodIn wsX3_turn (va_wsS RX3 76 yX3_isPlace wsX3_isPlace) := goodIn_app (goodIn_of _ (by decide +kernel)) ggX3_turn_X3_isPlace
set_option maxRecDepth 20000 in
theorem ggX3_turn_X3_no : GoodIn wsX3_turn wsX3_no := goodIn_r _ [24, 1, 52, 53, 54, 55, 56, 57, 58, 59, 60, 61, 62, 63, 64, 65, 66] (by decide +kernel) (by decide +kernel)
set_option maxRecDepth 20000 in
theorem gX3_turn_X3_no : GoodIn wsX3_turn (wsV RX3 80 RX3 yX3_no wsX3_no) := goodIn_app (goodIn_of _ (by decide +kernel)) ggX3_turn_X3_no
set_option maxRecDepth 20000 in
theorem ggX3_turn_X3_isInReach : GoodIn wsX3_turn wsX3_isInReach := goodIn_r _ [28, 29, 4, 5, 6, 7, 30, 52, 53, 54, 55, 56, 57, 58, 59, 60, 61, 62, 63, 64, 65, 66] (by decide +kernel) (by decide +kernel)
set_option maxRecDepth 20000 in
theorem gX3_turn_X3_isInReach : GoodIn wsX3_turn (wsV RX3 89 RX3 yX3_isInReach wsX3_isInReach) := goodIn_app (goodIn_of _ (by decide +kernel)) ggX3_turn_X3_isInReach
set_option maxRecDepth 20000 in
theorem ggX3_turn_X3_highest : GoodIn wsX3_turn wsX3_highest := goodIn_r _ [34, 35, 36, 6, 37, 38, 39, 40, 41, 42, 43, 12, 44, 45, 46, 52, 53, 54, 55, 56, 57, 58, 59, 60, 61, 62, 63, 64, 65, 66] (by decide +kernel) (by decide +kernel)
set_option maxRecDepth 20000 in
theorem gX3_turn_X3_highest : GoodIn wsX3_turn (wsV RX3 93 RX3 yX3_highest wsX3_highest) := goodIn_app (goodIn_of _ (by decide +kernel)) ggX3_turn_X3_highest
set_option maxRecDepth 20000 in
theorem ggX3_turn_X3_loaded : GoodIn wsX3_turn wsX3_loaded := goodIn_r _ [50, 51, 52, 53, 54, 55, 56, 57, 58, 59, 60, 61, 62, 63, 64, 65, 66] (by decide +kernel) (by decide +kernel)
set_option maxRecDepth 20000 in
theorem gX3_turn_X3_loaded : GoodIn wsX3_turn (wsV RX3 66 RX3 yX3_loaded wsX3_loaded) := goodIn_app (goodIn_of _ (by decide +kernel)) ggX3_turn_X3_loaded
theorem dX3_turn_0 : decode cX3_turn 0 = .ok (.aload_n 0, 1) := by decide +kernel
theorem dX3_turn_1 : decode cX3_turn 1 = .ok (.iconst 0, 1) := by decide +kernel
theorem dX3_turn_2 : decode cX3_turn 2 = .ok (.putfield 43, 3) := by decide +kernel
theorem dX3_turn_5 : decode cX3_turn 5 = .ok (.aload_n 0, 1) := by decide +kernel
theorem dX3_turn_6 : decode cX3_turn 6 = .ok (.iload_n 1, 1) := by decide +kernel
theorem dX3_turn_7 : decode cX3_turn 7 = .ok (.invokevirtual 86, 3) := by decide +kernel
theorem dX3_turn_10 : decode cX3_turn 10 = .ok (.ifCond .eq 10, 3) := by decide +kernel
theorem dX3_turn_13 : decode cX3_turn 13 = .ok (.iload_n 2, 1) := by decide +kernel
theorem dX3_turn_14 : decode cX3_turn 14 = .ok (.invokestatic 76, 3) := by decide +kernel
theorem dX3_turn_17 : decode cX3_turn 17 = .ok (.ifCond .ne 9, 3) := by decide +kernel
theorem dX3_turn_20 : decode cX3_turn 20 = .ok (.aload_n 0, 1) := by decide +kernel
theorem dX3_turn_21 : decode cX3_turn 21 = .ok (.iconst 1, 1) := by decide +kernel
theorem dX3_turn_22 : decode cX3_turn 22 = .ok (.invokevirtual 80, 3) := by decide +kernel
theorem dX3_turn_25 : decode cX3_turn 25 = .ok (.ireturn, 1) := by decide +kernel
theorem dX3_turn_26 : decode cX3_turn 26 = .ok (.aload_n 0, 1) := by decide +kernel
theorem dX3_turn_27 : decode cX3_turn 27 = .ok (.iload_n 1, 1) := by decide +kernel
theorem dX3_turn_28 : decode cX3_turn 28 = .ok (.iload_n 2, 1) := by decide +kernel
theorem dX3_turn_29 : decode cX3_turn 29 = .ok (.invokevirtual 89, 3) := by decide +kernel
theorem dX3_turn_32 : decode cX3_turn 32 = .ok (.ifCond .eq 30, 3) := by decide +kernel
theorem dX3_turn_35 : decode cX3_turn 35 = .ok (.aload_n 0, 1) := by decide +kernel
theorem dX3_turn_36 : decode cX3_turn 36 = .ok (.getfield 37, 3) := by decide +kernel
theorem dX3_turn_39 : decode cX3_turn 39 = .ok (.iload_n 1, 1) := by decide +kernel
theorem dX3_turn_40 : decode cX3_turn 40 = .ok (.iaload, 1) := by decide +kernel
theorem dX3_turn_41 : decode cX3_turn 41 = .ok (.aload_n 0, 1) := by decide +kernel
theorem dX3_turn_42 : decode cX3_turn 42 = .ok (.aload_n 0, 1) := by decide +kernel
theorem dX3_turn_43 : decode cX3_turn 43 = .ok (.getfield 34, 3) := by decide +kernel
theorem dX3_turn_46 : decode cX3_turn 46 = .ok (.iload_n 1, 1) := by decide +kernel
theorem dX3_turn_47 : decode cX3_turn 47 = .ok (.iaload, 1) := by decide +kernel
theorem dX3_turn_48 : decode cX3_turn 48 = .ok (.iload_n 2, 1) := by decide +kernel
theorem dX3_turn_49 : decode cX3_turn 49 = .ok (.iconst (-1), 1) := by decide +kernel
theorem dX3_turn_50 : decode cX3_turn 50 = .ok (.invokevirtual 93, 3) := by decide +kernel
theorem dX3_turn_53 : decode cX3_turn 53 = .ok (.aload_n 0, 1) := by decide +kernel
theorem dX3_turn_54 : decode cX3_turn 54 = .ok (.iload_n 1, 1) := by decide +kernel
theorem dX3_turn_55 : decode cX3_turn 55 = .ok (.invokevirtual 66, 3) := by decide +kernel
theorem dX3_turn_58 : decode cX3_turn 58 = .ok (.iadd, 1) := by decide +kernel
theorem dX3_turn_59 : decode cX3_turn 59 = .ok (.if_icmp .ge 9, 3) := by decide +kernel
theorem dX3_turn_62 : decode cX3_turn 62 = .ok (.aload_n 0, 1) := by decide +kernel
theorem dX3_turn_63 : decode cX3_turn 63 = .ok (.iconst 2, 1) := by decide +kernel
theorem dX3_turn_64 : decode cX3_turn 64 = .ok (.invokevirtual 80, 3) := by decide +kernel
theorem dX3_turn_67 : decode cX3_turn 67 = .ok (.ireturn, 1) := by decide +kernel
theorem dX3_turn_68 : decode cX3_turn 68 = .ok (.aload_n 0, 1) := by decide +kernel
theorem dX3_turn_69 : decode cX3_turn 69 = .ok (.getfield 34, 3) := by decide +kernel
theorem dX3_turn_72 : decode cX3_turn 72 = .ok (.iload_n 1, 1) := by decide +kernel
theorem dX3_turn_73 : decode cX3_turn 73 = .ok (.iaload, 1) := by decide +kernel
theorem dX3_turn_74 : decode cX3_turn 74 = .ok (.iload_n 2, 1) := by decide +kernel
theorem dX3_turn_75 : decode cX3_turn 75 = .ok (.isub, 1) := by decide +kernel
theorem dX3_turn_76 : decode cX3_turn 76 = .ok (.invokestatic 61, 3) := by decide +kernel
theorem dX3_turn_79 : decode cX3_turn 79 = .ok (.istore_n 3, 1) := by decide +kernel
theorem dX3_turn_80 : decode cX3_turn 80 = .ok (.aload_n 0, 1) := by decide +kernel
theorem dX3_turn_81 : decode cX3_turn 81 = .ok (.getfield 34, 3) := by decide +kernel
theorem dX3_turn_84 : decode cX3_turn 84 = .ok (.iload_n 1, 1) := by decide +kernel
theorem dX3_turn_85 : decode cX3_turn 85 = .ok (.iload_n 2, 1) := by decide +kernel
theorem dX3_turn_86 : decode cX3_turn 86 = .ok (.iastore, 1) := by decide +kernel
theorem dX3_turn_87 : decode cX3_turn 87 = .ok (.aload_n 0, 1) := by decide +kernel
theorem dX3_turn_88 : decode cX3_turn 88 = .ok (.dup, 1) := by decide +kernel
theorem dX3_turn_89 : decode cX3_turn 89 = .ok (.getfield 97, 3) := by decide +kernel
theorem dX3_turn_92 : decode cX3_turn 92 = .ok (.iload_n 3, 1) := by decide +kernel
theorem dX3_turn_93 : decode cX3_turn 93 = .ok (.iadd, 1) := by decide +kernel
theorem dX3_turn_94 : decode cX3_turn 94 = .ok (.putfield 97, 3) := by decide +kernel
theorem dX3_turn_97 : decode cX3_turn 97 = .ok (.iload_n 3, 1) := by decide +kernel
theorem dX3_turn_98 : decode cX3_turn 98 = .ok (.ireturn, 1) := by decide +kernel
set_option maxRecDepth 20000 in
theorem ggX3_canLift_X3_strength : GoodIn wsX3_canLift wsX3_strength := goodIn_r _ [7, 8, 9, 10, 11, 12, 13, 14, 15, 16, 17, 18, 19, 20, 21, 22, 23, 24] (by decide +kernel) (by decide +kernel)
set_option maxRecDepth 20000 in
theorem gX3_canLift_X3_strength : GoodIn wsX3_canLift (wsV RX3 100 RX3 yX3_strength wsX3_strength) := goodIn_app (goodIn_of _ (by decide +kernel)) ggX3_canLift_X3_strength
theorem dX3_canLift_0 : decode cX3_canLift 0 = .ok (.aload_n 0, 1) := by decide +kernel
theorem dX3_canLift_1 : decode cX3_canLift 1 = .ok (.getfield 40, 3) := by decide +kernel
theorem dX3_canLift_4 : decode cX3_canLift 4 = .ok (.iload_n 1, 1) := by decide +kernel
theorem dX3_canLift_5 : decode cX3_canLift 5 = .ok (.iaload, 1) := by decide +kernel
theorem dX3_canLift_6 : decode cX3_canLift 6 = .ok (.iconst (-1), 1) := by decide +kernel
theorem dX3_canLift_7 : decode cX3_canLift 7 = .ok (.if_icmp .eq 22, 3) := by decide +kernel
theorem dX3_canLift_10 : decode cX3_canLift 10 = .ok (.aload_n 0, 1) := by decide +kernel
theorem dX3_canLift_11 : decode cX3_canLift 11 = .ok (.getfield 9, 3) := by decide +kernel
theorem dX3_canLift_14 : decode cX3_canLift 14 = .ok (.aload_n 0, 1) := by decide +kernel
theorem dX3_canLift_15 : decode cX3_canLift 15 = .ok (.getfield 40, 3) := by decide +kernel
theorem dX3_canLift_18 : decode cX3_canLift 18 = .ok (.iload_n 1, 1) := by decide +kernel
theorem dX3_canLift_19 : decode cX3_canLift 19 = .ok (.iaload, 1) := by decide +kernel
theorem dX3_canLift_20 : decode cX3_canLift 20 = .ok (.iaload, 1) := by decide +kernel
theorem dX3_canLift_21 : decode cX3_canLift 21 = .ok (.aload_n 0, 1) := by decide +kernel
theorem dX3_canLift_22 : decode cX3_canLift 22 = .ok (.iload_n 1, 1) := by decide +kernel
theorem dX3_canLift_23 : decode cX3_canLift 23 = .ok (.invokevirtual 100, 3) := by decide +kernel
theorem dX3_canLift_26 : decode cX3_canLift 26 = .ok (.if_icmp .gt 7, 3) := by decide +kernel
theorem dX3_canLift_29 : decode cX3_canLift 29 = .ok (.iconst 1, 1) := by decide +kernel
theorem dX3_canLift_30 : decode cX3_canLift 30 = .ok (.goto 4, 3) := by decide +kernel
theorem dX3_canLift_33 : decode cX3_canLift 33 = .ok (.iconst 0, 1) := by decide +kernel
theorem dX3_canLift_34 : decode cX3_canLift 34 = .ok (.ireturn, 1) := by decide +kernel
set_option maxRecDepth 20000 in
theorem ggX3_hoist_X3_isCrane : GoodIn wsX3_hoist wsX3_isCrane := goodIn_r _ [16, 17, 18, 19, 15, 20, 53, 54, 55, 56, 57, 58, 59, 60, 61, 62, 63, 64, 65, 66, 67] (by decide +kernel) (by decide +kernel)
set_option maxRecDepth 20000 in
theorem gX3_hoist_X3_isCrane : GoodIn wsX3_hoist (wsV RX3 86 RX3 yX3_isCrane wsX3_isCrane) := goodIn_app (goodIn_of _ (by decide +kernel)) ggX3_hoist_X3_isCrane
set_option maxRecDepth 20000 in
theorem ggX3_hoist_X3_no : GoodIn wsX3_hoist wsX3_no := goodIn_r _ [24, 1, 53, 54, 55, 56, 57, 58, 59, 60, 61, 62, 63, 64, 65, 66, 67] (by decide +kernel) (by decide +kernel)
set_option maxRecDepth 20000 in
theorem gX3_hoist_X3_no : GoodIn wsX3_hoist (wsV RX3 80 RX3 yX3_no wsX3_no) := goodIn_app (goodIn_of _ (by decide +kernel)) ggX3_hoist_X3_no
set_option maxRecDepth 20000 in
theorem ggX3_hoist_X3_isIn : GoodIn wsX3_hoist wsX3_isIn := goodIn_r _ [20] (by decide +kernel) (by decide +kernel)
set_option maxRecDepth 20000 in
theorem gX3_hoist_X3_isIn : GoodIn wsX3_hoist (va_wsS RX3 47 yX3_isIn wsX3_isIn) := goodIn_app (goodIn_of _ (by decide +kernel)) ggX3_hoist_X3_isIn
set_option maxRecDepth 20000 in
theorem ggX3_hoist_X3_high : GoodIn wsX3_hoist wsX3_high := goodIn_r _ [28, 29, 30, 53, 54, 55, 56, 57, 58, 59, 60, 61, 62, 63, 64, 65, 66, 67] (by decide +kernel) (by decide +kernel)
set_option maxRecDepth 20000 in
theorem gX3_hoist_X3_high : GoodIn wsX3_hoist (wsV RX3 57 RX3 yX3_high wsX3_high) := goodIn_app (goodIn_of _ (by decide +kernel)) ggX3_hoist_X3_high
set_option maxRecDepth 20000 in
theorem ggX3_hoist_X3_loaded : GoodIn wsX3_hoist wsX3_loaded := goodIn_r _ [34, 8, 53, 54, 55, 56, 57, 58, 59, 60, 61, 62, 63, 64, 65, 66, 67] (by decide +kernel) (by decide +kernel)
set_option maxRecDepth 20000 in
theorem gX3_hoist_X3_loaded : GoodIn wsX3_hoist (wsV RX3 66 RX3 yX3_loaded wsX3_loaded) := goodIn_app (goodIn_of _ (by decide +kernel)) ggX3_hoist_X3_loaded
set_option maxRecDepth 20000 in
theorem ggX3_hoist_X3_canLift : GoodIn wsX3_hoist wsX3_canLift := goodIn_r _ [38, 8, 9, 39, 40, 41, 15, 42, 43, 44, 53, 54, 55, 56, 57, 58, 59, 60, 61, 62, 63, 64, 65, 66, 67] (by decide +kernel) (by decide +kernel)
set_option maxRecDepth 20000 in
theorem gX3_hoist_X3_canLift : GoodIn wsX3_hoist (wsV RX3 103 RX3 yX3_canLift wsX3_canLift) := goodIn_app (goodIn_of _ (by decide +kernel)) ggX3_hoist_X3_canLift
set_option maxRecDepth 20000 in
theorem ggX3_hoist_X3_wound : GoodIn wsX3_hoist wsX3_wound := goodIn_r _ [48, 44, 53, 54, 55, 56, 57, 58, 59, 60, 61, 62, 63, 64, 65, 66, 67] (by decide +kernel) (by decide +kernel)
set_option maxRecDepth 20000 in
theorem gX3_hoist_X3_wound : GoodIn wsX3_hoist (wsV RX3 106 RX3 yX3_wound wsX3_wound) := goodIn_app (goodIn_of _ (by decide +kernel)) ggX3_hoist_X3_wound
set_option maxRecDepth 20000 in
theorem ggX3_hoist_X3_fall : GoodIn wsX3_hoist wsX3_fall := goodIn_r _ [52, 30, 8, 10, 53, 54, 55, 56, 57, 58, 59, 60, 61, 62, 63, 64, 65, 66, 67] (by decide +kernel) (by decide +kernel)
set_option maxRecDepth 20000 in
theorem gX3_hoist_X3_fall : GoodIn wsX3_hoist (wsV RX3 109 RX3 yX3_fall wsX3_fall) := goodIn_app (goodIn_of _ (by decide +kernel)) ggX3_hoist_X3_fall
theorem dX3_hoist_0 : decode cX3_hoist 0 = .ok (.aload_n 0, 1) := by decide +kernel
theorem dX3_hoist_1 : decode cX3_hoist 1 = .ok (.iconst 0, 1) := by decide +kernel
theorem dX3_hoist_2 : decode cX3_hoist 2 = .ok (.putfield 43, 3) := by decide +kernel
theorem dX3_hoist_5 : decode cX3_hoist 5 = .ok (.aload_n 0, 1) := by decide +kernel
theorem dX3_hoist_6 : decode cX3_hoist 6 = .ok (.iload_n 1, 1) := by decide +kernel
theorem dX3_hoist_7 : decode cX3_hoist 7 = .ok (.invokevirtual 86, 3) := by decide +kernel
theorem dX3_hoist_10 : decode cX3_hoist 10 = .ok (.ifCond .ne 9, 3) := by decide +kernel
theorem dX3_hoist_13 : decode cX3_hoist 13 = .ok (.aload_n 0, 1) := by decide +kernel
theorem dX3_hoist_14 : decode cX3_hoist 14 = .ok (.iconst 1, 1) := by decide +kernel
theorem dX3_hoist_15 : decode cX3_hoist 15 = .ok (.invokevirtual 80, 3) := by decide +kernel
theorem dX3_hoist_18 : decode cX3_hoist 18 = .ok (.ireturn, 1) := by decide +kernel
theorem dX3_hoist_19 : decode cX3_hoist 19 = .ok (.iload_n 2, 1) := by decide +kernel
theorem dX3_hoist_20 : decode cX3_hoist 20 = .ok (.iconst 0, 1) := by decide +kernel
theorem dX3_hoist_21 : decode cX3_hoist 21 = .ok (.bipush 20, 2) := by decide +kernel
theorem dX3_hoist_23 : decode cX3_hoist 23 = .ok (.invokestatic 47, 3) := by decide +kernel
theorem dX3_hoist_26 : decode cX3_hoist 26 = .ok (.ifCond .ne 9, 3) := by decide +kernel
theorem dX3_hoist_29 : decode cX3_hoist 29 = .ok (.aload_n 0, 1) := by decide +kernel
theorem dX3_hoist_30 : decode cX3_hoist 30 = .ok (.iconst 2, 1) := by decide +kernel
theorem dX3_hoist_31 : decode cX3_hoist 31 = .ok (.invokevirtual 80, 3) := by decide +kernel
theorem dX3_hoist_34 : decode cX3_hoist 34 = .ok (.ireturn, 1) := by decide +kernel
theorem dX3_hoist_35 : decode cX3_hoist 35 = .ok (.iload_n 2, 1) := by decide +kernel
theorem dX3_hoist_36 : decode cX3_hoist 36 = .ok (.aload_n 0, 1) := by decide +kernel
theorem dX3_hoist_37 : decode cX3_hoist 37 = .ok (.getfield 37, 3) := by decide +kernel
theorem dX3_hoist_40 : decode cX3_hoist 40 = .ok (.iload_n 1, 1) := by decide +kernel
theorem dX3_hoist_41 : decode cX3_hoist 41 = .ok (.iaload, 1) := by decide +kernel
theorem dX3_hoist_42 : decode cX3_hoist 42 = .ok (.isub, 1) := by decide +kernel
theorem dX3_hoist_43 : decode cX3_hoist 43 = .ok (.istore_n 3, 1) := by decide +kernel
theorem dX3_hoist_44 : decode cX3_hoist 44 = .ok (.iload_n 2, 1) := by decide +kernel
theorem dX3_hoist_45 : decode cX3_hoist 45 = .ok (.aload_n 0, 1) := by decide +kernel
theorem dX3_hoist_46 : decode cX3_hoist 46 = .ok (.aload_n 0, 1) := by decide +kernel
theorem dX3_hoist_47 : decode cX3_hoist 47 = .ok (.getfield 34, 3) := by decide +kernel
theorem dX3_hoist_50 : decode cX3_hoist 50 = .ok (.iload_n 1, 1) := by decide +kernel
theorem dX3_hoist_51 : decode cX3_hoist 51 = .ok (.iaload, 1) := by decide +kernel
theorem dX3_hoist_52 : decode cX3_hoist 52 = .ok (.invokevirtual 57, 3) := by decide +kernel
theorem dX3_hoist_55 : decode cX3_hoist 55 = .ok (.aload_n 0, 1) := by decide +kernel
theorem dX3_hoist_56 : decode cX3_hoist 56 = .ok (.iload_n 1, 1) := by decide +kernel
theorem dX3_hoist_57 : decode cX3_hoist 57 = .ok (.invokevirtual 66, 3) := by decide +kernel
theorem dX3_hoist_60 : decode cX3_hoist 60 = .ok (.iadd, 1) := by decide +kernel
theorem dX3_hoist_61 : decode cX3_hoist 61 = .ok (.if_icmp .lt 15, 3) := by decide +kernel
theorem dX3_hoist_64 : decode cX3_hoist 64 = .ok (.iload_n 3, 1) := by decide +kernel
theorem dX3_hoist_65 : decode cX3_hoist 65 = .ok (.ifCond .le 17, 3) := by decide +kernel
theorem dX3_hoist_68 : decode cX3_hoist 68 = .ok (.aload_n 0, 1) := by decide +kernel
theorem dX3_hoist_69 : decode cX3_hoist 69 = .ok (.iload_n 1, 1) := by decide +kernel
theorem dX3_hoist_70 : decode cX3_hoist 70 = .ok (.invokevirtual 103, 3) := by decide +kernel
theorem dX3_hoist_73 : decode cX3_hoist 73 = .ok (.ifCond .ne 9, 3) := by decide +kernel
theorem dX3_hoist_76 : decode cX3_hoist 76 = .ok (.aload_n 0, 1) := by decide +kernel
theorem dX3_hoist_77 : decode cX3_hoist 77 = .ok (.iconst 3, 1) := by decide +kernel
theorem dX3_hoist_78 : decode cX3_hoist 78 = .ok (.invokevirtual 80, 3) := by decide +kernel
theorem dX3_hoist_81 : decode cX3_hoist 81 = .ok (.ireturn, 1) := by decide +kernel
theorem dX3_hoist_82 : decode cX3_hoist 82 = .ok (.aload_n 0, 1) := by decide +kernel
theorem dX3_hoist_83 : decode cX3_hoist 83 = .ok (.iload_n 1, 1) := by decide +kernel
theorem dX3_hoist_84 : decode cX3_hoist 84 = .ok (.iload_n 3, 1) := by decide +kernel
theorem dX3_hoist_85 : decode cX3_hoist 85 = .ok (.invokestatic 61, 3) := by decide +kernel
theorem dX3_hoist_88 : decode cX3_hoist 88 = .ok (.invokevirtual 106, 3) := by decide +kernel
theorem dX3_hoist_91 : decode cX3_hoist 91 = .ok (.istore 4, 2) := by decide +kernel
theorem dX3_hoist_93 : decode cX3_hoist 93 = .ok (.iload_n 3, 1) := by decide +kernel
theorem dX3_hoist_94 : decode cX3_hoist 94 = .ok (.ifCond .ge 65, 3) := by decide +kernel
theorem dX3_hoist_97 : decode cX3_hoist 97 = .ok (.aload_n 0, 1) := by decide +kernel
theorem dX3_hoist_98 : decode cX3_hoist 98 = .ok (.getfield 40, 3) := by decide +kernel
theorem dX3_hoist_101 : decode cX3_hoist 101 = .ok (.iload_n 1, 1) := by decide +kernel
theorem dX3_hoist_102 : decode cX3_hoist 102 = .ok (.iaload, 1) := by decide +kernel
theorem dX3_hoist_103 : decode cX3_hoist 103 = .ok (.iconst (-1), 1) := by decide +kernel
theorem dX3_hoist_104 : decode cX3_hoist 104 = .ok (.if_icmp .eq 55, 3) := by decide +kernel
theorem dX3_hoist_107 : decode cX3_hoist 107 = .ok (.iload 4, 2) := by decide +kernel
theorem dX3_hoist_109 : decode cX3_hoist 109 = .ok (.aload_n 0, 1) := by decide +kernel
theorem dX3_hoist_110 : decode cX3_hoist 110 = .ok (.getfield 9, 3) := by decide +kernel
theorem dX3_hoist_113 : decode cX3_hoist 113 = .ok (.aload_n 0, 1) := by decide +kernel
theorem dX3_hoist_114 : decode cX3_hoist 114 = .ok (.getfield 40, 3) := by decide +kernel
theorem dX3_hoist_117 : decode cX3_hoist 117 = .ok (.iload_n 1, 1) := by decide +kernel
theorem dX3_hoist_118 : decode cX3_hoist 118 = .ok (.iaload, 1) := by decide +kernel
theorem dX3_hoist_119 : decode cX3_hoist 119 = .ok (.iaload, 1) := by decide +kernel
theorem dX3_hoist_120 : decode cX3_hoist 120 = .ok (.bipush 20, 2) := by decide +kernel
theorem dX3_hoist_122 : decode cX3_hoist 122 = .ok (.idiv, 1) := by decide +kernel
theorem dX3_hoist_123 : decode cX3_hoist 123 = .ok (.iconst 1, 1) := by decide +kernel
theorem dX3_hoist_124 : decode cX3_hoist 124 = .ok (.iadd, 1) := by decide +kernel
theorem dX3_hoist_125 : decode cX3_hoist 125 = .ok (.imul, 1) := by decide +kernel
theorem dX3_hoist_126 : decode cX3_hoist 126 = .ok (.istore 5, 2) := by decide +kernel
theorem dX3_hoist_128 : decode cX3_hoist 128 = .ok (.aload_n 0, 1) := by decide +kernel
theorem dX3_hoist_129 : decode cX3_hoist 129 = .ok (.getfield 31, 3) := by decide +kernel
theorem dX3_hoist_132 : decode cX3_hoist 132 = .ok (.iload_n 1, 1) := by decide +kernel
theorem dX3_hoist_133 : decode cX3_hoist 133 = .ok (.iaload, 1) := by decide +kernel
theorem dX3_hoist_134 : decode cX3_hoist 134 = .ok (.iload 5, 2) := by decide +kernel
theorem dX3_hoist_136 : decode cX3_hoist 136 = .ok (.iadd, 1) := by decide +kernel
theorem dX3_hoist_137 : decode cX3_hoist 137 = .ok (.bipush 99, 2) := by decide +kernel
theorem dX3_hoist_139 : decode cX3_hoist 139 = .ok (.if_icmp .le 9, 3) := by decide +kernel
theorem dX3_hoist_142 : decode cX3_hoist 142 = .ok (.aload_n 0, 1) := by decide +kernel
theorem dX3_hoist_143 : decode cX3_hoist 143 = .ok (.iload_n 1, 1) := by decide +kernel
theorem dX3_hoist_144 : decode cX3_hoist 144 = .ok (.invokevirtual 109, 3) := by decide +kernel
theorem dX3_hoist_147 : decode cX3_hoist 147 = .ok (.ireturn, 1) := by decide +kernel
theorem dX3_hoist_148 : decode cX3_hoist 148 = .ok (.aload_n 0, 1) := by decide +kernel
theorem dX3_hoist_149 : decode cX3_hoist 149 = .ok (.getfield 31, 3) := by decide +kernel
theorem dX3_hoist_152 : decode cX3_hoist 152 = .ok (.iload_n 1, 1) := by decide +kernel
theorem dX3_hoist_153 : decode cX3_hoist 153 = .ok (.dup2, 1) := by decide +kernel
theorem dX3_hoist_154 : decode cX3_hoist 154 = .ok (.iaload, 1) := by decide +kernel
theorem dX3_hoist_155 : decode cX3_hoist 155 = .ok (.iload 5, 2) := by decide +kernel
theorem dX3_hoist_157 : decode cX3_hoist 157 = .ok (.iadd, 1) := by decide +kernel
theorem dX3_hoist_158 : decode cX3_hoist 158 = .ok (.iastore, 1) := by decide +kernel
theorem dX3_hoist_159 : decode cX3_hoist 159 = .ok (.aload_n 0, 1) := by decide +kernel
theorem dX3_hoist_160 : decode cX3_hoist 160 = .ok (.getfield 37, 3) := by decide +kernel
theorem dX3_hoist_163 : decode cX3_hoist 163 = .ok (.iload_n 1, 1) := by decide +kernel
theorem dX3_hoist_164 : decode cX3_hoist 164 = .ok (.iload_n 2, 1) := by decide +kernel
theorem dX3_hoist_165 : decode cX3_hoist 165 = .ok (.iastore, 1) := by decide +kernel
theorem dX3_hoist_166 : decode cX3_hoist 166 = .ok (.aload_n 0, 1) := by decide +kernel
theorem dX3_hoist_167 : decode cX3_hoist 167 = .ok (.dup, 1) := by decide +kernel
theorem dX3_hoist_168 : decode cX3_hoist 168 = .ok (.getfield 97, 3) := by decide +kernel
theorem dX3_hoist_171 : decode cX3_hoist 171 = .ok (.iload 4, 2) := by decide +kernel
theorem dX3_hoist_173 : decode cX3_hoist 173 = .ok (.iadd, 1) := by decide +kernel
theorem dX3_hoist_174 : decode cX3_hoist 174 = .ok (.putfield 97, 3) := by decide +kernel
theorem dX3_hoist_177 : decode cX3_hoist 177 = .ok (.iload 4, 2) := by decide +kernel
theorem dX3_hoist_179 : decode cX3_hoist 179 = .ok (.ireturn, 1) := by decide +kernel
theorem dX3_fall_0 : decode cX3_fall 0 = .ok (.aload_n 0, 1) := by decide +kernel
theorem dX3_fall_1 : decode cX3_fall 1 = .ok (.getfield 13, 3) := by decide +kernel
theorem dX3_fall_4 : decode cX3_fall 4 = .ok (.aload_n 0, 1) := by decide +kernel
theorem dX3_fall_5 : decode cX3_fall 5 = .ok (.getfield 40, 3) := by decide +kernel
theorem dX3_fall_8 : decode cX3_fall 8 = .ok (.iload_n 1, 1) := by decide +kernel
theorem dX3_fall_9 : decode cX3_fall 9 = .ok (.iaload, 1) := by decide +kernel
theorem dX3_fall_10 : decode cX3_fall 10 = .ok (.bipush (-2), 2) := by decide +kernel
theorem dX3_fall_12 : decode cX3_fall 12 = .ok (.iastore, 1) := by decide +kernel
theorem dX3_fall_13 : decode cX3_fall 13 = .ok (.aload_n 0, 1) := by decide +kernel
theorem dX3_fall_14 : decode cX3_fall 14 = .ok (.getfield 40, 3) := by decide +kernel
theorem dX3_fall_17 : decode cX3_fall 17 = .ok (.iload_n 1, 1) := by decide +kernel
theorem dX3_fall_18 : decode cX3_fall 18 = .ok (.iconst (-1), 1) := by decide +kernel
theorem dX3_fall_19 : decode cX3_fall 19 = .ok (.iastore, 1) := by decide +kernel
theorem dX3_fall_20 : decode cX3_fall 20 = .ok (.aload_n 0, 1) := by decide +kernel
theorem dX3_fall_21 : decode cX3_fall 21 = .ok (.getfield 31, 3) := by decide +kernel
theorem dX3_fall_24 : decode cX3_fall 24 = .ok (.iload_n 1, 1) := by decide +kernel
theorem dX3_fall_25 : decode cX3_fall 25 = .ok (.bipush 99, 2) := by decide +kernel
theorem dX3_fall_27 : decode cX3_fall 27 = .ok (.iastore, 1) := by decide +kernel
theorem dX3_fall_28 : decode cX3_fall 28 = .ok (.iconst (-1), 1) := by decide +kernel
theorem dX3_fall_29 : decode cX3_fall 29 = .ok (.ireturn, 1) := by decide +kernel
set_option maxRecDepth 20000 in
theorem ggX3_take_X3_isCrane : GoodIn wsX3_take wsX3_isCrane := goodIn_r _ [10, 11, 12, 13, 9, 14, 29, 30, 31, 32, 33, 34, 35, 36, 37, 38, 39, 40, 41, 42, 43] (by decide +kernel) (by decide +kernel)
set_option maxRecDepth 20000 in
theorem gX3_take_X3_isCrane : GoodIn wsX3_take (wsV RX3 86 RX3 yX3_isCrane wsX3_isCrane) := goodIn_app (goodIn_of _ (by decide +kernel)) ggX3_take_X3_isCrane
set_option maxRecDepth 20000 in
theorem ggX3_take_X3_no : GoodIn wsX3_take wsX3_no := goodIn_r _ [18, 1, 29, 30, 31, 32, 33, 34, 35, 36, 37, 38, 39, 40, 41, 42, 43] (by decide +kernel) (by decide +kernel)
set_option maxRecDepth 20000 in
theorem gX3_take_X3_no : GoodIn wsX3_take (wsV RX3 80 RX3 yX3_no wsX3_no) := goodIn_app (goodIn_of _ (by decide +kernel)) ggX3_take_X3_no
set_option maxRecDepth 20000 in
theorem ggX3_take_X3_high : GoodIn wsX3_take wsX3_high := goodIn_r _ [22, 23, 5, 29, 30, 31, 32, 33, 34, 35, 36, 37, 38, 39, 40, 41, 42, 43] (by decide +kernel) (by decide +kernel)
set_option maxRecDepth 20000 in
theorem gX3_take_X3_high : GoodIn wsX3_take (wsV RX3 57 RX3 yX3_high wsX3_high) := goodIn_app (goodIn_of _ (by decide +kernel)) ggX3_take_X3_high
set_option maxRecDepth 20000 in
theorem ggX3_take_X3_top : GoodIn wsX3_take wsX3_top := goodIn_r _ [27, 23, 5, 28, 19, 20, 21, 9, 22, 29, 30, 31, 32, 33, 34, 35, 36, 37, 38, 39, 40, 41, 42, 43] (by decide +kernel) (by decide +kernel)
set_option maxRecDepth 20000 in
theorem gX3_take_X3_top : GoodIn wsX3_take (wsV RX3 112 RX3 yX3_top wsX3_top) := goodIn_app (goodIn_of _ (by decide +kernel)) ggX3_take_X3_top
theorem dX3_take_0 : decode cX3_take 0 = .ok (.aload_n 0, 1) := by decide +kernel
theorem dX3_take_1 : decode cX3_take 1 = .ok (.iconst 0, 1) := by decide +kernel
theorem dX3_take_2 : decode cX3_take 2 = .ok (.putfield 43, 3) := by decide +kernel
theorem dX3_take_5 : decode cX3_take 5 = .ok (.aload_n 0, 1) := by decide +kernel
theorem dX3_take_6 : decode cX3_take 6 = .ok (.iload_n 1, 1) := by decide +kernel
theorem dX3_take_7 : decode cX3_take 7 = .ok (.invokevirtual 86, 3) := by decide +kernel
theorem dX3_take_10 : decode cX3_take 10 = .ok (.ifCond .ne 9, 3) := by decide +kernel
theorem dX3_take_13 : decode cX3_take 13 = .ok (.aload_n 0, 1) := by decide +kernel
theorem dX3_take_14 : decode cX3_take 14 = .ok (.iconst 1, 1) := by decide +kernel
theorem dX3_take_15 : decode cX3_take 15 = .ok (.invokevirtual 80, 3) := by decide +kernel
theorem dX3_take_18 : decode cX3_take 18 = .ok (.ireturn, 1) := by decide +kernel
theorem dX3_take_19 : decode cX3_take 19 = .ok (.aload_n 0, 1) := by decide +kernel
theorem dX3_take_20 : decode cX3_take 20 = .ok (.aload_n 0, 1) := by decide +kernel
theorem dX3_take_21 : decode cX3_take 21 = .ok (.getfield 34, 3) := by decide +kernel
theorem dX3_take_24 : decode cX3_take 24 = .ok (.iload_n 1, 1) := by decide +kernel
theorem dX3_take_25 : decode cX3_take 25 = .ok (.iaload, 1) := by decide +kernel
theorem dX3_take_26 : decode cX3_take 26 = .ok (.invokevirtual 57, 3) := by decide +kernel
theorem dX3_take_29 : decode cX3_take 29 = .ok (.istore_n 2, 1) := by decide +kernel
theorem dX3_take_30 : decode cX3_take 30 = .ok (.aload_n 0, 1) := by decide +kernel
theorem dX3_take_31 : decode cX3_take 31 = .ok (.getfield 40, 3) := by decide +kernel
theorem dX3_take_34 : decode cX3_take 34 = .ok (.iload_n 1, 1) := by decide +kernel
theorem dX3_take_35 : decode cX3_take 35 = .ok (.iaload, 1) := by decide +kernel
theorem dX3_take_36 : decode cX3_take 36 = .ok (.iconst (-1), 1) := by decide +kernel
theorem dX3_take_37 : decode cX3_take 37 = .ok (.if_icmp .ne 17, 3) := by decide +kernel
theorem dX3_take_40 : decode cX3_take 40 = .ok (.iload_n 2, 1) := by decide +kernel
theorem dX3_take_41 : decode cX3_take 41 = .ok (.ifCond .eq 13, 3) := by decide +kernel
theorem dX3_take_44 : decode cX3_take 44 = .ok (.aload_n 0, 1) := by decide +kernel
theorem dX3_take_45 : decode cX3_take 45 = .ok (.getfield 37, 3) := by decide +kernel
theorem dX3_take_48 : decode cX3_take 48 = .ok (.iload_n 1, 1) := by decide +kernel
theorem dX3_take_49 : decode cX3_take 49 = .ok (.iaload, 1) := by decide +kernel
theorem dX3_take_50 : decode cX3_take 50 = .ok (.iload_n 2, 1) := by decide +kernel
theorem dX3_take_51 : decode cX3_take 51 = .ok (.if_icmp .eq 9, 3) := by decide +kernel
theorem dX3_take_54 : decode cX3_take 54 = .ok (.aload_n 0, 1) := by decide +kernel
theorem dX3_take_55 : decode cX3_take 55 = .ok (.iconst 2, 1) := by decide +kernel
theorem dX3_take_56 : decode cX3_take 56 = .ok (.invokevirtual 80, 3) := by decide +kernel
theorem dX3_take_59 : decode cX3_take 59 = .ok (.ireturn, 1) := by decide +kernel
theorem dX3_take_60 : decode cX3_take 60 = .ok (.aload_n 0, 1) := by decide +kernel
theorem dX3_take_61 : decode cX3_take 61 = .ok (.getfield 40, 3) := by decide +kernel
theorem dX3_take_64 : decode cX3_take 64 = .ok (.iload_n 1, 1) := by decide +kernel
theorem dX3_take_65 : decode cX3_take 65 = .ok (.aload_n 0, 1) := by decide +kernel
theorem dX3_take_66 : decode cX3_take 66 = .ok (.aload_n 0, 1) := by decide +kernel
theorem dX3_take_67 : decode cX3_take 67 = .ok (.getfield 34, 3) := by decide +kernel
theorem dX3_take_70 : decode cX3_take 70 = .ok (.iload_n 1, 1) := by decide +kernel
theorem dX3_take_71 : decode cX3_take 71 = .ok (.iaload, 1) := by decide +kernel
theorem dX3_take_72 : decode cX3_take 72 = .ok (.invokevirtual 112, 3) := by decide +kernel
theorem dX3_take_75 : decode cX3_take 75 = .ok (.iastore, 1) := by decide +kernel
theorem dX3_take_76 : decode cX3_take 76 = .ok (.aload_n 0, 1) := by decide +kernel
theorem dX3_take_77 : decode cX3_take 77 = .ok (.getfield 13, 3) := by decide +kernel
theorem dX3_take_80 : decode cX3_take 80 = .ok (.aload_n 0, 1) := by decide +kernel
theorem dX3_take_81 : decode cX3_take 81 = .ok (.getfield 40, 3) := by decide +kernel
theorem dX3_take_84 : decode cX3_take 84 = .ok (.iload_n 1, 1) := by decide +kernel
theorem dX3_take_85 : decode cX3_take 85 = .ok (.iaload, 1) := by decide +kernel
theorem dX3_take_86 : decode cX3_take 86 = .ok (.iconst (-1), 1) := by decide +kernel
theorem dX3_take_87 : decode cX3_take 87 = .ok (.iastore, 1) := by decide +kernel
theorem dX3_take_88 : decode cX3_take 88 = .ok (.aload_n 0, 1) := by decide +kernel
theorem dX3_take_89 : decode cX3_take 89 = .ok (.getfield 40, 3) := by decide +kernel
theorem dX3_take_92 : decode cX3_take 92 = .ok (.iload_n 1, 1) := by decide +kernel
theorem dX3_take_93 : decode cX3_take 93 = .ok (.iaload, 1) := by decide +kernel
theorem dX3_take_94 : decode cX3_take 94 = .ok (.ireturn, 1) := by decide +kernel
set_option maxRecDepth 20000 in
theorem ggX3_lay_X3_isCrane : GoodIn wsX3_lay wsX3_isCrane := goodIn_r _ [11, 12, 13, 14, 10, 15, 33, 34, 35, 36, 37, 38, 39, 40, 41, 42, 43, 44, 45, 46, 47] (by decide +kernel) (by decide +kernel)
set_option maxRecDepth 20000 in
theorem gX3_lay_X3_isCrane : GoodIn wsX3_lay (wsV RX3 86 RX3 yX3_isCrane wsX3_isCrane) := goodIn_app (goodIn_of _ (by decide +kernel)) ggX3_lay_X3_isCrane
set_option maxRecDepth 20000 in
theorem ggX3_lay_X3_no : GoodIn wsX3_lay wsX3_no := goodIn_r _ [19, 1, 33, 34, 35, 36, 37, 38, 39, 40, 41, 42, 43, 44, 45, 46, 47] (by decide +kernel) (by decide +kernel)
set_option maxRecDepth 20000 in
theorem gX3_lay_X3_no : GoodIn wsX3_lay (wsV RX3 80 RX3 yX3_no wsX3_no) := goodIn_app (goodIn_of _ (by decide +kernel)) ggX3_lay_X3_no
set_option maxRecDepth 20000 in
theorem ggX3_lay_X3_high : GoodIn wsX3_lay wsX3_high := goodIn_r _ [23, 24, 5, 33, 34, 35, 36, 37, 38, 39, 40, 41, 42, 43, 44, 45, 46, 47] (by decide +kernel) (by decide +kernel)
set_option maxRecDepth 20000 in
theorem gX3_lay_X3_high : GoodIn wsX3_lay (wsV RX3 57 RX3 yX3_high wsX3_high) := goodIn_app (goodIn_of _ (by decide +kernel)) ggX3_lay_X3_high
set_option maxRecDepth 20000 in
theorem ggX3_lay_X3_isTooLow : GoodIn wsX3_lay wsX3_isTooLow := goodIn_r _ [28, 12, 2, 4, 29, 30, 31, 10, 32, 3, 33, 34, 35, 36, 37, 38, 39, 40, 41, 42, 43, 44, 45, 46, 47] (by decide +kernel) (by decide +kernel)
set_option maxRecDepth 20000 in
theorem gX3_lay_X3_isTooLow : GoodIn wsX3_lay (wsV RX3 83 RX3 yX3_isTooLow wsX3_isTooLow) := goodIn_app (goodIn_of _ (by decide +kernel)) ggX3_lay_X3_isTooLow
theorem dX3_lay_0 : decode cX3_lay 0 = .ok (.aload_n 0, 1) := by decide +kernel
theorem dX3_lay_1 : decode cX3_lay 1 = .ok (.iconst 0, 1) := by decide +kernel
theorem dX3_lay_2 : decode cX3_lay 2 = .ok (.putfield 43, 3) := by decide +kernel
theorem dX3_lay_5 : decode cX3_lay 5 = .ok (.aload_n 0, 1) := by decide +kernel
theorem dX3_lay_6 : decode cX3_lay 6 = .ok (.iload_n 1, 1) := by decide +kernel
theorem dX3_lay_7 : decode cX3_lay 7 = .ok (.invokevirtual 86, 3) := by decide +kernel
theorem dX3_lay_10 : decode cX3_lay 10 = .ok (.ifCond .ne 9, 3) := by decide +kernel
theorem dX3_lay_13 : decode cX3_lay 13 = .ok (.aload_n 0, 1) := by decide +kernel
theorem dX3_lay_14 : decode cX3_lay 14 = .ok (.iconst 1, 1) := by decide +kernel
theorem dX3_lay_15 : decode cX3_lay 15 = .ok (.invokevirtual 80, 3) := by decide +kernel
theorem dX3_lay_18 : decode cX3_lay 18 = .ok (.ireturn, 1) := by decide +kernel
theorem dX3_lay_19 : decode cX3_lay 19 = .ok (.aload_n 0, 1) := by decide +kernel
theorem dX3_lay_20 : decode cX3_lay 20 = .ok (.aload_n 0, 1) := by decide +kernel
theorem dX3_lay_21 : decode cX3_lay 21 = .ok (.getfield 34, 3) := by decide +kernel
theorem dX3_lay_24 : decode cX3_lay 24 = .ok (.iload_n 1, 1) := by decide +kernel
theorem dX3_lay_25 : decode cX3_lay 25 = .ok (.iaload, 1) := by decide +kernel
theorem dX3_lay_26 : decode cX3_lay 26 = .ok (.invokevirtual 57, 3) := by decide +kernel
theorem dX3_lay_29 : decode cX3_lay 29 = .ok (.istore_n 2, 1) := by decide +kernel
theorem dX3_lay_30 : decode cX3_lay 30 = .ok (.aload_n 0, 1) := by decide +kernel
theorem dX3_lay_31 : decode cX3_lay 31 = .ok (.getfield 40, 3) := by decide +kernel
theorem dX3_lay_34 : decode cX3_lay 34 = .ok (.iload_n 1, 1) := by decide +kernel
theorem dX3_lay_35 : decode cX3_lay 35 = .ok (.iaload, 1) := by decide +kernel
theorem dX3_lay_36 : decode cX3_lay 36 = .ok (.iconst (-1), 1) := by decide +kernel
theorem dX3_lay_37 : decode cX3_lay 37 = .ok (.if_icmp .eq 38, 3) := by decide +kernel
theorem dX3_lay_40 : decode cX3_lay 40 = .ok (.aload_n 0, 1) := by decide +kernel
theorem dX3_lay_41 : decode cX3_lay 41 = .ok (.getfield 37, 3) := by decide +kernel
theorem dX3_lay_44 : decode cX3_lay 44 = .ok (.iload_n 1, 1) := by decide +kernel
theorem dX3_lay_45 : decode cX3_lay 45 = .ok (.iaload, 1) := by decide +kernel
theorem dX3_lay_46 : decode cX3_lay 46 = .ok (.iload_n 2, 1) := by decide +kernel
theorem dX3_lay_47 : decode cX3_lay 47 = .ok (.iconst 1, 1) := by decide +kernel
theorem dX3_lay_48 : decode cX3_lay 48 = .ok (.iadd, 1) := by decide +kernel
theorem dX3_lay_49 : decode cX3_lay 49 = .ok (.if_icmp .ne 26, 3) := by decide +kernel
theorem dX3_lay_52 : decode cX3_lay 52 = .ok (.iload_n 2, 1) := by decide +kernel
theorem dX3_lay_53 : decode cX3_lay 53 = .ok (.bipush 8, 2) := by decide +kernel
theorem dX3_lay_55 : decode cX3_lay 55 = .ok (.if_icmp .eq 20, 3) := by decide +kernel
theorem dX3_lay_58 : decode cX3_lay 58 = .ok (.aload_n 0, 1) := by decide +kernel
theorem dX3_lay_59 : decode cX3_lay 59 = .ok (.aload_n 0, 1) := by decide +kernel
theorem dX3_lay_60 : decode cX3_lay 60 = .ok (.getfield 34, 3) := by decide +kernel
theorem dX3_lay_63 : decode cX3_lay 63 = .ok (.iload_n 1, 1) := by decide +kernel
theorem dX3_lay_64 : decode cX3_lay 64 = .ok (.iaload, 1) := by decide +kernel
theorem dX3_lay_65 : decode cX3_lay 65 = .ok (.iload_n 2, 1) := by decide +kernel
theorem dX3_lay_66 : decode cX3_lay 66 = .ok (.iconst 1, 1) := by decide +kernel
theorem dX3_lay_67 : decode cX3_lay 67 = .ok (.iadd, 1) := by decide +kernel
theorem dX3_lay_68 : decode cX3_lay 68 = .ok (.iload_n 1, 1) := by decide +kernel
theorem dX3_lay_69 : decode cX3_lay 69 = .ok (.invokevirtual 83, 3) := by decide +kernel
theorem dX3_lay_72 : decode cX3_lay 72 = .ok (.ifCond .eq 9, 3) := by decide +kernel
theorem dX3_lay_75 : decode cX3_lay 75 = .ok (.aload_n 0, 1) := by decide +kernel
theorem dX3_lay_76 : decode cX3_lay 76 = .ok (.iconst 2, 1) := by decide +kernel
theorem dX3_lay_77 : decode cX3_lay 77 = .ok (.invokevirtual 80, 3) := by decide +kernel
theorem dX3_lay_80 : decode cX3_lay 80 = .ok (.ireturn, 1) := by decide +kernel
theorem dX3_lay_81 : decode cX3_lay 81 = .ok (.aload_n 0, 1) := by decide +kernel
theorem dX3_lay_82 : decode cX3_lay 82 = .ok (.getfield 13, 3) := by decide +kernel
theorem dX3_lay_85 : decode cX3_lay 85 = .ok (.aload_n 0, 1) := by decide +kernel
theorem dX3_lay_86 : decode cX3_lay 86 = .ok (.getfield 40, 3) := by decide +kernel
theorem dX3_lay_89 : decode cX3_lay 89 = .ok (.iload_n 1, 1) := by decide +kernel
theorem dX3_lay_90 : decode cX3_lay 90 = .ok (.iaload, 1) := by decide +kernel
theorem dX3_lay_91 : decode cX3_lay 91 = .ok (.aload_n 0, 1) := by decide +kernel
theorem dX3_lay_92 : decode cX3_lay 92 = .ok (.getfield 34, 3) := by decide +kernel
theorem dX3_lay_95 : decode cX3_lay 95 = .ok (.iload_n 1, 1) := by decide +kernel
theorem dX3_lay_96 : decode cX3_lay 96 = .ok (.iaload, 1) := by decide +kernel
theorem dX3_lay_97 : decode cX3_lay 97 = .ok (.iastore, 1) := by decide +kernel
theorem dX3_lay_98 : decode cX3_lay 98 = .ok (.aload_n 0, 1) := by decide +kernel
theorem dX3_lay_99 : decode cX3_lay 99 = .ok (.getfield 16, 3) := by decide +kernel
theorem dX3_lay_102 : decode cX3_lay 102 = .ok (.aload_n 0, 1) := by decide +kernel
theorem dX3_lay_103 : decode cX3_lay 103 = .ok (.getfield 40, 3) := by decide +kernel
theorem dX3_lay_106 : decode cX3_lay 106 = .ok (.iload_n 1, 1) := by decide +kernel
theorem dX3_lay_107 : decode cX3_lay 107 = .ok (.iaload, 1) := by decide +kernel
theorem dX3_lay_108 : decode cX3_lay 108 = .ok (.iload_n 2, 1) := by decide +kernel
theorem dX3_lay_109 : decode cX3_lay 109 = .ok (.iastore, 1) := by decide +kernel
theorem dX3_lay_110 : decode cX3_lay 110 = .ok (.aload_n 0, 1) := by decide +kernel
theorem dX3_lay_111 : decode cX3_lay 111 = .ok (.getfield 40, 3) := by decide +kernel
theorem dX3_lay_114 : decode cX3_lay 114 = .ok (.iload_n 1, 1) := by decide +kernel
theorem dX3_lay_115 : decode cX3_lay 115 = .ok (.iconst (-1), 1) := by decide +kernel
theorem dX3_lay_116 : decode cX3_lay 116 = .ok (.iastore, 1) := by decide +kernel
theorem dX3_lay_117 : decode cX3_lay 117 = .ok (.iload_n 2, 1) := by decide +kernel
theorem dX3_lay_118 : decode cX3_lay 118 = .ok (.iconst 1, 1) := by decide +kernel
theorem dX3_lay_119 : decode cX3_lay 119 = .ok (.iadd, 1) := by decide +kernel
theorem dX3_lay_120 : decode cX3_lay 120 = .ok (.ireturn, 1) := by decide +kernel
set_option maxRecDepth 20000 in
theorem ggX3_placeTold_X3_high : GoodIn wsX3_placeTold wsX3_high := goodIn_r _ [11, 1, 2, 17, 18, 19, 20, 21, 22, 23, 24, 25, 26, 27, 28, 29, 30, 31] (by decide +kernel) (by decide +kernel)
set_option maxRecDepth 20000 in
theorem gX3_placeTold_X3_high : GoodIn wsX3_placeTold (wsV RX3 57 RX3 yX3_high wsX3_high) := goodIn_app (goodIn_of _ (by decide +kernel)) ggX3_placeTold_X3_high
set_option maxRecDepth 20000 in
theorem ggX3_placeTold_X3_top : GoodIn wsX3_placeTold wsX3_top := goodIn_r _ [15, 1, 2, 16, 7, 8, 9, 10, 11, 17, 18, 19, 20, 21, 22, 23, 24, 25, 26, 27, 28, 29, 30, 31] (by decide +kernel) (by decide +kernel)
set_option maxRecDepth 20000 in
theorem gX3_placeTold_X3_top : GoodIn wsX3_placeTold (wsV RX3 112 RX3 yX3_top wsX3_top) := goodIn_app (goodIn_of _ (by decide +kernel)) ggX3_placeTold_X3_top
theorem dX3_placeTold_0 : decode cX3_placeTold 0 = .ok (.iconst 0, 1) := by decide +kernel
theorem dX3_placeTold_1 : decode cX3_placeTold 1 = .ok (.istore_n 3, 1) := by decide +kernel
theorem dX3_placeTold_2 : decode cX3_placeTold 2 = .ok (.iconst 0, 1) := by decide +kernel
theorem dX3_placeTold_3 : decode cX3_placeTold 3 = .ok (.istore 4, 2) := by decide +kernel
theorem dX3_placeTold_5 : decode cX3_placeTold 5 = .ok (.iconst 0, 1) := by decide +kernel
theorem dX3_placeTold_6 : decode cX3_placeTold 6 = .ok (.istore 5, 2) := by decide +kernel
theorem dX3_placeTold_8 : decode cX3_placeTold 8 = .ok (.iload 5, 2) := by decide +kernel
theorem dX3_placeTold_10 : decode cX3_placeTold 10 = .ok (.aload_n 0, 1) := by decide +kernel
theorem dX3_placeTold_11 : decode cX3_placeTold 11 = .ok (.getfield 54, 3) := by decide +kernel
theorem dX3_placeTold_14 : decode cX3_placeTold 14 = .ok (.if_icmp .ge 34, 3) := by decide +kernel
theorem dX3_placeTold_17 : decode cX3_placeTold 17 = .ok (.iload_n 3, 1) := by decide +kernel
theorem dX3_placeTold_18 : decode cX3_placeTold 18 = .ok (.aload_n 0, 1) := by decide +kernel
theorem dX3_placeTold_19 : decode cX3_placeTold 19 = .ok (.getfield 13, 3) := by decide +kernel
theorem dX3_placeTold_22 : decode cX3_placeTold 22 = .ok (.iload 5, 2) := by decide +kernel
theorem dX3_placeTold_24 : decode cX3_placeTold 24 = .ok (.iaload, 1) := by decide +kernel
theorem dX3_placeTold_25 : decode cX3_placeTold 25 = .ok (.iload_n 1, 1) := by decide +kernel
theorem dX3_placeTold_26 : decode cX3_placeTold 26 = .ok (.if_icmp .ne 13, 3) := by decide +kernel
theorem dX3_placeTold_29 : decode cX3_placeTold 29 = .ok (.aload_n 0, 1) := by decide +kernel
theorem dX3_placeTold_30 : decode cX3_placeTold 30 = .ok (.getfield 9, 3) := by decide +kernel
theorem dX3_placeTold_33 : decode cX3_placeTold 33 = .ok (.iload 5, 2) := by decide +kernel
theorem dX3_placeTold_35 : decode cX3_placeTold 35 = .ok (.iaload, 1) := by decide +kernel
theorem dX3_placeTold_36 : decode cX3_placeTold 36 = .ok (.goto 4, 3) := by decide +kernel
theorem dX3_placeTold_39 : decode cX3_placeTold 39 = .ok (.iconst 0, 1) := by decide +kernel
theorem dX3_placeTold_40 : decode cX3_placeTold 40 = .ok (.iadd, 1) := by decide +kernel
theorem dX3_placeTold_41 : decode cX3_placeTold 41 = .ok (.istore_n 3, 1) := by decide +kernel
theorem dX3_placeTold_42 : decode cX3_placeTold 42 = .ok (.iinc 5 1, 3) := by decide +kernel
theorem dX3_placeTold_45 : decode cX3_placeTold 45 = .ok (.goto (-37), 3) := by decide +kernel
theorem dX3_placeTold_48 : decode cX3_placeTold 48 = .ok (.iconst 0, 1) := by decide +kernel
theorem dX3_placeTold_49 : decode cX3_placeTold 49 = .ok (.istore 5, 2) := by decide +kernel
theorem dX3_placeTold_51 : decode cX3_placeTold 51 = .ok (.iload 5, 2) := by decide +kernel
theorem dX3_placeTold_53 : decode cX3_placeTold 53 = .ok (.aload_n 0, 1) := by decide +kernel
theorem dX3_placeTold_54 : decode cX3_placeTold 54 = .ok (.getfield 51, 3) := by decide +kernel
theorem dX3_placeTold_57 : decode cX3_placeTold 57 = .ok (.if_icmp .ge 30, 3) := by decide +kernel
theorem dX3_placeTold_60 : decode cX3_placeTold 60 = .ok (.iload 4, 2) := by decide +kernel
theorem dX3_placeTold_62 : decode cX3_placeTold 62 = .ok (.aload_n 0, 1) := by decide +kernel
theorem dX3_placeTold_63 : decode cX3_placeTold 63 = .ok (.getfield 34, 3) := by decide +kernel
theorem dX3_placeTold_66 : decode cX3_placeTold 66 = .ok (.iload 5, 2) := by decide +kernel
theorem dX3_placeTold_68 : decode cX3_placeTold 68 = .ok (.iaload, 1) := by decide +kernel
theorem dX3_placeTold_69 : decode cX3_placeTold 69 = .ok (.iload_n 1, 1) := by decide +kernel
theorem dX3_placeTold_70 : decode cX3_placeTold 70 = .ok (.if_icmp .ne 7, 3) := by decide +kernel
theorem dX3_placeTold_73 : decode cX3_placeTold 73 = .ok (.iconst 1, 1) := by decide +kernel
theorem dX3_placeTold_74 : decode cX3_placeTold 74 = .ok (.goto 4, 3) := by decide +kernel
theorem dX3_placeTold_77 : decode cX3_placeTold 77 = .ok (.iconst 0, 1) := by decide +kernel
theorem dX3_placeTold_78 : decode cX3_placeTold 78 = .ok (.iadd, 1) := by decide +kernel
theorem dX3_placeTold_79 : decode cX3_placeTold 79 = .ok (.istore 4, 2) := by decide +kernel
theorem dX3_placeTold_81 : decode cX3_placeTold 81 = .ok (.iinc 5 1, 3) := by decide +kernel
theorem dX3_placeTold_84 : decode cX3_placeTold 84 = .ok (.goto (-33), 3) := by decide +kernel
theorem dX3_placeTold_87 : decode cX3_placeTold 87 = .ok (.iconst 4, 1) := by decide +kernel
theorem dX3_placeTold_88 : decode cX3_placeTold 88 = .ok (.newarray .int, 2) := by decide +kernel
theorem dX3_placeTold_90 : decode cX3_placeTold 90 = .ok (.dup, 1) := by decide +kernel
theorem dX3_placeTold_91 : decode cX3_placeTold 91 = .ok (.iconst 0, 1) := by decide +kernel
theorem dX3_placeTold_92 : decode cX3_placeTold 92 = .ok (.aload_n 0, 1) := by decide +kernel
theorem dX3_placeTold_93 : decode cX3_placeTold 93 = .ok (.iload_n 1, 1) := by decide +kernel
theorem dX3_placeTold_94 : decode cX3_placeTold 94 = .ok (.invokevirtual 57, 3) := by decide +kernel
theorem dX3_placeTold_97 : decode cX3_placeTold 97 = .ok (.iastore, 1) := by decide +kernel
theorem dX3_placeTold_98 : decode cX3_placeTold 98 = .ok (.dup, 1) := by decide +kernel
theorem dX3_placeTold_99 : decode cX3_placeTold 99 = .ok (.iconst 1, 1) := by decide +kernel
theorem dX3_placeTold_100 : decode cX3_placeTold 100 = .ok (.aload_n 0, 1) := by decide +kernel
theorem dX3_placeTold_101 : decode cX3_placeTold 101 = .ok (.iload_n 1, 1) := by decide +kernel
theorem dX3_placeTold_102 : decode cX3_placeTold 102 = .ok (.invokevirtual 112, 3) := by decide +kernel
theorem dX3_placeTold_105 : decode cX3_placeTold 105 = .ok (.iastore, 1) := by decide +kernel
theorem dX3_placeTold_106 : decode cX3_placeTold 106 = .ok (.dup, 1) := by decide +kernel
theorem dX3_placeTold_107 : decode cX3_placeTold 107 = .ok (.iconst 2, 1) := by decide +kernel
theorem dX3_placeTold_108 : decode cX3_placeTold 108 = .ok (.iload_n 3, 1) := by decide +kernel
theorem dX3_placeTold_109 : decode cX3_placeTold 109 = .ok (.iastore, 1) := by decide +kernel
theorem dX3_placeTold_110 : decode cX3_placeTold 110 = .ok (.dup, 1) := by decide +kernel
theorem dX3_placeTold_111 : decode cX3_placeTold 111 = .ok (.iconst 3, 1) := by decide +kernel
theorem dX3_placeTold_112 : decode cX3_placeTold 112 = .ok (.iload 4, 2) := by decide +kernel
theorem dX3_placeTold_114 : decode cX3_placeTold 114 = .ok (.iastore, 1) := by decide +kernel
theorem dX3_placeTold_115 : decode cX3_placeTold 115 = .ok (.astore 5, 2) := by decide +kernel
theorem dX3_placeTold_117 : decode cX3_placeTold 117 = .ok (.aload 5, 2) := by decide +kernel
theorem dX3_placeTold_119 : decode cX3_placeTold 119 = .ok (.iload_n 2, 1) := by decide +kernel
theorem dX3_placeTold_120 : decode cX3_placeTold 120 = .ok (.iaload, 1) := by decide +kernel
theorem dX3_placeTold_121 : decode cX3_placeTold 121 = .ok (.ireturn, 1) := by decide +kernel
set_option maxRecDepth 20000 in
theorem ggX3_place_X3_isPlace : GoodIn wsX3_place wsX3_isPlace := goodIn_r _ [5, 6, 7, 4, 8] (by decide +kernel) (by decide +kernel)
set_option maxRecDepth 20000 in
theorem gX3_place_X3_isPlace : GoodIn wsX3_place (va_wsS RX3 76 yX3_isPlace wsX3_isPlace) := goodIn_app (goodIn_of _ (by decide +kernel)) ggX3_place_X3_isPlace
set_option maxRecDepth 20000 in
theorem ggX3_place_X3_isIn : GoodIn wsX3_place wsX3_isIn := goodIn_r _ [8] (by decide +kernel) (by decide +kernel)
set_option maxRecDepth 20000 in
theorem gX3_place_X3_isIn : GoodIn wsX3_place (va_wsS RX3 47 yX3_isIn wsX3_isIn) := goodIn_app (goodIn_of _ (by decide +kernel)) ggX3_place_X3_isIn
set_option maxRecDepth 20000 in
theorem ggX3_place_X3_placeTold : GoodIn wsX3_place wsX3_placeTold := goodIn_r _ [12, 13, 14, 15, 16, 17, 18, 19, 20, 21, 4, 22, 23, 24, 25, 26, 27, 32, 33, 34, 35, 36, 37, 38, 39, 40, 41, 42, 43, 44, 45, 46] (by decide +kernel) (by decide +kernel)
set_option maxRecDepth 20000 in
theorem gX3_place_X3_placeTold : GoodIn wsX3_place (wsV RX3 115 RX3 yX3_placeTold wsX3_placeTold) := goodIn_app (goodIn_of _ (by decide +kernel)) ggX3_place_X3_placeTold
set_option maxRecDepth 20000 in
theorem ggX3_place_X3_no : GoodIn wsX3_place wsX3_no := goodIn_r _ [31, 1, 32, 33, 34, 35, 36, 37, 38, 39, 40, 41, 42, 43, 44, 45, 46] (by decide +kernel) (by decide +kernel)
set_option maxRecDepth 20000 in
theorem gX3_place_X3_no : GoodIn wsX3_place (wsV RX3 80 RX3 yX3_no wsX3_no) := goodIn_app (goodIn_of _ (by decide +kernel)) ggX3_place_X3_no
theorem dX3_place_0 : decode cX3_place 0 = .ok (.aload_n 0, 1) := by decide +kernel
theorem dX3_place_1 : decode cX3_place 1 = .ok (.iconst 0, 1) := by decide +kernel
theorem dX3_place_2 : decode cX3_place 2 = .ok (.putfield 43, 3) := by decide +kernel
theorem dX3_place_5 : decode cX3_place 5 = .ok (.iload_n 1, 1) := by decide +kernel
theorem dX3_place_6 : decode cX3_place 6 = .ok (.invokestatic 76, 3) := by decide +kernel
theorem dX3_place_9 : decode cX3_place 9 = .ok (.ifCond .eq 21, 3) := by decide +kernel
theorem dX3_place_12 : decode cX3_place 12 = .ok (.iload_n 2, 1) := by decide +kernel
theorem dX3_place_13 : decode cX3_place 13 = .ok (.iconst 0, 1) := by decide +kernel
theorem dX3_place_14 : decode cX3_place 14 = .ok (.iconst 3, 1) := by decide +kernel
theorem dX3_place_15 : decode cX3_place 15 = .ok (.invokestatic 47, 3) := by decide +kernel
theorem dX3_place_18 : decode cX3_place 18 = .ok (.ifCond .eq 12, 3) := by decide +kernel
theorem dX3_place_21 : decode cX3_place 21 = .ok (.aload_n 0, 1) := by decide +kernel
theorem dX3_place_22 : decode cX3_place 22 = .ok (.iload_n 1, 1) := by decide +kernel
theorem dX3_place_23 : decode cX3_place 23 = .ok (.iload_n 2, 1) := by decide +kernel
theorem dX3_place_24 : decode cX3_place 24 = .ok (.invokevirtual 115, 3) := by decide +kernel
theorem dX3_place_27 : decode cX3_place 27 = .ok (.goto 8, 3) := by decide +kernel
theorem dX3_place_30 : decode cX3_place 30 = .ok (.aload_n 0, 1) := by decide +kernel
theorem dX3_place_31 : decode cX3_place 31 = .ok (.iconst 1, 1) := by decide +kernel
theorem dX3_place_32 : decode cX3_place 32 = .ok (.invokevirtual 80, 3) := by decide +kernel
theorem dX3_place_35 : decode cX3_place 35 = .ok (.ireturn, 1) := by decide +kernel
theorem dX3_craneOf_0 : decode cX3_craneOf 0 = .ok (.iconst 0, 1) := by decide +kernel
theorem dX3_craneOf_1 : decode cX3_craneOf 1 = .ok (.istore_n 2, 1) := by decide +kernel
theorem dX3_craneOf_2 : decode cX3_craneOf 2 = .ok (.iload_n 2, 1) := by decide +kernel
theorem dX3_craneOf_3 : decode cX3_craneOf 3 = .ok (.aload_n 0, 1) := by decide +kernel
theorem dX3_craneOf_4 : decode cX3_craneOf 4 = .ok (.getfield 51, 3) := by decide +kernel
theorem dX3_craneOf_7 : decode cX3_craneOf 7 = .ok (.if_icmp .ge 21, 3) := by decide +kernel
theorem dX3_craneOf_10 : decode cX3_craneOf 10 = .ok (.aload_n 0, 1) := by decide +kernel
theorem dX3_craneOf_11 : decode cX3_craneOf 11 = .ok (.getfield 40, 3) := by decide +kernel
theorem dX3_craneOf_14 : decode cX3_craneOf 14 = .ok (.iload_n 2, 1) := by decide +kernel
theorem dX3_craneOf_15 : decode cX3_craneOf 15 = .ok (.iaload, 1) := by decide +kernel
theorem dX3_craneOf_16 : decode cX3_craneOf 16 = .ok (.iload_n 1, 1) := by decide +kernel
theorem dX3_craneOf_17 : decode cX3_craneOf 17 = .ok (.if_icmp .ne 5, 3) := by decide +kernel
theorem dX3_craneOf_20 : decode cX3_craneOf 20 = .ok (.iload_n 2, 1) := by decide +kernel
theorem dX3_craneOf_21 : decode cX3_craneOf 21 = .ok (.ireturn, 1) := by decide +kernel
theorem dX3_craneOf_22 : decode cX3_craneOf 22 = .ok (.iinc 2 1, 3) := by decide +kernel
theorem dX3_craneOf_25 : decode cX3_craneOf 25 = .ok (.goto (-23), 3) := by decide +kernel
theorem dX3_craneOf_28 : decode cX3_craneOf 28 = .ok (.iconst (-1), 1) := by decide +kernel
theorem dX3_craneOf_29 : decode cX3_craneOf 29 = .ok (.ireturn, 1) := by decide +kernel
set_option maxRecDepth 20000 in
theorem ggX3_barrelTold_X3_high : GoodIn wsX3_barrelTold wsX3_high := goodIn_r _ [9, 10, 1, 17, 18, 19, 20, 21, 22, 23, 24, 25, 26, 27, 28, 29, 30, 31] (by decide +kernel) (by decide +kernel)
set_option maxRecDepth 20000 in
theorem gX3_barrelTold_X3_high : GoodIn wsX3_barrelTold (wsV RX3 57 RX3 yX3_high wsX3_high) := goodIn_app (goodIn_of _ (by decide +kernel)) ggX3_barrelTold_X3_high
set_option maxRecDepth 20000 in
theorem ggX3_barrelTold_X3_craneOf : GoodIn wsX3_barrelTold wsX3_craneOf := goodIn_r _ [14, 15, 16, 17, 18, 19, 20, 21, 22, 23, 24, 25, 26, 27, 28, 29, 30, 31] (by decide +kernel) (by decide +kernel)
set_option maxRecDepth 20000 in
theorem gX3_barrelTold_X3_craneOf : GoodIn wsX3_barrelTold (wsV RX3 118 RX3 yX3_craneOf wsX3_craneOf) := goodIn_app (goodIn_of _ (by decide +kernel)) ggX3_barrelTold_X3_craneOf
theorem dX3_barrelTold_0 : decode cX3_barrelTold 0 = .ok (.aload_n 0, 1) := by decide +kernel
theorem dX3_barrelTold_1 : decode cX3_barrelTold 1 = .ok (.getfield 13, 3) := by decide +kernel
theorem dX3_barrelTold_4 : decode cX3_barrelTold 4 = .ok (.iload_n 1, 1) := by decide +kernel
theorem dX3_barrelTold_5 : decode cX3_barrelTold 5 = .ok (.iaload, 1) := by decide +kernel
theorem dX3_barrelTold_6 : decode cX3_barrelTold 6 = .ok (.ifCond .lt 7, 3) := by decide +kernel
theorem dX3_barrelTold_9 : decode cX3_barrelTold 9 = .ok (.iconst 1, 1) := by decide +kernel
theorem dX3_barrelTold_10 : decode cX3_barrelTold 10 = .ok (.goto 4, 3) := by decide +kernel
theorem dX3_barrelTold_13 : decode cX3_barrelTold 13 = .ok (.iconst 0, 1) := by decide +kernel
theorem dX3_barrelTold_14 : decode cX3_barrelTold 14 = .ok (.istore_n 3, 1) := by decide +kernel
theorem dX3_barrelTold_15 : decode cX3_barrelTold 15 = .ok (.iconst 5, 1) := by decide +kernel
theorem dX3_barrelTold_16 : decode cX3_barrelTold 16 = .ok (.newarray .int, 2) := by decide +kernel
theorem dX3_barrelTold_18 : decode cX3_barrelTold 18 = .ok (.dup, 1) := by decide +kernel
theorem dX3_barrelTold_19 : decode cX3_barrelTold 19 = .ok (.iconst 0, 1) := by decide +kernel
theorem dX3_barrelTold_20 : decode cX3_barrelTold 20 = .ok (.aload_n 0, 1) := by decide +kernel
theorem dX3_barrelTold_21 : decode cX3_barrelTold 21 = .ok (.getfield 9, 3) := by decide +kernel
theorem dX3_barrelTold_24 : decode cX3_barrelTold 24 = .ok (.iload_n 1, 1) := by decide +kernel
theorem dX3_barrelTold_25 : decode cX3_barrelTold 25 = .ok (.iaload, 1) := by decide +kernel
theorem dX3_barrelTold_26 : decode cX3_barrelTold 26 = .ok (.iastore, 1) := by decide +kernel
theorem dX3_barrelTold_27 : decode cX3_barrelTold 27 = .ok (.dup, 1) := by decide +kernel
theorem dX3_barrelTold_28 : decode cX3_barrelTold 28 = .ok (.iconst 1, 1) := by decide +kernel
theorem dX3_barrelTold_29 : decode cX3_barrelTold 29 = .ok (.iload_n 3, 1) := by decide +kernel
theorem dX3_barrelTold_30 : decode cX3_barrelTold 30 = .ok (.ifCond .eq 12, 3) := by decide +kernel
theorem dX3_barrelTold_33 : decode cX3_barrelTold 33 = .ok (.aload_n 0, 1) := by decide +kernel
theorem dX3_barrelTold_34 : decode cX3_barrelTold 34 = .ok (.getfield 13, 3) := by decide +kernel
theorem dX3_barrelTold_37 : decode cX3_barrelTold 37 = .ok (.iload_n 1, 1) := by decide +kernel
theorem dX3_barrelTold_38 : decode cX3_barrelTold 38 = .ok (.iaload, 1) := by decide +kernel
theorem dX3_barrelTold_39 : decode cX3_barrelTold 39 = .ok (.goto 4, 3) := by decide +kernel
theorem dX3_barrelTold_42 : decode cX3_barrelTold 42 = .ok (.iconst (-1), 1) := by decide +kernel
theorem dX3_barrelTold_43 : decode cX3_barrelTold 43 = .ok (.iastore, 1) := by decide +kernel
theorem dX3_barrelTold_44 : decode cX3_barrelTold 44 = .ok (.dup, 1) := by decide +kernel
theorem dX3_barrelTold_45 : decode cX3_barrelTold 45 = .ok (.iconst 2, 1) := by decide +kernel
theorem dX3_barrelTold_46 : decode cX3_barrelTold 46 = .ok (.iload_n 3, 1) := by decide +kernel
theorem dX3_barrelTold_47 : decode cX3_barrelTold 47 = .ok (.ifCond .eq 25, 3) := by decide +kernel
theorem dX3_barrelTold_50 : decode cX3_barrelTold 50 = .ok (.aload_n 0, 1) := by decide +kernel
theorem dX3_barrelTold_51 : decode cX3_barrelTold 51 = .ok (.aload_n 0, 1) := by decide +kernel
theorem dX3_barrelTold_52 : decode cX3_barrelTold 52 = .ok (.getfield 13, 3) := by decide +kernel
theorem dX3_barrelTold_55 : decode cX3_barrelTold 55 = .ok (.iload_n 1, 1) := by decide +kernel
theorem dX3_barrelTold_56 : decode cX3_barrelTold 56 = .ok (.iaload, 1) := by decide +kernel
theorem dX3_barrelTold_57 : decode cX3_barrelTold 57 = .ok (.invokevirtual 57, 3) := by decide +kernel
theorem dX3_barrelTold_60 : decode cX3_barrelTold 60 = .ok (.iconst 1, 1) := by decide +kernel
theorem dX3_barrelTold_61 : decode cX3_barrelTold 61 = .ok (.isub, 1) := by decide +kernel
theorem dX3_barrelTold_62 : decode cX3_barrelTold 62 = .ok (.aload_n 0, 1) := by decide +kernel
theorem dX3_barrelTold_63 : decode cX3_barrelTold 63 = .ok (.getfield 16, 3) := by decide +kernel
theorem dX3_barrelTold_66 : decode cX3_barrelTold 66 = .ok (.iload_n 1, 1) := by decide +kernel
theorem dX3_barrelTold_67 : decode cX3_barrelTold 67 = .ok (.iaload, 1) := by decide +kernel
theorem dX3_barrelTold_68 : decode cX3_barrelTold 68 = .ok (.isub, 1) := by decide +kernel
theorem dX3_barrelTold_69 : decode cX3_barrelTold 69 = .ok (.goto 4, 3) := by decide +kernel
theorem dX3_barrelTold_72 : decode cX3_barrelTold 72 = .ok (.iconst 0, 1) := by decide +kernel
theorem dX3_barrelTold_73 : decode cX3_barrelTold 73 = .ok (.iastore, 1) := by decide +kernel
theorem dX3_barrelTold_74 : decode cX3_barrelTold 74 = .ok (.dup, 1) := by decide +kernel
theorem dX3_barrelTold_75 : decode cX3_barrelTold 75 = .ok (.iconst 3, 1) := by decide +kernel
theorem dX3_barrelTold_76 : decode cX3_barrelTold 76 = .ok (.aload_n 0, 1) := by decide +kernel
theorem dX3_barrelTold_77 : decode cX3_barrelTold 77 = .ok (.iload_n 1, 1) := by decide +kernel
theorem dX3_barrelTold_78 : decode cX3_barrelTold 78 = .ok (.invokevirtual 118, 3) := by decide +kernel
theorem dX3_barrelTold_81 : decode cX3_barrelTold 81 = .ok (.iastore, 1) := by decide +kernel
theorem dX3_barrelTold_82 : decode cX3_barrelTold 82 = .ok (.dup, 1) := by decide +kernel
theorem dX3_barrelTold_83 : decode cX3_barrelTold 83 = .ok (.iconst 4, 1) := by decide +kernel
theorem dX3_barrelTold_84 : decode cX3_barrelTold 84 = .ok (.aload_n 0, 1) := by decide +kernel
theorem dX3_barrelTold_85 : decode cX3_barrelTold 85 = .ok (.getfield 13, 3) := by decide +kernel
theorem dX3_barrelTold_88 : decode cX3_barrelTold 88 = .ok (.iload_n 1, 1) := by decide +kernel
theorem dX3_barrelTold_89 : decode cX3_barrelTold 89 = .ok (.iaload, 1) := by decide +kernel
theorem dX3_barrelTold_90 : decode cX3_barrelTold 90 = .ok (.bipush (-2), 2) := by decide +kernel
theorem dX3_barrelTold_92 : decode cX3_barrelTold 92 = .ok (.if_icmp .ne 7, 3) := by decide +kernel
theorem dX3_barrelTold_95 : decode cX3_barrelTold 95 = .ok (.iconst 1, 1) := by decide +kernel
theorem dX3_barrelTold_96 : decode cX3_barrelTold 96 = .ok (.goto 4, 3) := by decide +kernel
theorem dX3_barrelTold_99 : decode cX3_barrelTold 99 = .ok (.iconst 0, 1) := by decide +kernel
theorem dX3_barrelTold_100 : decode cX3_barrelTold 100 = .ok (.iastore, 1) := by decide +kernel
theorem dX3_barrelTold_101 : decode cX3_barrelTold 101 = .ok (.astore 4, 2) := by decide +kernel
theorem dX3_barrelTold_103 : decode cX3_barrelTold 103 = .ok (.aload 4, 2) := by decide +kernel
theorem dX3_barrelTold_105 : decode cX3_barrelTold 105 = .ok (.iload_n 2, 1) := by decide +kernel
theorem dX3_barrelTold_106 : decode cX3_barrelTold 106 = .ok (.iaload, 1) := by decide +kernel
theorem dX3_barrelTold_107 : decode cX3_barrelTold 107 = .ok (.ireturn, 1) := by decide +kernel
set_option maxRecDepth 20000 in
theorem ggX3_barrel_X3_isIn : GoodIn wsX3_barrel wsX3_isIn := goodIn_r _ [6] (by decide +kernel) (by decide +kernel)
set_option maxRecDepth 20000 in
theorem gX3_barrel_X3_isIn : GoodIn wsX3_barrel (va_wsS RX3 47 yX3_isIn wsX3_isIn) := goodIn_app (goodIn_of _ (by decide +kernel)) ggX3_barrel_X3_isIn
set_option maxRecDepth 20000 in
theorem ggX3_barrel_X3_barrelTold : GoodIn wsX3_barrel wsX3_barrelTold := goodIn_r _ [10, 11, 12, 13, 14, 15, 16, 17, 5, 18, 2, 19, 20, 21, 22, 23, 24, 29, 30, 31, 32, 33, 34, 35, 36, 37, 38, 39, 40, 41, 42, 43] (by decide +kernel) (by decide +kernel)
set_option maxRecDepth 20000 in
theorem gX3_barrel_X3_barrelTold : GoodIn wsX3_barrel (wsV RX3 121 RX3 yX3_barrelTold wsX3_barrelTold) := goodIn_app (goodIn_of _ (by decide +kernel)) ggX3_barrel_X3_barrelTold
set_option maxRecDepth 20000 in
theorem ggX3_barrel_X3_no : GoodIn wsX3_barrel wsX3_no := goodIn_r _ [28, 1, 29, 30, 31, 32, 33, 34, 35, 36, 37, 38, 39, 40, 41, 42, 43] (by decide +kernel) (by decide +kernel)
set_option maxRecDepth 20000 in
theorem gX3_barrel_X3_no : GoodIn wsX3_barrel (wsV RX3 80 RX3 yX3_no wsX3_no) := goodIn_app (goodIn_of _ (by decide +kernel)) ggX3_barrel_X3_no
theorem dX3_barrel_0 : decode cX3_barrel 0 = .ok (.aload_n 0, 1) := by decide +kernel
theorem dX3_barrel_1 : decode cX3_barrel 1 = .ok (.iconst 0, 1) := by decide +kernel
theorem dX3_barrel_2 : decode cX3_barrel 2 = .ok (.putfield 43, 3) := by decide +kernel
theorem dX3_barrel_5 : decode cX3_barrel 5 = .ok (.iload_n 1, 1) := by decide +kernel
theorem dX3_barrel_6 : decode cX3_barrel 6 = .ok (.iconst 0, 1) := by decide +kernel
theorem dX3_barrel_7 : decode cX3_barrel 7 = .ok (.aload_n 0, 1) := by decide +kernel
theorem dX3_barrel_8 : decode cX3_barrel 8 = .ok (.getfield 54, 3) := by decide +kernel
theorem dX3_barrel_11 : decode cX3_barrel 11 = .ok (.iconst 1, 1) := by decide +kernel
theorem dX3_barrel_12 : decode cX3_barrel 12 = .ok (.isub, 1) := by decide +kernel
theorem dX3_barrel_13 : decode cX3_barrel 13 = .ok (.invokestatic 47, 3) := by decide +kernel
theorem dX3_barrel_16 : decode cX3_barrel 16 = .ok (.ifCond .eq 21, 3) := by decide +kernel
theorem dX3_barrel_19 : decode cX3_barrel 19 = .ok (.iload_n 2, 1) := by decide +kernel
theorem dX3_barrel_20 : decode cX3_barrel 20 = .ok (.iconst 0, 1) := by decide +kernel
theorem dX3_barrel_21 : decode cX3_barrel 21 = .ok (.iconst 4, 1) := by decide +kernel
theorem dX3_barrel_22 : decode cX3_barrel 22 = .ok (.invokestatic 47, 3) := by decide +kernel
theorem dX3_barrel_25 : decode cX3_barrel 25 = .ok (.ifCond .eq 12, 3) := by decide +kernel
theorem dX3_barrel_28 : decode cX3_barrel 28 = .ok (.aload_n 0, 1) := by decide +kernel
theorem dX3_barrel_29 : decode cX3_barrel 29 = .ok (.iload_n 1, 1) := by decide +kernel
theorem dX3_barrel_30 : decode cX3_barrel 30 = .ok (.iload_n 2, 1) := by decide +kernel
theorem dX3_barrel_31 : decode cX3_barrel 31 = .ok (.invokevirtual 121, 3) := by decide +kernel
theorem dX3_barrel_34 : decode cX3_barrel 34 = .ok (.goto 8, 3) := by decide +kernel
theorem dX3_barrel_37 : decode cX3_barrel 37 = .ok (.aload_n 0, 1) := by decide +kernel
theorem dX3_barrel_38 : decode cX3_barrel 38 = .ok (.iconst 1, 1) := by decide +kernel
theorem dX3_barrel_39 : decode cX3_barrel 39 = .ok (.invokevirtual 80, 3) := by decide +kernel
theorem dX3_barrel_42 : decode cX3_barrel 42 = .ok (.ireturn, 1) := by decide +kernel
set_option maxRecDepth 20000 in
theorem ggX3_craneTold_X3_strength : GoodIn wsX3_craneTold wsX3_strength := goodIn_r _ [14, 5, 4, 15, 16, 17, 18, 19, 20, 21, 22, 23, 24, 25, 26, 27, 28, 29] (by decide +kernel) (by decide +kernel)
set_option maxRecDepth 20000 in
theorem gX3_craneTold_X3_strength : GoodIn wsX3_craneTold (wsV RX3 100 RX3 yX3_strength wsX3_strength) := goodIn_app (goodIn_of _ (by decide +kernel)) ggX3_craneTold_X3_strength
theorem dX3_craneTold_0 : decode cX3_craneTold 0 = .ok (.bipush 9, 2) := by decide +kernel
theorem dX3_craneTold_2 : decode cX3_craneTold 2 = .ok (.newarray .int, 2) := by decide +kernel
theorem dX3_craneTold_4 : decode cX3_craneTold 4 = .ok (.dup, 1) := by decide +kernel
theorem dX3_craneTold_5 : decode cX3_craneTold 5 = .ok (.iconst 0, 1) := by decide +kernel
theorem dX3_craneTold_6 : decode cX3_craneTold 6 = .ok (.aload_n 0, 1) := by decide +kernel
theorem dX3_craneTold_7 : decode cX3_craneTold 7 = .ok (.getfield 19, 3) := by decide +kernel
theorem dX3_craneTold_10 : decode cX3_craneTold 10 = .ok (.iload_n 1, 1) := by decide +kernel
theorem dX3_craneTold_11 : decode cX3_craneTold 11 = .ok (.iaload, 1) := by decide +kernel
theorem dX3_craneTold_12 : decode cX3_craneTold 12 = .ok (.iastore, 1) := by decide +kernel
theorem dX3_craneTold_13 : decode cX3_craneTold 13 = .ok (.dup, 1) := by decide +kernel
theorem dX3_craneTold_14 : decode cX3_craneTold 14 = .ok (.iconst 1, 1) := by decide +kernel
theorem dX3_craneTold_15 : decode cX3_craneTold 15 = .ok (.aload_n 0, 1) := by decide +kernel
theorem dX3_craneTold_16 : decode cX3_craneTold 16 = .ok (.getfield 22, 3) := by decide +kernel
theorem dX3_craneTold_19 : decode cX3_craneTold 19 = .ok (.iload_n 1, 1) := by decide +kernel
theorem dX3_craneTold_20 : decode cX3_craneTold 20 = .ok (.iaload, 1) := by decide +kernel
theorem dX3_craneTold_21 : decode cX3_craneTold 21 = .ok (.iastore, 1) := by decide +kernel
theorem dX3_craneTold_22 : decode cX3_craneTold 22 = .ok (.dup, 1) := by decide +kernel
theorem dX3_craneTold_23 : decode cX3_craneTold 23 = .ok (.iconst 2, 1) := by decide +kernel
theorem dX3_craneTold_24 : decode cX3_craneTold 24 = .ok (.aload_n 0, 1) := by decide +kernel
theorem dX3_craneTold_25 : decode cX3_craneTold 25 = .ok (.getfield 25, 3) := by decide +kernel
theorem dX3_craneTold_28 : decode cX3_craneTold 28 = .ok (.iload_n 1, 1) := by decide +kernel
theorem dX3_craneTold_29 : decode cX3_craneTold 29 = .ok (.iaload, 1) := by decide +kernel
theorem dX3_craneTold_30 : decode cX3_craneTold 30 = .ok (.iastore, 1) := by decide +kernel
theorem dX3_craneTold_31 : decode cX3_craneTold 31 = .ok (.dup, 1) := by decide +kernel
theorem dX3_craneTold_32 : decode cX3_craneTold 32 = .ok (.iconst 3, 1) := by decide +kernel
theorem dX3_craneTold_33 : decode cX3_craneTold 33 = .ok (.aload_n 0, 1) := by decide +kernel
theorem dX3_craneTold_34 : decode cX3_craneTold 34 = .ok (.getfield 28, 3) := by decide +kernel
theorem dX3_craneTold_37 : decode cX3_craneTold 37 = .ok (.iload_n 1, 1) := by decide +kernel
theorem dX3_craneTold_38 : decode cX3_craneTold 38 = .ok (.iaload, 1) := by decide +kernel
theorem dX3_craneTold_39 : decode cX3_craneTold 39 = .ok (.iastore, 1) := by decide +kernel
theorem dX3_craneTold_40 : decode cX3_craneTold 40 = .ok (.dup, 1) := by decide +kernel
theorem dX3_craneTold_41 : decode cX3_craneTold 41 = .ok (.iconst 4, 1) := by decide +kernel
theorem dX3_craneTold_42 : decode cX3_craneTold 42 = .ok (.aload_n 0, 1) := by decide +kernel
theorem dX3_craneTold_43 : decode cX3_craneTold 43 = .ok (.getfield 31, 3) := by decide +kernel
theorem dX3_craneTold_46 : decode cX3_craneTold 46 = .ok (.iload_n 1, 1) := by decide +kernel
theorem dX3_craneTold_47 : decode cX3_craneTold 47 = .ok (.iaload, 1) := by decide +kernel
theorem dX3_craneTold_48 : decode cX3_craneTold 48 = .ok (.iastore, 1) := by decide +kernel
theorem dX3_craneTold_49 : decode cX3_craneTold 49 = .ok (.dup, 1) := by decide +kernel
theorem dX3_craneTold_50 : decode cX3_craneTold 50 = .ok (.iconst 5, 1) := by decide +kernel
theorem dX3_craneTold_51 : decode cX3_craneTold 51 = .ok (.aload_n 0, 1) := by decide +kernel
theorem dX3_craneTold_52 : decode cX3_craneTold 52 = .ok (.getfield 34, 3) := by decide +kernel
theorem dX3_craneTold_55 : decode cX3_craneTold 55 = .ok (.iload_n 1, 1) := by decide +kernel
theorem dX3_craneTold_56 : decode cX3_craneTold 56 = .ok (.iaload, 1) := by decide +kernel
theorem dX3_craneTold_57 : decode cX3_craneTold 57 = .ok (.iastore, 1) := by decide +kernel
theorem dX3_craneTold_58 : decode cX3_craneTold 58 = .ok (.dup, 1) := by decide +kernel
theorem dX3_craneTold_59 : decode cX3_craneTold 59 = .ok (.bipush 6, 2) := by decide +kernel
theorem dX3_craneTold_61 : decode cX3_craneTold 61 = .ok (.aload_n 0, 1) := by decide +kernel
theorem dX3_craneTold_62 : decode cX3_craneTold 62 = .ok (.getfield 37, 3) := by decide +kernel
theorem dX3_craneTold_65 : decode cX3_craneTold 65 = .ok (.iload_n 1, 1) := by decide +kernel
theorem dX3_craneTold_66 : decode cX3_craneTold 66 = .ok (.iaload, 1) := by decide +kernel
theorem dX3_craneTold_67 : decode cX3_craneTold 67 = .ok (.iastore, 1) := by decide +kernel
theorem dX3_craneTold_68 : decode cX3_craneTold 68 = .ok (.dup, 1) := by decide +kernel
theorem dX3_craneTold_69 : decode cX3_craneTold 69 = .ok (.bipush 7, 2) := by decide +kernel
theorem dX3_craneTold_71 : decode cX3_craneTold 71 = .ok (.aload_n 0, 1) := by decide +kernel
theorem dX3_craneTold_72 : decode cX3_craneTold 72 = .ok (.getfield 40, 3) := by decide +kernel
theorem dX3_craneTold_75 : decode cX3_craneTold 75 = .ok (.iload_n 1, 1) := by decide +kernel
theorem dX3_craneTold_76 : decode cX3_craneTold 76 = .ok (.iaload, 1) := by decide +kernel
theorem dX3_craneTold_77 : decode cX3_craneTold 77 = .ok (.iastore, 1) := by decide +kernel
theorem dX3_craneTold_78 : decode cX3_craneTold 78 = .ok (.dup, 1) := by decide +kernel
theorem dX3_craneTold_79 : decode cX3_craneTold 79 = .ok (.bipush 8, 2) := by decide +kernel
theorem dX3_craneTold_81 : decode cX3_craneTold 81 = .ok (.aload_n 0, 1) := by decide +kernel
theorem dX3_craneTold_82 : decode cX3_craneTold 82 = .ok (.iload_n 1, 1) := by decide +kernel
theorem dX3_craneTold_83 : decode cX3_craneTold 83 = .ok (.invokevirtual 100, 3) := by decide +kernel
theorem dX3_craneTold_86 : decode cX3_craneTold 86 = .ok (.iastore, 1) := by decide +kernel
theorem dX3_craneTold_87 : decode cX3_craneTold 87 = .ok (.astore_n 3, 1) := by decide +kernel
theorem dX3_craneTold_88 : decode cX3_craneTold 88 = .ok (.aload_n 3, 1) := by decide +kernel
theorem dX3_craneTold_89 : decode cX3_craneTold 89 = .ok (.iload_n 2, 1) := by decide +kernel
theorem dX3_craneTold_90 : decode cX3_craneTold 90 = .ok (.iaload, 1) := by decide +kernel
theorem dX3_craneTold_91 : decode cX3_craneTold 91 = .ok (.ireturn, 1) := by decide +kernel
set_option maxRecDepth 20000 in
theorem ggX3_crane_X3_isCrane : GoodIn wsX3_crane wsX3_isCrane := goodIn_r _ [6, 7, 8, 9, 5, 10, 32, 33, 34, 35, 36, 37, 38, 39, 40, 41, 42, 43, 44, 45, 46] (by decide +kernel) (by decide +kernel)
set_option maxRecDepth 20000 in
theorem gX3_crane_X3_isCrane : GoodIn wsX3_crane (wsV RX3 86 RX3 yX3_isCrane wsX3_isCrane) := goodIn_app (goodIn_of _ (by decide +kernel)) ggX3_crane_X3_isCrane
set_option maxRecDepth 20000 in
theorem ggX3_crane_X3_isIn : GoodIn wsX3_crane wsX3_isIn := goodIn_r _ [10] (by decide +kernel) (by decide +kernel)
set_option maxRecDepth 20000 in
theorem gX3_crane_X3_isIn : GoodIn wsX3_crane (va_wsS RX3 47 yX3_isIn wsX3_isIn) := goodIn_app (goodIn_of _ (by decide +kernel)) ggX3_crane_X3_isIn
set_option maxRecDepth 20000 in
theorem ggX3_crane_X3_craneTold : GoodIn wsX3_crane wsX3_craneTold := goodIn_r _ [14, 15, 16, 17, 18, 19, 20, 21, 22, 23, 24, 25, 26, 5, 27, 32, 33, 34, 35, 36, 37, 38, 39, 40, 41, 42, 43, 44, 45, 46] (by decide +kernel) (by decide +kernel)
set_option maxRecDepth 20000 in
theorem gX3_crane_X3_craneTold : GoodIn wsX3_crane (wsV RX3 124 RX3 yX3_craneTold wsX3_craneTold) := goodIn_app (goodIn_of _ (by decide +kernel)) ggX3_crane_X3_craneTold
set_option maxRecDepth 20000 in
theorem ggX3_crane_X3_no : GoodIn wsX3_crane wsX3_no := goodIn_r _ [31, 1, 32, 33, 34, 35, 36, 37, 38, 39, 40, 41, 42, 43, 44, 45, 46] (by decide +kernel) (by decide +kernel)
set_option maxRecDepth 20000 in
theorem gX3_crane_X3_no : GoodIn wsX3_crane (wsV RX3 80 RX3 yX3_no wsX3_no) := goodIn_app (goodIn_of _ (by decide +kernel)) ggX3_crane_X3_no
theorem dX3_crane_0 : decode cX3_crane 0 = .ok (.aload_n 0, 1) := by decide +kernel
theorem dX3_crane_1 : decode cX3_crane 1 = .ok (.iconst 0, 1) := by decide +kernel
theorem dX3_crane_2 : decode cX3_crane 2 = .ok (.putfield 43, 3) := by decide +kernel
theorem dX3_crane_5 : decode cX3_crane 5 = .ok (.aload_n 0, 1) := by decide +kernel
theorem dX3_crane_6 : decode cX3_crane 6 = .ok (.iload_n 1, 1) := by decide +kernel
theorem dX3_crane_7 : decode cX3_crane 7 = .ok (.invokevirtual 86, 3) := by decide +kernel
theorem dX3_crane_10 : decode cX3_crane 10 = .ok (.ifCond .eq 22, 3) := by decide +kernel
theorem dX3_crane_13 : decode cX3_crane 13 = .ok (.iload_n 2, 1) := by decide +kernel
theorem dX3_crane_14 : decode cX3_crane 14 = .ok (.iconst 0, 1) := by decide +kernel
theorem dX3_crane_15 : decode cX3_crane 15 = .ok (.bipush 8, 2) := by decide +kernel
theorem dX3_crane_17 : decode cX3_crane 17 = .ok (.invokestatic 47, 3) := by decide +kernel
theorem dX3_crane_20 : decode cX3_crane 20 = .ok (.ifCond .eq 12, 3) := by decide +kernel
theorem dX3_crane_23 : decode cX3_crane 23 = .ok (.aload_n 0, 1) := by decide +kernel
theorem dX3_crane_24 : decode cX3_crane 24 = .ok (.iload_n 1, 1) := by decide +kernel
theorem dX3_crane_25 : decode cX3_crane 25 = .ok (.iload_n 2, 1) := by decide +kernel
theorem dX3_crane_26 : decode cX3_crane 26 = .ok (.invokevirtual 124, 3) := by decide +kernel
theorem dX3_crane_29 : decode cX3_crane 29 = .ok (.goto 8, 3) := by decide +kernel
theorem dX3_crane_32 : decode cX3_crane 32 = .ok (.aload_n 0, 1) := by decide +kernel
theorem dX3_crane_33 : decode cX3_crane 33 = .ok (.iconst 1, 1) := by decide +kernel
theorem dX3_crane_34 : decode cX3_crane 34 = .ok (.invokevirtual 80, 3) := by decide +kernel
theorem dX3_crane_37 : decode cX3_crane 37 = .ok (.ireturn, 1) := by decide +kernel
set_option maxRecDepth 20000 in
theorem ggX3_counted_X3_highest : GoodIn wsX3_counted wsX3_highest := goodIn_r _ [10, 11, 12, 13, 14, 15, 16, 17, 18, 19, 20, 9, 21, 1, 2, 22, 23, 24, 25, 26, 27, 28, 29, 30, 31, 32, 33, 34, 35, 36] (by decide +kernel) (by decide +kernel)
set_option maxRecDepth 20000 in
theorem gX3_counted_X3_highest : GoodIn wsX3_counted (wsV RX3 93 RX3 yX3_highest wsX3_highest) := goodIn_app (goodIn_of _ (by decide +kernel)) ggX3_counted_X3_highest
theorem dX3_counted_0 : decode cX3_counted 0 = .ok (.iconst 0, 1) := by decide +kernel
theorem dX3_counted_1 : decode cX3_counted 1 = .ok (.istore_n 2, 1) := by decide +kernel
theorem dX3_counted_2 : decode cX3_counted 2 = .ok (.iconst 0, 1) := by decide +kernel
theorem dX3_counted_3 : decode cX3_counted 3 = .ok (.istore_n 3, 1) := by decide +kernel
theorem dX3_counted_4 : decode cX3_counted 4 = .ok (.iconst 0, 1) := by decide +kernel
theorem dX3_counted_5 : decode cX3_counted 5 = .ok (.istore 4, 2) := by decide +kernel
theorem dX3_counted_7 : decode cX3_counted 7 = .ok (.iload 4, 2) := by decide +kernel
theorem dX3_counted_9 : decode cX3_counted 9 = .ok (.aload_n 0, 1) := by decide +kernel
theorem dX3_counted_10 : decode cX3_counted 10 = .ok (.getfield 54, 3) := by decide +kernel
theorem dX3_counted_13 : decode cX3_counted 13 = .ok (.if_icmp .ge 46, 3) := by decide +kernel
theorem dX3_counted_16 : decode cX3_counted 16 = .ok (.iload_n 2, 1) := by decide +kernel
theorem dX3_counted_17 : decode cX3_counted 17 = .ok (.aload_n 0, 1) := by decide +kernel
theorem dX3_counted_18 : decode cX3_counted 18 = .ok (.getfield 13, 3) := by decide +kernel
theorem dX3_counted_21 : decode cX3_counted 21 = .ok (.iload 4, 2) := by decide +kernel
theorem dX3_counted_23 : decode cX3_counted 23 = .ok (.iaload, 1) := by decide +kernel
theorem dX3_counted_24 : decode cX3_counted 24 = .ok (.ifCond .lt 7, 3) := by decide +kernel
theorem dX3_counted_27 : decode cX3_counted 27 = .ok (.iconst 1, 1) := by decide +kernel
theorem dX3_counted_28 : decode cX3_counted 28 = .ok (.goto 4, 3) := by decide +kernel
theorem dX3_counted_31 : decode cX3_counted 31 = .ok (.iconst 0, 1) := by decide +kernel
theorem dX3_counted_32 : decode cX3_counted 32 = .ok (.iadd, 1) := by decide +kernel
theorem dX3_counted_33 : decode cX3_counted 33 = .ok (.istore_n 2, 1) := by decide +kernel
theorem dX3_counted_34 : decode cX3_counted 34 = .ok (.iload_n 3, 1) := by decide +kernel
theorem dX3_counted_35 : decode cX3_counted 35 = .ok (.aload_n 0, 1) := by decide +kernel
theorem dX3_counted_36 : decode cX3_counted 36 = .ok (.getfield 13, 3) := by decide +kernel
theorem dX3_counted_39 : decode cX3_counted 39 = .ok (.iload 4, 2) := by decide +kernel
theorem dX3_counted_41 : decode cX3_counted 41 = .ok (.iaload, 1) := by decide +kernel
theorem dX3_counted_42 : decode cX3_counted 42 = .ok (.iconst (-1), 1) := by decide +kernel
theorem dX3_counted_43 : decode cX3_counted 43 = .ok (.if_icmp .ne 7, 3) := by decide +kernel
theorem dX3_counted_46 : decode cX3_counted 46 = .ok (.iconst 1, 1) := by decide +kernel
theorem dX3_counted_47 : decode cX3_counted 47 = .ok (.goto 4, 3) := by decide +kernel
theorem dX3_counted_50 : decode cX3_counted 50 = .ok (.iconst 0, 1) := by decide +kernel
theorem dX3_counted_51 : decode cX3_counted 51 = .ok (.iadd, 1) := by decide +kernel
theorem dX3_counted_52 : decode cX3_counted 52 = .ok (.istore_n 3, 1) := by decide +kernel
theorem dX3_counted_53 : decode cX3_counted 53 = .ok (.iinc 4 1, 3) := by decide +kernel
theorem dX3_counted_56 : decode cX3_counted 56 = .ok (.goto (-49), 3) := by decide +kernel
theorem dX3_counted_59 : decode cX3_counted 59 = .ok (.bipush 7, 2) := by decide +kernel
theorem dX3_counted_61 : decode cX3_counted 61 = .ok (.newarray .int, 2) := by decide +kernel
theorem dX3_counted_63 : decode cX3_counted 63 = .ok (.dup, 1) := by decide +kernel
theorem dX3_counted_64 : decode cX3_counted 64 = .ok (.iconst 0, 1) := by decide +kernel
theorem dX3_counted_65 : decode cX3_counted 65 = .ok (.aload_n 0, 1) := by decide +kernel
theorem dX3_counted_66 : decode cX3_counted 66 = .ok (.getfield 97, 3) := by decide +kernel
theorem dX3_counted_69 : decode cX3_counted 69 = .ok (.iastore, 1) := by decide +kernel
theorem dX3_counted_70 : decode cX3_counted 70 = .ok (.dup, 1) := by decide +kernel
theorem dX3_counted_71 : decode cX3_counted 71 = .ok (.iconst 1, 1) := by decide +kernel
theorem dX3_counted_72 : decode cX3_counted 72 = .ok (.aload_n 0, 1) := by decide +kernel
theorem dX3_counted_73 : decode cX3_counted 73 = .ok (.getfield 54, 3) := by decide +kernel
theorem dX3_counted_76 : decode cX3_counted 76 = .ok (.iastore, 1) := by decide +kernel
theorem dX3_counted_77 : decode cX3_counted 77 = .ok (.dup, 1) := by decide +kernel
theorem dX3_counted_78 : decode cX3_counted 78 = .ok (.iconst 2, 1) := by decide +kernel
theorem dX3_counted_79 : decode cX3_counted 79 = .ok (.iload_n 2, 1) := by decide +kernel
theorem dX3_counted_80 : decode cX3_counted 80 = .ok (.iastore, 1) := by decide +kernel
theorem dX3_counted_81 : decode cX3_counted 81 = .ok (.dup, 1) := by decide +kernel
theorem dX3_counted_82 : decode cX3_counted 82 = .ok (.iconst 3, 1) := by decide +kernel
theorem dX3_counted_83 : decode cX3_counted 83 = .ok (.iload_n 3, 1) := by decide +kernel
theorem dX3_counted_84 : decode cX3_counted 84 = .ok (.iastore, 1) := by decide +kernel
theorem dX3_counted_85 : decode cX3_counted 85 = .ok (.dup, 1) := by decide +kernel
theorem dX3_counted_86 : decode cX3_counted 86 = .ok (.iconst 4, 1) := by decide +kernel
theorem dX3_counted_87 : decode cX3_counted 87 = .ok (.aload_n 0, 1) := by decide +kernel
theorem dX3_counted_88 : decode cX3_counted 88 = .ok (.getfield 54, 3) := by decide +kernel
theorem dX3_counted_91 : decode cX3_counted 91 = .ok (.iload_n 2, 1) := by decide +kernel
theorem dX3_counted_92 : decode cX3_counted 92 = .ok (.isub, 1) := by decide +kernel
theorem dX3_counted_93 : decode cX3_counted 93 = .ok (.iload_n 3, 1) := by decide +kernel
theorem dX3_counted_94 : decode cX3_counted 94 = .ok (.isub, 1) := by decide +kernel
theorem dX3_counted_95 : decode cX3_counted 95 = .ok (.iastore, 1) := by decide +kernel
theorem dX3_counted_96 : decode cX3_counted 96 = .ok (.dup, 1) := by decide +kernel
theorem dX3_counted_97 : decode cX3_counted 97 = .ok (.iconst 5, 1) := by decide +kernel
theorem dX3_counted_98 : decode cX3_counted 98 = .ok (.aload_n 0, 1) := by decide +kernel
theorem dX3_counted_99 : decode cX3_counted 99 = .ok (.getfield 51, 3) := by decide +kernel
theorem dX3_counted_102 : decode cX3_counted 102 = .ok (.iastore, 1) := by decide +kernel
theorem dX3_counted_103 : decode cX3_counted 103 = .ok (.dup, 1) := by decide +kernel
theorem dX3_counted_104 : decode cX3_counted 104 = .ok (.bipush 6, 2) := by decide +kernel
theorem dX3_counted_106 : decode cX3_counted 106 = .ok (.aload_n 0, 1) := by decide +kernel
theorem dX3_counted_107 : decode cX3_counted 107 = .ok (.iconst 0, 1) := by decide +kernel
theorem dX3_counted_108 : decode cX3_counted 108 = .ok (.bipush 15, 2) := by decide +kernel
theorem dX3_counted_110 : decode cX3_counted 110 = .ok (.iconst (-1), 1) := by decide +kernel
theorem dX3_counted_111 : decode cX3_counted 111 = .ok (.invokevirtual 93, 3) := by decide +kernel
theorem dX3_counted_114 : decode cX3_counted 114 = .ok (.iastore, 1) := by decide +kernel
theorem dX3_counted_115 : decode cX3_counted 115 = .ok (.astore 4, 2) := by decide +kernel
theorem dX3_counted_117 : decode cX3_counted 117 = .ok (.aload 4, 2) := by decide +kernel
theorem dX3_counted_119 : decode cX3_counted 119 = .ok (.iload_n 1, 1) := by decide +kernel
theorem dX3_counted_120 : decode cX3_counted 120 = .ok (.iaload, 1) := by decide +kernel
theorem dX3_counted_121 : decode cX3_counted 121 = .ok (.ireturn, 1) := by decide +kernel
set_option maxRecDepth 20000 in
theorem ggX3_count_X3_isIn : GoodIn wsX3_count wsX3_isIn := goodIn_r _ [5] (by decide +kernel) (by decide +kernel)
set_option maxRecDepth 20000 in
theorem gX3_count_X3_isIn : GoodIn wsX3_count (va_wsS RX3 47 yX3_isIn wsX3_isIn) := goodIn_app (goodIn_of _ (by decide +kernel)) ggX3_count_X3_isIn
set_option maxRecDepth 20000 in
theorem ggX3_count_X3_counted : GoodIn wsX3_count wsX3_counted := goodIn_r _ [9, 10, 11, 12, 13, 14, 15, 16, 17, 4, 18, 19, 20, 21, 22, 23, 24, 25, 26, 27, 28, 29, 34, 35, 36, 37, 38, 39, 40, 41, 42, 43, 44, 45, 46, 47, 48] (by decide +kernel) (by decide +kernel)
set_option maxRecDepth 20000 in
theorem gX3_count_X3_counted : GoodIn wsX3_count (wsV RX3 127 RX3 yX3_counted wsX3_counted) := goodIn_app (goodIn_of _ (by decide +kernel)) ggX3_count_X3_counted
set_option maxRecDepth 20000 in
theorem ggX3_count_X3_no : GoodIn wsX3_count wsX3_no := goodIn_r _ [33, 1, 34, 35, 36, 37, 38, 39, 40, 41, 42, 43, 44, 45, 46, 47, 48] (by decide +kernel) (by decide +kernel)
set_option maxRecDepth 20000 in
theorem gX3_count_X3_no : GoodIn wsX3_count (wsV RX3 80 RX3 yX3_no wsX3_no) := goodIn_app (goodIn_of _ (by decide +kernel)) ggX3_count_X3_no
theorem dX3_count_0 : decode cX3_count 0 = .ok (.aload_n 0, 1) := by decide +kernel
theorem dX3_count_1 : decode cX3_count 1 = .ok (.iconst 0, 1) := by decide +kernel
theorem dX3_count_2 : decode cX3_count 2 = .ok (.putfield 43, 3) := by decide +kernel
theorem dX3_count_5 : decode cX3_count 5 = .ok (.iload_n 1, 1) := by decide +kernel
theorem dX3_count_6 : decode cX3_count 6 = .ok (.iconst 0, 1) := by decide +kernel
theorem dX3_count_7 : decode cX3_count 7 = .ok (.bipush 6, 2) := by decide +kernel
theorem dX3_count_9 : decode cX3_count 9 = .ok (.invokestatic 47, 3) := by decide +kernel
theorem dX3_count_12 : decode cX3_count 12 = .ok (.ifCond .eq 11, 3) := by decide +kernel
theorem dX3_count_15 : decode cX3_count 15 = .ok (.aload_n 0, 1) := by decide +kernel
theorem dX3_count_16 : decode cX3_count 16 = .ok (.iload_n 1, 1) := by decide +kernel
theorem dX3_count_17 : decode cX3_count 17 = .ok (.invokevirtual 127, 3) := by decide +kernel
theorem dX3_count_20 : decode cX3_count 20 = .ok (.goto 8, 3) := by decide +kernel
theorem dX3_count_23 : decode cX3_count 23 = .ok (.aload_n 0, 1) := by decide +kernel
theorem dX3_count_24 : decode cX3_count 24 = .ok (.iconst 1, 1) := by decide +kernel
theorem dX3_count_25 : decode cX3_count 25 = .ok (.invokevirtual 80, 3) := by decide +kernel
theorem dX3_count_28 : decode cX3_count 28 = .ok (.ireturn, 1) := by decide +kernel
set_option maxRecDepth 20000 in
theorem ggX3_ticksOf_X3_high : GoodIn wsX3_ticksOf wsX3_high := goodIn_r _ [17, 18, 19, 48, 49, 50, 51, 52, 53, 54, 55, 56, 57, 58, 59, 60, 61, 62] (by decide +kernel) (by decide +kernel)
set_option maxRecDepth 20000 in
theorem gX3_ticksOf_X3_high : GoodIn wsX3_ticksOf (wsV RX3 57 RX3 yX3_high wsX3_high) := goodIn_app (goodIn_of _ (by decide +kernel)) ggX3_ticksOf_X3_high
set_option maxRecDepth 20000 in
theorem ggX3_ticksOf_X3_isInReach : GoodIn wsX3_ticksOf wsX3_isInReach := goodIn_r _ [23, 24, 10, 11, 7, 12, 25, 48, 49, 50, 51, 52, 53, 54, 55, 56, 57, 58, 59, 60, 61, 62] (by decide +kernel) (by decide +kernel)
set_option maxRecDepth 20000 in
theorem gX3_ticksOf_X3_isInReach : GoodIn wsX3_ticksOf (wsV RX3 89 RX3 yX3_isInReach wsX3_isInReach) := goodIn_app (goodIn_of _ (by decide +kernel)) ggX3_ticksOf_X3_isInReach
set_option maxRecDepth 20000 in
theorem ggX3_ticksOf_X3_top : GoodIn wsX3_ticksOf wsX3_top := goodIn_r _ [29, 18, 19, 30, 13, 14, 15, 16, 17, 48, 49, 50, 51, 52, 53, 54, 55, 56, 57, 58, 59, 60, 61, 62] (by decide +kernel) (by decide +kernel)
set_option maxRecDepth 20000 in
theorem gX3_ticksOf_X3_top : GoodIn wsX3_ticksOf (wsV RX3 112 RX3 yX3_top wsX3_top) := goodIn_app (goodIn_of _ (by decide +kernel)) ggX3_ticksOf_X3_top
set_option maxRecDepth 20000 in
theorem ggX3_ticksOf_X3_strength : GoodIn wsX3_ticksOf wsX3_strength := goodIn_r _ [34, 35, 36, 48, 49, 50, 51, 52, 53, 54, 55, 56, 57, 58, 59, 60, 61, 62] (by decide +kernel) (by decide +kernel)
set_option maxRecDepth 20000 in
theorem gX3_ticksOf_X3_strength : GoodIn wsX3_ticksOf (wsV RX3 100 RX3 yX3_strength wsX3_strength) := goodIn_app (goodIn_of _ (by decide +kernel)) ggX3_ticksOf_X3_strength
set_option maxRecDepth 20000 in
theorem ggX3_ticksOf_X3_highest : GoodIn wsX3_ticksOf wsX3_highest := goodIn_r _ [40, 41, 42, 7, 43, 5, 6, 8, 13, 14, 15, 16, 17, 18, 19, 48, 49, 50, 51, 52, 53, 54, 55, 56, 57, 58, 59, 60, 61, 62] (by decide +kernel) (by decide +kernel)
set_option maxRecDepth 20000 in
theorem gX3_ticksOf_X3_highest : GoodIn wsX3_ticksOf (wsV RX3 93 RX3 yX3_highest wsX3_highest) := goodIn_app (goodIn_of _ (by decide +kernel)) ggX3_ticksOf_X3_highest
set_option maxRecDepth 20000 in
theorem ggX3_ticksOf_X3_wound : GoodIn wsX3_ticksOf wsX3_wound := goodIn_r _ [47, 36, 48, 49, 50, 51, 52, 53, 54, 55, 56, 57, 58, 59, 60, 61, 62] (by decide +kernel) (by decide +kernel)
set_option maxRecDepth 20000 in
theorem gX3_ticksOf_X3_wound : GoodIn wsX3_ticksOf (wsV RX3 106 RX3 yX3_wound wsX3_wound) := goodIn_app (goodIn_of _ (by decide +kernel)) ggX3_ticksOf_X3_wound
theorem dX3_ticksOf_0 : decode cX3_ticksOf 0 = .ok (.aload_n 0, 1) := by decide +kernel
theorem dX3_ticksOf_1 : decode cX3_ticksOf 1 = .ok (.iload_n 2, 1) := by decide +kernel
theorem dX3_ticksOf_2 : decode cX3_ticksOf 2 = .ok (.invokevirtual 57, 3) := by decide +kernel
theorem dX3_ticksOf_5 : decode cX3_ticksOf 5 = .ok (.istore 4, 2) := by decide +kernel
theorem dX3_ticksOf_7 : decode cX3_ticksOf 7 = .ok (.aload_n 0, 1) := by decide +kernel
theorem dX3_ticksOf_8 : decode cX3_ticksOf 8 = .ok (.iload_n 3, 1) := by decide +kernel
theorem dX3_ticksOf_9 : decode cX3_ticksOf 9 = .ok (.invokevirtual 57, 3) := by decide +kernel
theorem dX3_ticksOf_12 : decode cX3_ticksOf 12 = .ok (.istore 5, 2) := by decide +kernel
theorem dX3_ticksOf_14 : decode cX3_ticksOf 14 = .ok (.aload_n 0, 1) := by decide +kernel
theorem dX3_ticksOf_15 : decode cX3_ticksOf 15 = .ok (.getfield 40, 3) := by decide +kernel
theorem dX3_ticksOf_18 : decode cX3_ticksOf 18 = .ok (.iload_n 1, 1) := by decide +kernel
theorem dX3_ticksOf_19 : decode cX3_ticksOf 19 = .ok (.iaload, 1) := by decide +kernel
theorem dX3_ticksOf_20 : decode cX3_ticksOf 20 = .ok (.iconst (-1), 1) := by decide +kernel
theorem dX3_ticksOf_21 : decode cX3_ticksOf 21 = .ok (.if_icmp .ne 38, 3) := by decide +kernel
theorem dX3_ticksOf_24 : decode cX3_ticksOf 24 = .ok (.iload_n 2, 1) := by decide +kernel
theorem dX3_ticksOf_25 : decode cX3_ticksOf 25 = .ok (.iload_n 3, 1) := by decide +kernel
theorem dX3_ticksOf_26 : decode cX3_ticksOf 26 = .ok (.if_icmp .eq 33, 3) := by decide +kernel
theorem dX3_ticksOf_29 : decode cX3_ticksOf 29 = .ok (.aload_n 0, 1) := by decide +kernel
theorem dX3_ticksOf_30 : decode cX3_ticksOf 30 = .ok (.iload_n 1, 1) := by decide +kernel
theorem dX3_ticksOf_31 : decode cX3_ticksOf 31 = .ok (.iload_n 2, 1) := by decide +kernel
theorem dX3_ticksOf_32 : decode cX3_ticksOf 32 = .ok (.invokevirtual 89, 3) := by decide +kernel
theorem dX3_ticksOf_35 : decode cX3_ticksOf 35 = .ok (.ifCond .eq 24, 3) := by decide +kernel
theorem dX3_ticksOf_38 : decode cX3_ticksOf 38 = .ok (.aload_n 0, 1) := by decide +kernel
theorem dX3_ticksOf_39 : decode cX3_ticksOf 39 = .ok (.iload_n 1, 1) := by decide +kernel
theorem dX3_ticksOf_40 : decode cX3_ticksOf 40 = .ok (.iload_n 3, 1) := by decide +kernel
theorem dX3_ticksOf_41 : decode cX3_ticksOf 41 = .ok (.invokevirtual 89, 3) := by decide +kernel
theorem dX3_ticksOf_44 : decode cX3_ticksOf 44 = .ok (.ifCond .eq 15, 3) := by decide +kernel
theorem dX3_ticksOf_47 : decode cX3_ticksOf 47 = .ok (.iload 4, 2) := by decide +kernel
theorem dX3_ticksOf_49 : decode cX3_ticksOf 49 = .ok (.ifCond .eq 10, 3) := by decide +kernel
theorem dX3_ticksOf_52 : decode cX3_ticksOf 52 = .ok (.iload 5, 2) := by decide +kernel
theorem dX3_ticksOf_54 : decode cX3_ticksOf 54 = .ok (.bipush 8, 2) := by decide +kernel
theorem dX3_ticksOf_56 : decode cX3_ticksOf 56 = .ok (.if_icmp .ne 5, 3) := by decide +kernel
theorem dX3_ticksOf_59 : decode cX3_ticksOf 59 = .ok (.iconst (-1), 1) := by decide +kernel
theorem dX3_ticksOf_60 : decode cX3_ticksOf 60 = .ok (.ireturn, 1) := by decide +kernel
theorem dX3_ticksOf_61 : decode cX3_ticksOf 61 = .ok (.aload_n 0, 1) := by decide +kernel
theorem dX3_ticksOf_62 : decode cX3_ticksOf 62 = .ok (.getfield 9, 3) := by decide +kernel
theorem dX3_ticksOf_65 : decode cX3_ticksOf 65 = .ok (.aload_n 0, 1) := by decide +kernel
theorem dX3_ticksOf_66 : decode cX3_ticksOf 66 = .ok (.iload_n 2, 1) := by decide +kernel
theorem dX3_ticksOf_67 : decode cX3_ticksOf 67 = .ok (.invokevirtual 112, 3) := by decide +kernel
theorem dX3_ticksOf_70 : decode cX3_ticksOf 70 = .ok (.iaload, 1) := by decide +kernel
theorem dX3_ticksOf_71 : decode cX3_ticksOf 71 = .ok (.istore 6, 2) := by decide +kernel
theorem dX3_ticksOf_73 : decode cX3_ticksOf 73 = .ok (.iload 6, 2) := by decide +kernel
theorem dX3_ticksOf_75 : decode cX3_ticksOf 75 = .ok (.aload_n 0, 1) := by decide +kernel
theorem dX3_ticksOf_76 : decode cX3_ticksOf 76 = .ok (.iload_n 1, 1) := by decide +kernel
theorem dX3_ticksOf_77 : decode cX3_ticksOf 77 = .ok (.invokevirtual 100, 3) := by decide +kernel
theorem dX3_ticksOf_80 : decode cX3_ticksOf 80 = .ok (.if_icmp .le 5, 3) := by decide +kernel
theorem dX3_ticksOf_83 : decode cX3_ticksOf 83 = .ok (.iconst (-1), 1) := by decide +kernel
theorem dX3_ticksOf_84 : decode cX3_ticksOf 84 = .ok (.ireturn, 1) := by decide +kernel
theorem dX3_ticksOf_85 : decode cX3_ticksOf 85 = .ok (.aload_n 0, 1) := by decide +kernel
theorem dX3_ticksOf_86 : decode cX3_ticksOf 86 = .ok (.getfield 37, 3) := by decide +kernel
theorem dX3_ticksOf_89 : decode cX3_ticksOf 89 = .ok (.iload_n 1, 1) := by decide +kernel
theorem dX3_ticksOf_90 : decode cX3_ticksOf 90 = .ok (.iaload, 1) := by decide +kernel
theorem dX3_ticksOf_91 : decode cX3_ticksOf 91 = .ok (.aload_n 0, 1) := by decide +kernel
theorem dX3_ticksOf_92 : decode cX3_ticksOf 92 = .ok (.aload_n 0, 1) := by decide +kernel
theorem dX3_ticksOf_93 : decode cX3_ticksOf 93 = .ok (.getfield 34, 3) := by decide +kernel
theorem dX3_ticksOf_96 : decode cX3_ticksOf 96 = .ok (.iload_n 1, 1) := by decide +kernel
theorem dX3_ticksOf_97 : decode cX3_ticksOf 97 = .ok (.iaload, 1) := by decide +kernel
theorem dX3_ticksOf_98 : decode cX3_ticksOf 98 = .ok (.iload_n 2, 1) := by decide +kernel
theorem dX3_ticksOf_99 : decode cX3_ticksOf 99 = .ok (.iconst (-1), 1) := by decide +kernel
theorem dX3_ticksOf_100 : decode cX3_ticksOf 100 = .ok (.invokevirtual 93, 3) := by decide +kernel
theorem dX3_ticksOf_103 : decode cX3_ticksOf 103 = .ok (.invokestatic 73, 3) := by decide +kernel
theorem dX3_ticksOf_106 : decode cX3_ticksOf 106 = .ok (.istore 7, 2) := by decide +kernel
theorem dX3_ticksOf_108 : decode cX3_ticksOf 108 = .ok (.iload 4, 2) := by decide +kernel
theorem dX3_ticksOf_110 : decode cX3_ticksOf 110 = .ok (.aload_n 0, 1) := by decide +kernel
theorem dX3_ticksOf_111 : decode cX3_ticksOf 111 = .ok (.iload_n 2, 1) := by decide +kernel
theorem dX3_ticksOf_112 : decode cX3_ticksOf 112 = .ok (.iload_n 3, 1) := by decide +kernel
theorem dX3_ticksOf_113 : decode cX3_ticksOf 113 = .ok (.iload_n 2, 1) := by decide +kernel
theorem dX3_ticksOf_114 : decode cX3_ticksOf 114 = .ok (.invokevirtual 93, 3) := by decide +kernel
theorem dX3_ticksOf_117 : decode cX3_ticksOf 117 = .ok (.iconst 1, 1) := by decide +kernel
theorem dX3_ticksOf_118 : decode cX3_ticksOf 118 = .ok (.iadd, 1) := by decide +kernel
theorem dX3_ticksOf_119 : decode cX3_ticksOf 119 = .ok (.invokestatic 73, 3) := by decide +kernel
theorem dX3_ticksOf_122 : decode cX3_ticksOf 122 = .ok (.istore 8, 2) := by decide +kernel
theorem dX3_ticksOf_124 : decode cX3_ticksOf 124 = .ok (.aload_n 0, 1) := by decide +kernel
theorem dX3_ticksOf_125 : decode cX3_ticksOf 125 = .ok (.iload_n 1, 1) := by decide +kernel
theorem dX3_ticksOf_126 : decode cX3_ticksOf 126 = .ok (.iload 8, 2) := by decide +kernel
theorem dX3_ticksOf_128 : decode cX3_ticksOf 128 = .ok (.iload 5, 2) := by decide +kernel
theorem dX3_ticksOf_130 : decode cX3_ticksOf 130 = .ok (.isub, 1) := by decide +kernel
theorem dX3_ticksOf_131 : decode cX3_ticksOf 131 = .ok (.iconst 1, 1) := by decide +kernel
theorem dX3_ticksOf_132 : decode cX3_ticksOf 132 = .ok (.isub, 1) := by decide +kernel
theorem dX3_ticksOf_133 : decode cX3_ticksOf 133 = .ok (.invokevirtual 106, 3) := by decide +kernel
theorem dX3_ticksOf_136 : decode cX3_ticksOf 136 = .ok (.istore 9, 2) := by decide +kernel
theorem dX3_ticksOf_138 : decode cX3_ticksOf 138 = .ok (.aload_n 0, 1) := by decide +kernel
theorem dX3_ticksOf_139 : decode cX3_ticksOf 139 = .ok (.getfield 31, 3) := by decide +kernel
theorem dX3_ticksOf_142 : decode cX3_ticksOf 142 = .ok (.iload_n 1, 1) := by decide +kernel
theorem dX3_ticksOf_143 : decode cX3_ticksOf 143 = .ok (.iaload, 1) := by decide +kernel
theorem dX3_ticksOf_144 : decode cX3_ticksOf 144 = .ok (.iload 9, 2) := by decide +kernel
theorem dX3_ticksOf_146 : decode cX3_ticksOf 146 = .ok (.iload 6, 2) := by decide +kernel
theorem dX3_ticksOf_148 : decode cX3_ticksOf 148 = .ok (.bipush 20, 2) := by decide +kernel
theorem dX3_ticksOf_150 : decode cX3_ticksOf 150 = .ok (.idiv, 1) := by decide +kernel
theorem dX3_ticksOf_151 : decode cX3_ticksOf 151 = .ok (.iconst 1, 1) := by decide +kernel
theorem dX3_ticksOf_152 : decode cX3_ticksOf 152 = .ok (.iadd, 1) := by decide +kernel
theorem dX3_ticksOf_153 : decode cX3_ticksOf 153 = .ok (.imul, 1) := by decide +kernel
theorem dX3_ticksOf_154 : decode cX3_ticksOf 154 = .ok (.iadd, 1) := by decide +kernel
theorem dX3_ticksOf_155 : decode cX3_ticksOf 155 = .ok (.bipush 99, 2) := by decide +kernel
theorem dX3_ticksOf_157 : decode cX3_ticksOf 157 = .ok (.if_icmp .le 5, 3) := by decide +kernel
theorem dX3_ticksOf_160 : decode cX3_ticksOf 160 = .ok (.iconst (-1), 1) := by decide +kernel
theorem dX3_ticksOf_161 : decode cX3_ticksOf 161 = .ok (.ireturn, 1) := by decide +kernel
theorem dX3_ticksOf_162 : decode cX3_ticksOf 162 = .ok (.aload_n 0, 1) := by decide +kernel
theorem dX3_ticksOf_163 : decode cX3_ticksOf 163 = .ok (.iload_n 1, 1) := by decide +kernel
theorem dX3_ticksOf_164 : decode cX3_ticksOf 164 = .ok (.iload 7, 2) := by decide +kernel
theorem dX3_ticksOf_166 : decode cX3_ticksOf 166 = .ok (.aload_n 0, 1) := by decide +kernel
theorem dX3_ticksOf_167 : decode cX3_ticksOf 167 = .ok (.getfield 37, 3) := by decide +kernel
theorem dX3_ticksOf_170 : decode cX3_ticksOf 170 = .ok (.iload_n 1, 1) := by decide +kernel
theorem dX3_ticksOf_171 : decode cX3_ticksOf 171 = .ok (.iaload, 1) := by decide +kernel
theorem dX3_ticksOf_172 : decode cX3_ticksOf 172 = .ok (.isub, 1) := by decide +kernel
theorem dX3_ticksOf_173 : decode cX3_ticksOf 173 = .ok (.invokevirtual 106, 3) := by decide +kernel
theorem dX3_ticksOf_176 : decode cX3_ticksOf 176 = .ok (.aload_n 0, 1) := by decide +kernel
theorem dX3_ticksOf_177 : decode cX3_ticksOf 177 = .ok (.getfield 34, 3) := by decide +kernel
theorem dX3_ticksOf_180 : decode cX3_ticksOf 180 = .ok (.iload_n 1, 1) := by decide +kernel
theorem dX3_ticksOf_181 : decode cX3_ticksOf 181 = .ok (.iaload, 1) := by decide +kernel
theorem dX3_ticksOf_182 : decode cX3_ticksOf 182 = .ok (.iload_n 2, 1) := by decide +kernel
theorem dX3_ticksOf_183 : decode cX3_ticksOf 183 = .ok (.isub, 1) := by decide +kernel
theorem dX3_ticksOf_184 : decode cX3_ticksOf 184 = .ok (.invokestatic 61, 3) := by decide +kernel
theorem dX3_ticksOf_187 : decode cX3_ticksOf 187 = .ok (.iadd, 1) := by decide +kernel
theorem dX3_ticksOf_188 : decode cX3_ticksOf 188 = .ok (.aload_n 0, 1) := by decide +kernel
theorem dX3_ticksOf_189 : decode cX3_ticksOf 189 = .ok (.iload_n 1, 1) := by decide +kernel
theorem dX3_ticksOf_190 : decode cX3_ticksOf 190 = .ok (.iload 7, 2) := by decide +kernel
theorem dX3_ticksOf_192 : decode cX3_ticksOf 192 = .ok (.iload 4, 2) := by decide +kernel
theorem dX3_ticksOf_194 : decode cX3_ticksOf 194 = .ok (.isub, 1) := by decide +kernel
theorem dX3_ticksOf_195 : decode cX3_ticksOf 195 = .ok (.invokevirtual 106, 3) := by decide +kernel
theorem dX3_ticksOf_198 : decode cX3_ticksOf 198 = .ok (.iadd, 1) := by decide +kernel
theorem dX3_ticksOf_199 : decode cX3_ticksOf 199 = .ok (.aload_n 0, 1) := by decide +kernel
theorem dX3_ticksOf_200 : decode cX3_ticksOf 200 = .ok (.iload_n 1, 1) := by decide +kernel
theorem dX3_ticksOf_201 : decode cX3_ticksOf 201 = .ok (.iload 8, 2) := by decide +kernel
theorem dX3_ticksOf_203 : decode cX3_ticksOf 203 = .ok (.iload 4, 2) := by decide +kernel
theorem dX3_ticksOf_205 : decode cX3_ticksOf 205 = .ok (.isub, 1) := by decide +kernel
theorem dX3_ticksOf_206 : decode cX3_ticksOf 206 = .ok (.invokevirtual 106, 3) := by decide +kernel
theorem dX3_ticksOf_209 : decode cX3_ticksOf 209 = .ok (.iadd, 1) := by decide +kernel
theorem dX3_ticksOf_210 : decode cX3_ticksOf 210 = .ok (.iload_n 2, 1) := by decide +kernel
theorem dX3_ticksOf_211 : decode cX3_ticksOf 211 = .ok (.iload_n 3, 1) := by decide +kernel
theorem dX3_ticksOf_212 : decode cX3_ticksOf 212 = .ok (.isub, 1) := by decide +kernel
theorem dX3_ticksOf_213 : decode cX3_ticksOf 213 = .ok (.invokestatic 61, 3) := by decide +kernel
theorem dX3_ticksOf_216 : decode cX3_ticksOf 216 = .ok (.iadd, 1) := by decide +kernel
theorem dX3_ticksOf_217 : decode cX3_ticksOf 217 = .ok (.iload 9, 2) := by decide +kernel
theorem dX3_ticksOf_219 : decode cX3_ticksOf 219 = .ok (.iadd, 1) := by decide +kernel
theorem dX3_ticksOf_220 : decode cX3_ticksOf 220 = .ok (.ireturn, 1) := by decide +kernel
set_option maxRecDepth 20000 in
theorem ggX3_move_X3_isCrane : GoodIn wsX3_move wsX3_isCrane := goodIn_r _ [6, 7, 8, 9, 5, 10, 68, 69, 70, 71, 72, 73, 74, 75, 76, 77, 78, 79, 80, 81, 82] (by decide +kernel) (by decide +kernel)
set_option maxRecDepth 20000 in
theorem gX3_move_X3_isCrane : GoodIn wsX3_move (wsV RX3 86 RX3 yX3_isCrane wsX3_isCrane) := goodIn_app (goodIn_of _ (by decide +kernel)) ggX3_move_X3_isCrane
set_option maxRecDepth 20000 in
theorem ggX3_move_X3_isPlace : GoodIn wsX3_move wsX3_isPlace := goodIn_r _ [13, 8, 9, 5, 10] (by decide +kernel) (by decide +kernel)
set_option maxRecDepth 20000 in
theorem gX3_move_X3_isPlace : GoodIn wsX3_move (va_wsS RX3 76 yX3_isPlace wsX3_isPlace) := goodIn_app (goodIn_of _ (by decide +kernel)) ggX3_move_X3_isPlace
set_option maxRecDepth 20000 in
theorem ggX3_move_X3_ticksOf : GoodIn wsX3_move wsX3_ticksOf := goodIn_r _ [17, 18, 19, 20, 21, 22, 23, 24, 25, 26, 27, 28, 29, 30, 31, 32, 5, 33, 34, 35, 36, 37, 38, 39, 40, 41, 42, 43, 44, 45, 46, 47, 48, 49, 50, 51, 52, 53, 54, 55, 56, 57, 58, 59, 60, 61, 62, 63, 68, 69, 70, 71, 72, 73, 74, 75, 76, 77, 78, 79, 80, 81, 82] (by decide +kernel) (by decide +kernel)
set_option maxRecDepth 20000 in
theorem gX3_move_X3_ticksOf : GoodIn wsX3_move (wsV RX3 130 RX3 yX3_ticksOf wsX3_ticksOf) := goodIn_app (goodIn_of _ (by decide +kernel)) ggX3_move_X3_ticksOf
set_option maxRecDepth 20000 in
theorem ggX3_move_X3_no : GoodIn wsX3_move wsX3_no := goodIn_r _ [67, 1, 68, 69, 70, 71, 72, 73, 74, 75, 76, 77, 78, 79, 80, 81, 82] (by decide +kernel) (by decide +kernel)
set_option maxRecDepth 20000 in
theorem gX3_move_X3_no : GoodIn wsX3_move (wsV RX3 80 RX3 yX3_no wsX3_no) := goodIn_app (goodIn_of _ (by decide +kernel)) ggX3_move_X3_no
theorem dX3_move_0 : decode cX3_move 0 = .ok (.aload_n 0, 1) := by decide +kernel
theorem dX3_move_1 : decode cX3_move 1 = .ok (.iconst 0, 1) := by decide +kernel
theorem dX3_move_2 : decode cX3_move 2 = .ok (.putfield 43, 3) := by decide +kernel
theorem dX3_move_5 : decode cX3_move 5 = .ok (.aload_n 0, 1) := by decide +kernel
theorem dX3_move_6 : decode cX3_move 6 = .ok (.iload_n 1, 1) := by decide +kernel
theorem dX3_move_7 : decode cX3_move 7 = .ok (.invokevirtual 86, 3) := by decide +kernel
theorem dX3_move_10 : decode cX3_move 10 = .ok (.ifCond .eq 27, 3) := by decide +kernel
theorem dX3_move_13 : decode cX3_move 13 = .ok (.iload_n 2, 1) := by decide +kernel
theorem dX3_move_14 : decode cX3_move 14 = .ok (.invokestatic 76, 3) := by decide +kernel
theorem dX3_move_17 : decode cX3_move 17 = .ok (.ifCond .eq 20, 3) := by decide +kernel
theorem dX3_move_20 : decode cX3_move 20 = .ok (.iload_n 3, 1) := by decide +kernel
theorem dX3_move_21 : decode cX3_move 21 = .ok (.invokestatic 76, 3) := by decide +kernel
theorem dX3_move_24 : decode cX3_move 24 = .ok (.ifCond .eq 13, 3) := by decide +kernel
theorem dX3_move_27 : decode cX3_move 27 = .ok (.aload_n 0, 1) := by decide +kernel
theorem dX3_move_28 : decode cX3_move 28 = .ok (.iload_n 1, 1) := by decide +kernel
theorem dX3_move_29 : decode cX3_move 29 = .ok (.iload_n 2, 1) := by decide +kernel
theorem dX3_move_30 : decode cX3_move 30 = .ok (.iload_n 3, 1) := by decide +kernel
theorem dX3_move_31 : decode cX3_move 31 = .ok (.invokevirtual 130, 3) := by decide +kernel
theorem dX3_move_34 : decode cX3_move 34 = .ok (.goto 8, 3) := by decide +kernel
theorem dX3_move_37 : decode cX3_move 37 = .ok (.aload_n 0, 1) := by decide +kernel
theorem dX3_move_38 : decode cX3_move 38 = .ok (.iconst 1, 1) := by decide +kernel
theorem dX3_move_39 : decode cX3_move 39 = .ok (.invokevirtual 80, 3) := by decide +kernel
theorem dX3_move_42 : decode cX3_move 42 = .ok (.ireturn, 1) := by decide +kernel
set_option maxRecDepth 20000 in
theorem ggX3_best_X3_isPlace : GoodIn wsX3_best wsX3_isPlace := goodIn_r _ [6, 7, 8, 5, 9] (by decide +kernel) (by decide +kernel)
set_option maxRecDepth 20000 in
theorem gX3_best_X3_isPlace : GoodIn wsX3_best (va_wsS RX3 76 yX3_isPlace wsX3_isPlace) := goodIn_app (goodIn_of _ (by decide +kernel)) ggX3_best_X3_isPlace
set_option maxRecDepth 20000 in
theorem ggX3_best_X3_no : GoodIn wsX3_best wsX3_no := goodIn_r _ [13, 1, 64, 65, 66, 67, 68, 69, 70, 71, 72, 73, 74, 75, 76, 77, 78] (by decide +kernel) (by decide +kernel)
set_option maxRecDepth 20000 in
theorem gX3_best_X3_no : GoodIn wsX3_best (wsV RX3 80 RX3 yX3_no wsX3_no) := goodIn_app (goodIn_of _ (by decide +kernel)) ggX3_best_X3_no
set_option maxRecDepth 20000 in
theorem ggX3_best_X3_ticksOf : GoodIn wsX3_best wsX3_ticksOf := goodIn_r _ [17, 18, 19, 20, 21, 22, 23, 24, 25, 26, 27, 28, 29, 30, 31, 32, 5, 33, 34, 35, 36, 37, 38, 39, 40, 41, 42, 43, 44, 45, 46, 47, 48, 49, 50, 51, 52, 53, 54, 55, 56, 57, 58, 59, 60, 61, 62, 63, 64, 65, 66, 67, 68, 69, 70, 71, 72, 73, 74, 75, 76, 77, 78] (by decide +kernel) (by decide +kernel)
set_option maxRecDepth 20000 in
theorem gX3_best_X3_ticksOf : GoodIn wsX3_best (wsV RX3 130 RX3 yX3_ticksOf wsX3_ticksOf) := goodIn_app (goodIn_of _ (by decide +kernel)) ggX3_best_X3_ticksOf
theorem dX3_best_0 : decode cX3_best 0 = .ok (.aload_n 0, 1) := by decide +kernel
theorem dX3_best_1 : decode cX3_best 1 = .ok (.iconst 0, 1) := by decide +kernel
theorem dX3_best_2 : decode cX3_best 2 = .ok (.putfield 43, 3) := by decide +kernel
theorem dX3_best_5 : decode cX3_best 5 = .ok (.iload_n 1, 1) := by decide +kernel
theorem dX3_best_6 : decode cX3_best 6 = .ok (.invokestatic 76, 3) := by decide +kernel
theorem dX3_best_9 : decode cX3_best 9 = .ok (.ifCond .eq 10, 3) := by decide +kernel
theorem dX3_best_12 : decode cX3_best 12 = .ok (.iload_n 2, 1) := by decide +kernel
theorem dX3_best_13 : decode cX3_best 13 = .ok (.invokestatic 76, 3) := by decide +kernel
theorem dX3_best_16 : decode cX3_best 16 = .ok (.ifCond .ne 9, 3) := by decide +kernel
theorem dX3_best_19 : decode cX3_best 19 = .ok (.aload_n 0, 1) := by decide +kernel
theorem dX3_best_20 : decode cX3_best 20 = .ok (.iconst 1, 1) := by decide +kernel
theorem dX3_best_21 : decode cX3_best 21 = .ok (.invokevirtual 80, 3) := by decide +kernel
theorem dX3_best_24 : decode cX3_best 24 = .ok (.ireturn, 1) := by decide +kernel
theorem dX3_best_25 : decode cX3_best 25 = .ok (.iconst (-1), 1) := by decide +kernel
theorem dX3_best_26 : decode cX3_best 26 = .ok (.istore_n 3, 1) := by decide +kernel
theorem dX3_best_27 : decode cX3_best 27 = .ok (.iconst 0, 1) := by decide +kernel
theorem dX3_best_28 : decode cX3_best 28 = .ok (.istore 4, 2) := by decide +kernel
theorem dX3_best_30 : decode cX3_best 30 = .ok (.iconst 0, 1) := by decide +kernel
theorem dX3_best_31 : decode cX3_best 31 = .ok (.istore 5, 2) := by decide +kernel
theorem dX3_best_33 : decode cX3_best 33 = .ok (.iload 5, 2) := by decide +kernel
theorem dX3_best_35 : decode cX3_best 35 = .ok (.aload_n 0, 1) := by decide +kernel
theorem dX3_best_36 : decode cX3_best 36 = .ok (.getfield 51, 3) := by decide +kernel
theorem dX3_best_39 : decode cX3_best 39 = .ok (.if_icmp .ge 47, 3) := by decide +kernel
theorem dX3_best_42 : decode cX3_best 42 = .ok (.aload_n 0, 1) := by decide +kernel
theorem dX3_best_43 : decode cX3_best 43 = .ok (.iload 5, 2) := by decide +kernel
theorem dX3_best_45 : decode cX3_best 45 = .ok (.iload_n 1, 1) := by decide +kernel
theorem dX3_best_46 : decode cX3_best 46 = .ok (.iload_n 2, 1) := by decide +kernel
theorem dX3_best_47 : decode cX3_best 47 = .ok (.invokevirtual 130, 3) := by decide +kernel
theorem dX3_best_50 : decode cX3_best 50 = .ok (.istore 6, 2) := by decide +kernel
theorem dX3_best_52 : decode cX3_best 52 = .ok (.iload 6, 2) := by decide +kernel
theorem dX3_best_54 : decode cX3_best 54 = .ok (.iconst (-1), 1) := by decide +kernel
theorem dX3_best_55 : decode cX3_best 55 = .ok (.if_icmp .eq 25, 3) := by decide +kernel
theorem dX3_best_58 : decode cX3_best 58 = .ok (.iload_n 3, 1) := by decide +kernel
theorem dX3_best_59 : decode cX3_best 59 = .ok (.iconst (-1), 1) := by decide +kernel
theorem dX3_best_60 : decode cX3_best 60 = .ok (.if_icmp .eq 13, 3) := by decide +kernel
theorem dX3_best_63 : decode cX3_best 63 = .ok (.iload 6, 2) := by decide +kernel
theorem dX3_best_65 : decode cX3_best 65 = .ok (.iload 4, 2) := by decide +kernel
theorem dX3_best_67 : decode cX3_best 67 = .ok (.if_icmp .lt 6, 3) := by decide +kernel
theorem dX3_best_70 : decode cX3_best 70 = .ok (.goto 10, 3) := by decide +kernel
theorem dX3_best_73 : decode cX3_best 73 = .ok (.iload 5, 2) := by decide +kernel
theorem dX3_best_75 : decode cX3_best 75 = .ok (.istore_n 3, 1) := by decide +kernel
