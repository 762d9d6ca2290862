theorem dX2_ticksToMove_7 : decode cX2_ticksToMove 7 = .ok (.aload 4, 2) := by decide +kernel
theorem dX2_ticksToMove_9 : decode cX2_ticksToMove 9 = .ok (.ifnull 25, 3) := by decide +kernel
theorem dX2_ticksToMove_12 : decode cX2_ticksToMove 12 = .ok (.aload_n 1, 1) := by decide +kernel
theorem dX2_ticksToMove_13 : decode cX2_ticksToMove 13 = .ok (.aload 4, 2) := by decide +kernel
theorem dX2_ticksToMove_15 : decode cX2_ticksToMove 15 = .ok (.getfield 134, 3) := by decide +kernel
theorem dX2_ticksToMove_18 : decode cX2_ticksToMove 18 = .ok (.invokevirtual 137, 3) := by decide +kernel
theorem dX2_ticksToMove_21 : decode cX2_ticksToMove 21 = .ok (.ifCond .eq 13, 3) := by decide +kernel
theorem dX2_ticksToMove_24 : decode cX2_ticksToMove 24 = .ok (.aload_n 0, 1) := by decide +kernel
theorem dX2_ticksToMove_25 : decode cX2_ticksToMove 25 = .ok (.aload_n 1, 1) := by decide +kernel
theorem dX2_ticksToMove_26 : decode cX2_ticksToMove 26 = .ok (.iload_n 2, 1) := by decide +kernel
theorem dX2_ticksToMove_27 : decode cX2_ticksToMove 27 = .ok (.iload_n 3, 1) := by decide +kernel
theorem dX2_ticksToMove_28 : decode cX2_ticksToMove 28 = .ok (.invokevirtual 244, 3) := by decide +kernel
theorem dX2_ticksToMove_31 : decode cX2_ticksToMove 31 = .ok (.ifCond .ne 5, 3) := by decide +kernel
theorem dX2_ticksToMove_34 : decode cX2_ticksToMove 34 = .ok (.iconst (-1), 1) := by decide +kernel
theorem dX2_ticksToMove_35 : decode cX2_ticksToMove 35 = .ok (.ireturn, 1) := by decide +kernel
theorem dX2_ticksToMove_36 : decode cX2_ticksToMove 36 = .ok (.aload_n 0, 1) := by decide +kernel
theorem dX2_ticksToMove_37 : decode cX2_ticksToMove 37 = .ok (.iload_n 2, 1) := by decide +kernel
theorem dX2_ticksToMove_38 : decode cX2_ticksToMove 38 = .ok (.invokevirtual 36, 3) := by decide +kernel
theorem dX2_ticksToMove_41 : decode cX2_ticksToMove 41 = .ok (.istore 5, 2) := by decide +kernel
theorem dX2_ticksToMove_43 : decode cX2_ticksToMove 43 = .ok (.aload_n 0, 1) := by decide +kernel
theorem dX2_ticksToMove_44 : decode cX2_ticksToMove 44 = .ok (.iload_n 3, 1) := by decide +kernel
theorem dX2_ticksToMove_45 : decode cX2_ticksToMove 45 = .ok (.invokevirtual 36, 3) := by decide +kernel
theorem dX2_ticksToMove_48 : decode cX2_ticksToMove 48 = .ok (.iconst 1, 1) := by decide +kernel
theorem dX2_ticksToMove_49 : decode cX2_ticksToMove 49 = .ok (.iadd, 1) := by decide +kernel
theorem dX2_ticksToMove_50 : decode cX2_ticksToMove 50 = .ok (.istore 6, 2) := by decide +kernel
theorem dX2_ticksToMove_52 : decode cX2_ticksToMove 52 = .ok (.aload_n 1, 1) := by decide +kernel
theorem dX2_ticksToMove_53 : decode cX2_ticksToMove 53 = .ok (.getfield 105, 3) := by decide +kernel
theorem dX2_ticksToMove_56 : decode cX2_ticksToMove 56 = .ok (.aload_n 0, 1) := by decide +kernel
theorem dX2_ticksToMove_57 : decode cX2_ticksToMove 57 = .ok (.aload_n 1, 1) := by decide +kernel
theorem dX2_ticksToMove_58 : decode cX2_ticksToMove 58 = .ok (.getfield 108, 3) := by decide +kernel
theorem dX2_ticksToMove_61 : decode cX2_ticksToMove 61 = .ok (.iload_n 2, 1) := by decide +kernel
theorem dX2_ticksToMove_62 : decode cX2_ticksToMove 62 = .ok (.invokevirtual 111, 3) := by decide +kernel
theorem dX2_ticksToMove_65 : decode cX2_ticksToMove 65 = .ok (.invokestatic 228, 3) := by decide +kernel
theorem dX2_ticksToMove_68 : decode cX2_ticksToMove 68 = .ok (.istore 7, 2) := by decide +kernel
theorem dX2_ticksToMove_70 : decode cX2_ticksToMove 70 = .ok (.iload_n 2, 1) := by decide +kernel
theorem dX2_ticksToMove_71 : decode cX2_ticksToMove 71 = .ok (.iload_n 3, 1) := by decide +kernel
theorem dX2_ticksToMove_72 : decode cX2_ticksToMove 72 = .ok (.if_icmp .ge 9, 3) := by decide +kernel
theorem dX2_ticksToMove_75 : decode cX2_ticksToMove 75 = .ok (.iload_n 2, 1) := by decide +kernel
theorem dX2_ticksToMove_76 : decode cX2_ticksToMove 76 = .ok (.iconst 1, 1) := by decide +kernel
theorem dX2_ticksToMove_77 : decode cX2_ticksToMove 77 = .ok (.iadd, 1) := by decide +kernel
theorem dX2_ticksToMove_78 : decode cX2_ticksToMove 78 = .ok (.goto 6, 3) := by decide +kernel
theorem dX2_ticksToMove_81 : decode cX2_ticksToMove 81 = .ok (.iload_n 2, 1) := by decide +kernel
theorem dX2_ticksToMove_82 : decode cX2_ticksToMove 82 = .ok (.iconst 1, 1) := by decide +kernel
theorem dX2_ticksToMove_83 : decode cX2_ticksToMove 83 = .ok (.isub, 1) := by decide +kernel
theorem dX2_ticksToMove_84 : decode cX2_ticksToMove 84 = .ok (.istore 8, 2) := by decide +kernel
theorem dX2_ticksToMove_86 : decode cX2_ticksToMove 86 = .ok (.iload 5, 2) := by decide +kernel
theorem dX2_ticksToMove_88 : decode cX2_ticksToMove 88 = .ok (.aload_n 0, 1) := by decide +kernel
theorem dX2_ticksToMove_89 : decode cX2_ticksToMove 89 = .ok (.iload 8, 2) := by decide +kernel
theorem dX2_ticksToMove_91 : decode cX2_ticksToMove 91 = .ok (.iload_n 3, 1) := by decide +kernel
theorem dX2_ticksToMove_92 : decode cX2_ticksToMove 92 = .ok (.invokevirtual 111, 3) := by decide +kernel
theorem dX2_ticksToMove_95 : decode cX2_ticksToMove 95 = .ok (.iconst 1, 1) := by decide +kernel
theorem dX2_ticksToMove_96 : decode cX2_ticksToMove 96 = .ok (.iadd, 1) := by decide +kernel
theorem dX2_ticksToMove_97 : decode cX2_ticksToMove 97 = .ok (.invokestatic 228, 3) := by decide +kernel
theorem dX2_ticksToMove_100 : decode cX2_ticksToMove 100 = .ok (.istore 9, 2) := by decide +kernel
theorem dX2_ticksToMove_102 : decode cX2_ticksToMove 102 = .ok (.aload_n 1, 1) := by decide +kernel
theorem dX2_ticksToMove_103 : decode cX2_ticksToMove 103 = .ok (.iload 9, 2) := by decide +kernel
theorem dX2_ticksToMove_105 : decode cX2_ticksToMove 105 = .ok (.iload 6, 2) := by decide +kernel
theorem dX2_ticksToMove_107 : decode cX2_ticksToMove 107 = .ok (.isub, 1) := by decide +kernel
theorem dX2_ticksToMove_108 : decode cX2_ticksToMove 108 = .ok (.invokevirtual 234, 3) := by decide +kernel
theorem dX2_ticksToMove_111 : decode cX2_ticksToMove 111 = .ok (.istore 10, 2) := by decide +kernel
theorem dX2_ticksToMove_113 : decode cX2_ticksToMove 113 = .ok (.aload_n 1, 1) := by decide +kernel
theorem dX2_ticksToMove_114 : decode cX2_ticksToMove 114 = .ok (.aload 4, 2) := by decide +kernel
theorem dX2_ticksToMove_116 : decode cX2_ticksToMove 116 = .ok (.getfield 134, 3) := by decide +kernel
theorem dX2_ticksToMove_119 : decode cX2_ticksToMove 119 = .ok (.iload 10, 2) := by decide +kernel
theorem dX2_ticksToMove_121 : decode cX2_ticksToMove 121 = .ok (.invokevirtual 237, 3) := by decide +kernel
theorem dX2_ticksToMove_124 : decode cX2_ticksToMove 124 = .ok (.bipush 99, 2) := by decide +kernel
theorem dX2_ticksToMove_126 : decode cX2_ticksToMove 126 = .ok (.if_icmp .le 5, 3) := by decide +kernel
theorem dX2_ticksToMove_129 : decode cX2_ticksToMove 129 = .ok (.iconst (-1), 1) := by decide +kernel
theorem dX2_ticksToMove_130 : decode cX2_ticksToMove 130 = .ok (.ireturn, 1) := by decide +kernel
theorem dX2_ticksToMove_131 : decode cX2_ticksToMove 131 = .ok (.aload_n 1, 1) := by decide +kernel
theorem dX2_ticksToMove_132 : decode cX2_ticksToMove 132 = .ok (.iload 7, 2) := by decide +kernel
theorem dX2_ticksToMove_134 : decode cX2_ticksToMove 134 = .ok (.aload_n 1, 1) := by decide +kernel
theorem dX2_ticksToMove_135 : decode cX2_ticksToMove 135 = .ok (.getfield 105, 3) := by decide +kernel
theorem dX2_ticksToMove_138 : decode cX2_ticksToMove 138 = .ok (.isub, 1) := by decide +kernel
theorem dX2_ticksToMove_139 : decode cX2_ticksToMove 139 = .ok (.invokevirtual 234, 3) := by decide +kernel
theorem dX2_ticksToMove_142 : decode cX2_ticksToMove 142 = .ok (.aload_n 1, 1) := by decide +kernel
theorem dX2_ticksToMove_143 : decode cX2_ticksToMove 143 = .ok (.getfield 108, 3) := by decide +kernel
theorem dX2_ticksToMove_146 : decode cX2_ticksToMove 146 = .ok (.iload_n 2, 1) := by decide +kernel
theorem dX2_ticksToMove_147 : decode cX2_ticksToMove 147 = .ok (.invokestatic 120, 3) := by decide +kernel
theorem dX2_ticksToMove_150 : decode cX2_ticksToMove 150 = .ok (.iadd, 1) := by decide +kernel
theorem dX2_ticksToMove_151 : decode cX2_ticksToMove 151 = .ok (.aload_n 1, 1) := by decide +kernel
theorem dX2_ticksToMove_152 : decode cX2_ticksToMove 152 = .ok (.iload 7, 2) := by decide +kernel
theorem dX2_ticksToMove_154 : decode cX2_ticksToMove 154 = .ok (.iload 5, 2) := by decide +kernel
theorem dX2_ticksToMove_156 : decode cX2_ticksToMove 156 = .ok (.isub, 1) := by decide +kernel
theorem dX2_ticksToMove_157 : decode cX2_ticksToMove 157 = .ok (.invokevirtual 234, 3) := by decide +kernel
theorem dX2_ticksToMove_160 : decode cX2_ticksToMove 160 = .ok (.iadd, 1) := by decide +kernel
theorem dX2_ticksToMove_161 : decode cX2_ticksToMove 161 = .ok (.aload_n 1, 1) := by decide +kernel
theorem dX2_ticksToMove_162 : decode cX2_ticksToMove 162 = .ok (.iload 9, 2) := by decide +kernel
theorem dX2_ticksToMove_164 : decode cX2_ticksToMove 164 = .ok (.iload 5, 2) := by decide +kernel
theorem dX2_ticksToMove_166 : decode cX2_ticksToMove 166 = .ok (.isub, 1) := by decide +kernel
theorem dX2_ticksToMove_167 : decode cX2_ticksToMove 167 = .ok (.invokevirtual 234, 3) := by decide +kernel
theorem dX2_ticksToMove_170 : decode cX2_ticksToMove 170 = .ok (.iadd, 1) := by decide +kernel
theorem dX2_ticksToMove_171 : decode cX2_ticksToMove 171 = .ok (.iload_n 2, 1) := by decide +kernel
theorem dX2_ticksToMove_172 : decode cX2_ticksToMove 172 = .ok (.iload_n 3, 1) := by decide +kernel
theorem dX2_ticksToMove_173 : decode cX2_ticksToMove 173 = .ok (.invokestatic 120, 3) := by decide +kernel
theorem dX2_ticksToMove_176 : decode cX2_ticksToMove 176 = .ok (.iadd, 1) := by decide +kernel
theorem dX2_ticksToMove_177 : decode cX2_ticksToMove 177 = .ok (.iload 10, 2) := by decide +kernel
theorem dX2_ticksToMove_179 : decode cX2_ticksToMove 179 = .ok (.iadd, 1) := by decide +kernel
theorem dX2_ticksToMove_180 : decode cX2_ticksToMove 180 = .ok (.ireturn, 1) := by decide +kernel
set_option maxRecDepth 20000 in
theorem ggX2_placeAnswer_X2_heightOf : GoodIn wsX2_placeAnswer wsX2_heightOf := goodIn_r _ [5, 6, 7, 8, 9, 4, 10, 11, 12, 13, 14, 15, 16, 17, 58, 59, 60, 61, 62, 63, 64, 65, 66, 67, 68] (by decide +kernel) (by decide +kernel)
set_option maxRecDepth 20000 in
theorem gX2_placeAnswer_X2_heightOf : GoodIn wsX2_placeAnswer (wsV RX2 36 RX2 yX2_heightOf wsX2_heightOf) := goodIn_app (goodIn_of _ (by decide +kernel)) ggX2_placeAnswer_X2_heightOf
set_option maxRecDepth 20000 in
theorem ggX2_placeAnswer_X2_uppermostAt : GoodIn wsX2_placeAnswer wsX2_uppermostAt := goodIn_r _ [10, 11, 12, 13, 4, 14, 15, 16, 17, 65, 66, 67, 68] (by decide +kernel) (by decide +kernel)
set_option maxRecDepth 20000 in
theorem gX2_placeAnswer_X2_uppermostAt : GoodIn wsX2_placeAnswer (wsV RX2 149 RX2 yX2_uppermostAt wsX2_uppermostAt) := goodIn_app (goodIn_of _ (by decide +kernel)) ggX2_placeAnswer_X2_uppermostAt
set_option maxRecDepth 20000 in
theorem ggX2_placeAnswer_X2_numberOf : GoodIn wsX2_placeAnswer wsX2_numberOf := goodIn_r _ [20, 21, 58, 59, 60, 61, 62, 63, 64] (by decide +kernel) (by decide +kernel)
set_option maxRecDepth 20000 in
theorem gX2_placeAnswer_X2_numberOf : GoodIn wsX2_placeAnswer (va_wsS RX2 248 yX2_numberOf wsX2_numberOf) := goodIn_app (goodIn_of _ (by decide +kernel)) ggX2_placeAnswer_X2_numberOf
set_option maxRecDepth 20000 in
theorem ggX2_placeAnswer_X2_weightsAt : GoodIn wsX2_placeAnswer wsX2_weightsAt := goodIn_r _ [25, 26, 27, 7, 8, 9, 4, 10, 11, 12, 13, 14, 15, 16, 17, 58, 59, 60, 61, 62, 63, 64, 65, 66, 67, 68] (by decide +kernel) (by decide +kernel)
set_option maxRecDepth 20000 in
theorem gX2_placeAnswer_X2_weightsAt : GoodIn wsX2_placeAnswer (wsV RX2 252 RX2 yX2_weightsAt wsX2_weightsAt) := goodIn_app (goodIn_of _ (by decide +kernel)) ggX2_placeAnswer_X2_weightsAt
set_option maxRecDepth 20000 in
theorem ggX2_placeAnswer_X2_hooksOver : GoodIn wsX2_placeAnswer wsX2_hooksOver := goodIn_r _ [31, 32, 33, 34, 35, 36, 37, 38, 39, 40, 41, 42, 43, 44, 45, 46, 47, 48, 49, 50, 51, 52, 53, 54, 55, 56, 57, 65, 66, 67, 68, 69, 70, 71, 72, 73, 74, 75, 76, 77, 78, 79] (by decide +kernel) (by decide +kernel)
set_option maxRecDepth 20000 in
theorem gX2_placeAnswer_X2_hooksOver : GoodIn wsX2_placeAnswer (wsV RX2 255 RX2 yX2_hooksOver wsX2_hooksOver) := goodIn_app (goodIn_of _ (by decide +kernel)) ggX2_placeAnswer_X2_hooksOver
theorem dX2_placeAnswer_0 : decode cX2_placeAnswer 0 = .ok (.iload_n 2, 1) := by decide +kernel
theorem dX2_placeAnswer_1 : decode cX2_placeAnswer 1 = .ok (.tableswitch 48 0 2 #[27, 33, 42], 27) := by decide +kernel
theorem dX2_placeAnswer_28 : decode cX2_placeAnswer 28 = .ok (.aload_n 0, 1) := by decide +kernel
theorem dX2_placeAnswer_29 : decode cX2_placeAnswer 29 = .ok (.iload_n 1, 1) := by decide +kernel
theorem dX2_placeAnswer_30 : decode cX2_placeAnswer 30 = .ok (.invokevirtual 36, 3) := by decide +kernel
theorem dX2_placeAnswer_33 : decode cX2_placeAnswer 33 = .ok (.ireturn, 1) := by decide +kernel
theorem dX2_placeAnswer_34 : decode cX2_placeAnswer 34 = .ok (.aload_n 0, 1) := by decide +kernel
theorem dX2_placeAnswer_35 : decode cX2_placeAnswer 35 = .ok (.iload_n 1, 1) := by decide +kernel
theorem dX2_placeAnswer_36 : decode cX2_placeAnswer 36 = .ok (.invokevirtual 149, 3) := by decide +kernel
theorem dX2_placeAnswer_39 : decode cX2_placeAnswer 39 = .ok (.invokestatic 248, 3) := by decide +kernel
theorem dX2_placeAnswer_42 : decode cX2_placeAnswer 42 = .ok (.ireturn, 1) := by decide +kernel
theorem dX2_placeAnswer_43 : decode cX2_placeAnswer 43 = .ok (.aload_n 0, 1) := by decide +kernel
theorem dX2_placeAnswer_44 : decode cX2_placeAnswer 44 = .ok (.iload_n 1, 1) := by decide +kernel
theorem dX2_placeAnswer_45 : decode cX2_placeAnswer 45 = .ok (.invokevirtual 252, 3) := by decide +kernel
theorem dX2_placeAnswer_48 : decode cX2_placeAnswer 48 = .ok (.ireturn, 1) := by decide +kernel
theorem dX2_placeAnswer_49 : decode cX2_placeAnswer 49 = .ok (.aload_n 0, 1) := by decide +kernel
theorem dX2_placeAnswer_50 : decode cX2_placeAnswer 50 = .ok (.iload_n 1, 1) := by decide +kernel
theorem dX2_placeAnswer_51 : decode cX2_placeAnswer 51 = .ok (.invokevirtual 255, 3) := by decide +kernel
theorem dX2_placeAnswer_54 : decode cX2_placeAnswer 54 = .ok (.ireturn, 1) := by decide +kernel
set_option maxRecDepth 20000 in
theorem ggX2_barrelAnswer_X2_heightOf : GoodIn wsX2_barrelAnswer wsX2_heightOf := goodIn_r _ [10, 3, 11, 12, 13, 9, 14, 15, 16, 17, 18, 19, 20, 21, 22, 23, 24, 25, 26, 27, 28, 29, 30, 31, 32] (by decide +kernel) (by decide +kernel)
set_option maxRecDepth 20000 in
theorem gX2_barrelAnswer_X2_heightOf : GoodIn wsX2_barrelAnswer (wsV RX2 36 RX2 yX2_heightOf wsX2_heightOf) := goodIn_app (goodIn_of _ (by decide +kernel)) ggX2_barrelAnswer_X2_heightOf
theorem dX2_barrelAnswer_0 : decode cX2_barrelAnswer 0 = .ok (.iload_n 2, 1) := by decide +kernel
theorem dX2_barrelAnswer_1 : decode cX2_barrelAnswer 1 = .ok (.tableswitch 74 0 3 #[31, 36, 41, 69], 31) := by decide +kernel
theorem dX2_barrelAnswer_32 : decode cX2_barrelAnswer 32 = .ok (.aload_n 1, 1) := by decide +kernel
theorem dX2_barrelAnswer_33 : decode cX2_barrelAnswer 33 = .ok (.getfield 134, 3) := by decide +kernel
theorem dX2_barrelAnswer_36 : decode cX2_barrelAnswer 36 = .ok (.ireturn, 1) := by decide +kernel
theorem dX2_barrelAnswer_37 : decode cX2_barrelAnswer 37 = .ok (.aload_n 1, 1) := by decide +kernel
theorem dX2_barrelAnswer_38 : decode cX2_barrelAnswer 38 = .ok (.getfield 193, 3) := by decide +kernel
theorem dX2_barrelAnswer_41 : decode cX2_barrelAnswer 41 = .ok (.ireturn, 1) := by decide +kernel
theorem dX2_barrelAnswer_42 : decode cX2_barrelAnswer 42 = .ok (.aload_n 1, 1) := by decide +kernel
theorem dX2_barrelAnswer_43 : decode cX2_barrelAnswer 43 = .ok (.getfield 193, 3) := by decide +kernel
theorem dX2_barrelAnswer_46 : decode cX2_barrelAnswer 46 = .ok (.iconst (-1), 1) := by decide +kernel
theorem dX2_barrelAnswer_47 : decode cX2_barrelAnswer 47 = .ok (.if_icmp .ne 7, 3) := by decide +kernel
theorem dX2_barrelAnswer_50 : decode cX2_barrelAnswer 50 = .ok (.iconst 0, 1) := by decide +kernel
theorem dX2_barrelAnswer_51 : decode cX2_barrelAnswer 51 = .ok (.goto 18, 3) := by decide +kernel
theorem dX2_barrelAnswer_54 : decode cX2_barrelAnswer 54 = .ok (.aload_n 0, 1) := by decide +kernel
theorem dX2_barrelAnswer_55 : decode cX2_barrelAnswer 55 = .ok (.aload_n 1, 1) := by decide +kernel
theorem dX2_barrelAnswer_56 : decode cX2_barrelAnswer 56 = .ok (.getfield 193, 3) := by decide +kernel
theorem dX2_barrelAnswer_59 : decode cX2_barrelAnswer 59 = .ok (.invokevirtual 36, 3) := by decide +kernel
theorem dX2_barrelAnswer_62 : decode cX2_barrelAnswer 62 = .ok (.aload_n 1, 1) := by decide +kernel
theorem dX2_barrelAnswer_63 : decode cX2_barrelAnswer 63 = .ok (.getfield 222, 3) := by decide +kernel
theorem dX2_barrelAnswer_66 : decode cX2_barrelAnswer 66 = .ok (.isub, 1) := by decide +kernel
theorem dX2_barrelAnswer_67 : decode cX2_barrelAnswer 67 = .ok (.iconst 1, 1) := by decide +kernel
theorem dX2_barrelAnswer_68 : decode cX2_barrelAnswer 68 = .ok (.isub, 1) := by decide +kernel
theorem dX2_barrelAnswer_69 : decode cX2_barrelAnswer 69 = .ok (.ireturn, 1) := by decide +kernel
theorem dX2_barrelAnswer_70 : decode cX2_barrelAnswer 70 = .ok (.aload_n 1, 1) := by decide +kernel
theorem dX2_barrelAnswer_71 : decode cX2_barrelAnswer 71 = .ok (.getfield 158, 3) := by decide +kernel
theorem dX2_barrelAnswer_74 : decode cX2_barrelAnswer 74 = .ok (.ireturn, 1) := by decide +kernel
theorem dX2_barrelAnswer_75 : decode cX2_barrelAnswer 75 = .ok (.aload_n 1, 1) := by decide +kernel
theorem dX2_barrelAnswer_76 : decode cX2_barrelAnswer 76 = .ok (.getfield 196, 3) := by decide +kernel
theorem dX2_barrelAnswer_79 : decode cX2_barrelAnswer 79 = .ok (.ifCond .eq 7, 3) := by decide +kernel
theorem dX2_barrelAnswer_82 : decode cX2_barrelAnswer 82 = .ok (.iconst 1, 1) := by decide +kernel
theorem dX2_barrelAnswer_83 : decode cX2_barrelAnswer 83 = .ok (.goto 4, 3) := by decide +kernel
theorem dX2_barrelAnswer_86 : decode cX2_barrelAnswer 86 = .ok (.iconst 0, 1) := by decide +kernel
theorem dX2_barrelAnswer_87 : decode cX2_barrelAnswer 87 = .ok (.ireturn, 1) := by decide +kernel
set_option maxRecDepth 20000 in
theorem ggX2_craneAnswer_X2_numberOf : GoodIn wsX2_craneAnswer wsX2_numberOf := goodIn_r _ [12, 13, 29, 30, 31, 32, 33, 34, 35] (by decide +kernel) (by decide +kernel)
set_option maxRecDepth 20000 in
theorem gX2_craneAnswer_X2_numberOf : GoodIn wsX2_craneAnswer (va_wsS RX2 248 yX2_numberOf wsX2_numberOf) := goodIn_app (goodIn_of _ (by decide +kernel)) ggX2_craneAnswer_X2_numberOf
set_option maxRecDepth 20000 in
theorem ggX2_craneAnswer_X1_strength : GoodIn wsX2_craneAnswer wsX1_strength := goodIn_r _ [18, 19, 20, 21, 22, 23, 24, 25, 26, 27, 28] (by decide +kernel) (by decide +kernel)
set_option maxRecDepth 20000 in
theorem gX2_craneAnswer_X1_strength : GoodIn wsX2_craneAnswer (wsV RX2 265 RX1 yX1_strength wsX1_strength) := goodIn_app (goodIn_of _ (by decide +kernel)) ggX2_craneAnswer_X1_strength
theorem dX2_craneAnswer_0 : decode cX2_craneAnswer 0 = .ok (.iload_n 1, 1) := by decide +kernel
theorem dX2_craneAnswer_1 : decode cX2_craneAnswer 1 = .ok (.tableswitch 90 0 7 #[47, 52, 57, 62, 67, 72, 77, 82], 47) := by decide +kernel
theorem dX2_craneAnswer_48 : decode cX2_craneAnswer 48 = .ok (.aload_n 0, 1) := by decide +kernel
theorem dX2_craneAnswer_49 : decode cX2_craneAnswer 49 = .ok (.getfield 258, 3) := by decide +kernel
theorem dX2_craneAnswer_52 : decode cX2_craneAnswer 52 = .ok (.ireturn, 1) := by decide +kernel
theorem dX2_craneAnswer_53 : decode cX2_craneAnswer 53 = .ok (.aload_n 0, 1) := by decide +kernel
theorem dX2_craneAnswer_54 : decode cX2_craneAnswer 54 = .ok (.getfield 259, 3) := by decide +kernel
theorem dX2_craneAnswer_57 : decode cX2_craneAnswer 57 = .ok (.ireturn, 1) := by decide +kernel
theorem dX2_craneAnswer_58 : decode cX2_craneAnswer 58 = .ok (.aload_n 0, 1) := by decide +kernel
theorem dX2_craneAnswer_59 : decode cX2_craneAnswer 59 = .ok (.getfield 262, 3) := by decide +kernel
theorem dX2_craneAnswer_62 : decode cX2_craneAnswer 62 = .ok (.ireturn, 1) := by decide +kernel
theorem dX2_craneAnswer_63 : decode cX2_craneAnswer 63 = .ok (.aload_n 0, 1) := by decide +kernel
theorem dX2_craneAnswer_64 : decode cX2_craneAnswer 64 = .ok (.getfield 93, 3) := by decide +kernel
theorem dX2_craneAnswer_67 : decode cX2_craneAnswer 67 = .ok (.ireturn, 1) := by decide +kernel
theorem dX2_craneAnswer_68 : decode cX2_craneAnswer 68 = .ok (.aload_n 0, 1) := by decide +kernel
theorem dX2_craneAnswer_69 : decode cX2_craneAnswer 69 = .ok (.getfield 96, 3) := by decide +kernel
theorem dX2_craneAnswer_72 : decode cX2_craneAnswer 72 = .ok (.ireturn, 1) := by decide +kernel
theorem dX2_craneAnswer_73 : decode cX2_craneAnswer 73 = .ok (.aload_n 0, 1) := by decide +kernel
theorem dX2_craneAnswer_74 : decode cX2_craneAnswer 74 = .ok (.getfield 108, 3) := by decide +kernel
theorem dX2_craneAnswer_77 : decode cX2_craneAnswer 77 = .ok (.ireturn, 1) := by decide +kernel
theorem dX2_craneAnswer_78 : decode cX2_craneAnswer 78 = .ok (.aload_n 0, 1) := by decide +kernel
theorem dX2_craneAnswer_79 : decode cX2_craneAnswer 79 = .ok (.getfield 105, 3) := by decide +kernel
theorem dX2_craneAnswer_82 : decode cX2_craneAnswer 82 = .ok (.ireturn, 1) := by decide +kernel
theorem dX2_craneAnswer_83 : decode cX2_craneAnswer 83 = .ok (.aload_n 0, 1) := by decide +kernel
theorem dX2_craneAnswer_84 : decode cX2_craneAnswer 84 = .ok (.getfield 130, 3) := by decide +kernel
theorem dX2_craneAnswer_87 : decode cX2_craneAnswer 87 = .ok (.invokestatic 248, 3) := by decide +kernel
theorem dX2_craneAnswer_90 : decode cX2_craneAnswer 90 = .ok (.ireturn, 1) := by decide +kernel
theorem dX2_craneAnswer_91 : decode cX2_craneAnswer 91 = .ok (.aload_n 0, 1) := by decide +kernel
theorem dX2_craneAnswer_92 : decode cX2_craneAnswer 92 = .ok (.invokevirtual 265, 3) := by decide +kernel
theorem dX2_craneAnswer_95 : decode cX2_craneAnswer 95 = .ok (.ireturn, 1) := by decide +kernel
set_option maxRecDepth 20000 in
theorem ggX2_countAnswer_Jx4a65c_size_8abf5 : GoodIn wsX2_countAnswer wsJx4a65c_size_8abf5 := goodIn_r _ [8, 9, 69, 70, 71] (by decide +kernel) (by decide +kernel)
set_option maxRecDepth 20000 in
theorem gX2_countAnswer_Jx4a65c_size_8abf5 : GoodIn wsX2_countAnswer (wsV RX2 32 RJx4a65c yJx4a65c_size_8abf5 wsJx4a65c_size_8abf5) := goodIn_app (goodIn_of _ (by decide +kernel)) ggX2_countAnswer_Jx4a65c_size_8abf5
set_option maxRecDepth 20000 in
theorem ggX2_countAnswer_X2_standing : GoodIn wsX2_countAnswer wsX2_standing := goodIn_r _ [14, 15, 16, 17, 13, 18, 19, 20, 21, 22, 23, 24, 25, 26, 27, 28, 29, 30, 72, 73, 74, 75, 76, 77, 78, 65, 66, 67, 68] (by decide +kernel) (by decide +kernel)
set_option maxRecDepth 20000 in
theorem gX2_countAnswer_X2_standing : GoodIn wsX2_countAnswer (wsV RX2 268 RX2 yX2_standing wsX2_standing) := goodIn_app (goodIn_of _ (by decide +kernel)) ggX2_countAnswer_X2_standing
set_option maxRecDepth 20000 in
theorem ggX2_countAnswer_X2_hanging : GoodIn wsX2_countAnswer wsX2_hanging := goodIn_r _ [34, 3, 35, 36, 4, 5, 6, 7, 8, 9, 37, 38, 39, 40, 41, 42, 43, 44, 45, 46, 47, 48, 49, 50, 51, 52, 53, 65, 66, 67, 68, 79, 80, 81, 82, 83, 84, 85, 86, 69, 70, 71] (by decide +kernel) (by decide +kernel)
set_option maxRecDepth 20000 in
theorem gX2_countAnswer_X2_hanging : GoodIn wsX2_countAnswer (wsV RX2 271 RX2 yX2_hanging wsX2_hanging) := goodIn_app (goodIn_of _ (by decide +kernel)) ggX2_countAnswer_X2_hanging
set_option maxRecDepth 20000 in
theorem ggX2_countAnswer_X2_highestBetween : GoodIn wsX2_countAnswer wsX2_highestBetween := goodIn_r _ [57, 58, 59, 60, 61, 62, 63, 64, 28, 29, 13, 30, 15, 16, 17, 18, 19, 20, 21, 22, 23, 24, 25, 26, 27, 72, 73, 74, 75, 76, 77, 78, 65, 66, 67, 68] (by decide +kernel) (by decide +kernel)
set_option maxRecDepth 20000 in
theorem gX2_countAnswer_X2_highestBetween : GoodIn wsX2_countAnswer (wsV RX2 111 RX2 yX2_highestBetween wsX2_highestBetween) := goodIn_app (goodIn_of _ (by decide +kernel)) ggX2_countAnswer_X2_highestBetween
theorem dX2_countAnswer_0 : decode cX2_countAnswer 0 = .ok (.iload_n 1, 1) := by decide +kernel
theorem dX2_countAnswer_1 : decode cX2_countAnswer 1 = .ok (.tableswitch 88 0 5 #[39, 44, 52, 57, 62, 80], 39) := by decide +kernel
theorem dX2_countAnswer_40 : decode cX2_countAnswer 40 = .ok (.aload_n 0, 1) := by decide +kernel
theorem dX2_countAnswer_41 : decode cX2_countAnswer 41 = .ok (.getfield 123, 3) := by decide +kernel
theorem dX2_countAnswer_44 : decode cX2_countAnswer 44 = .ok (.ireturn, 1) := by decide +kernel
theorem dX2_countAnswer_45 : decode cX2_countAnswer 45 = .ok (.aload_n 0, 1) := by decide +kernel
theorem dX2_countAnswer_46 : decode cX2_countAnswer 46 = .ok (.getfield 18, 3) := by decide +kernel
theorem dX2_countAnswer_49 : decode cX2_countAnswer 49 = .ok (.invokevirtual 32, 3) := by decide +kernel
theorem dX2_countAnswer_52 : decode cX2_countAnswer 52 = .ok (.ireturn, 1) := by decide +kernel
theorem dX2_countAnswer_53 : decode cX2_countAnswer 53 = .ok (.aload_n 0, 1) := by decide +kernel
theorem dX2_countAnswer_54 : decode cX2_countAnswer 54 = .ok (.invokevirtual 268, 3) := by decide +kernel
theorem dX2_countAnswer_57 : decode cX2_countAnswer 57 = .ok (.ireturn, 1) := by decide +kernel
theorem dX2_countAnswer_58 : decode cX2_countAnswer 58 = .ok (.aload_n 0, 1) := by decide +kernel
theorem dX2_countAnswer_59 : decode cX2_countAnswer 59 = .ok (.invokevirtual 271, 3) := by decide +kernel
theorem dX2_countAnswer_62 : decode cX2_countAnswer 62 = .ok (.ireturn, 1) := by decide +kernel
theorem dX2_countAnswer_63 : decode cX2_countAnswer 63 = .ok (.aload_n 0, 1) := by decide +kernel
theorem dX2_countAnswer_64 : decode cX2_countAnswer 64 = .ok (.getfield 18, 3) := by decide +kernel
theorem dX2_countAnswer_67 : decode cX2_countAnswer 67 = .ok (.invokevirtual 32, 3) := by decide +kernel
theorem dX2_countAnswer_70 : decode cX2_countAnswer 70 = .ok (.aload_n 0, 1) := by decide +kernel
theorem dX2_countAnswer_71 : decode cX2_countAnswer 71 = .ok (.invokevirtual 268, 3) := by decide +kernel
theorem dX2_countAnswer_74 : decode cX2_countAnswer 74 = .ok (.isub, 1) := by decide +kernel
theorem dX2_countAnswer_75 : decode cX2_countAnswer 75 = .ok (.aload_n 0, 1) := by decide +kernel
theorem dX2_countAnswer_76 : decode cX2_countAnswer 76 = .ok (.invokevirtual 271, 3) := by decide +kernel
theorem dX2_countAnswer_79 : decode cX2_countAnswer 79 = .ok (.isub, 1) := by decide +kernel
theorem dX2_countAnswer_80 : decode cX2_countAnswer 80 = .ok (.ireturn, 1) := by decide +kernel
theorem dX2_countAnswer_81 : decode cX2_countAnswer 81 = .ok (.aload_n 0, 1) := by decide +kernel
theorem dX2_countAnswer_82 : decode cX2_countAnswer 82 = .ok (.getfield 22, 3) := by decide +kernel
theorem dX2_countAnswer_85 : decode cX2_countAnswer 85 = .ok (.invokevirtual 32, 3) := by decide +kernel
theorem dX2_countAnswer_88 : decode cX2_countAnswer 88 = .ok (.ireturn, 1) := by decide +kernel
theorem dX2_countAnswer_89 : decode cX2_countAnswer 89 = .ok (.aload_n 0, 1) := by decide +kernel
theorem dX2_countAnswer_90 : decode cX2_countAnswer 90 = .ok (.iconst 0, 1) := by decide +kernel
theorem dX2_countAnswer_91 : decode cX2_countAnswer 91 = .ok (.bipush 15, 2) := by decide +kernel
theorem dX2_countAnswer_93 : decode cX2_countAnswer 93 = .ok (.invokevirtual 111, 3) := by decide +kernel
theorem dX2_countAnswer_96 : decode cX2_countAnswer 96 = .ok (.ireturn, 1) := by decide +kernel
theorem dX2_numberOf_0 : decode cX2_numberOf 0 = .ok (.aload_n 0, 1) := by decide +kernel
theorem dX2_numberOf_1 : decode cX2_numberOf 1 = .ok (.ifnonnull 7, 3) := by decide +kernel
theorem dX2_numberOf_4 : decode cX2_numberOf 4 = .ok (.iconst (-1), 1) := by decide +kernel
theorem dX2_numberOf_5 : decode cX2_numberOf 5 = .ok (.goto 7, 3) := by decide +kernel
theorem dX2_numberOf_8 : decode cX2_numberOf 8 = .ok (.aload_n 0, 1) := by decide +kernel
theorem dX2_numberOf_9 : decode cX2_numberOf 9 = .ok (.getfield 64, 3) := by decide +kernel
theorem dX2_numberOf_12 : decode cX2_numberOf 12 = .ok (.ireturn, 1) := by decide +kernel
set_option maxRecDepth 20000 in
theorem ggX2_weightsAt_X2_uppermostAt : GoodIn wsX2_weightsAt wsX2_uppermostAt := goodIn_r _ [7, 8, 9, 10, 6, 11, 12, 13, 14, 22, 23, 24, 25] (by decide +kernel) (by decide +kernel)
set_option maxRecDepth 20000 in
theorem gX2_weightsAt_X2_uppermostAt : GoodIn wsX2_weightsAt (wsV RX2 149 RX2 yX2_uppermostAt wsX2_uppermostAt) := goodIn_app (goodIn_of _ (by decide +kernel)) ggX2_weightsAt_X2_uppermostAt
theorem dX2_weightsAt_0 : decode cX2_weightsAt 0 = .ok (.iconst 0, 1) := by decide +kernel
theorem dX2_weightsAt_1 : decode cX2_weightsAt 1 = .ok (.istore_n 2, 1) := by decide +kernel
theorem dX2_weightsAt_2 : decode cX2_weightsAt 2 = .ok (.aload_n 0, 1) := by decide +kernel
theorem dX2_weightsAt_3 : decode cX2_weightsAt 3 = .ok (.iload_n 1, 1) := by decide +kernel
theorem dX2_weightsAt_4 : decode cX2_weightsAt 4 = .ok (.invokevirtual 149, 3) := by decide +kernel
theorem dX2_weightsAt_7 : decode cX2_weightsAt 7 = .ok (.astore_n 3, 1) := by decide +kernel
theorem dX2_weightsAt_8 : decode cX2_weightsAt 8 = .ok (.aload_n 3, 1) := by decide +kernel
theorem dX2_weightsAt_9 : decode cX2_weightsAt 9 = .ok (.ifnull 18, 3) := by decide +kernel
theorem dX2_weightsAt_12 : decode cX2_weightsAt 12 = .ok (.iload_n 2, 1) := by decide +kernel
theorem dX2_weightsAt_13 : decode cX2_weightsAt 13 = .ok (.aload_n 3, 1) := by decide +kernel
theorem dX2_weightsAt_14 : decode cX2_weightsAt 14 = .ok (.getfield 134, 3) := by decide +kernel
theorem dX2_weightsAt_17 : decode cX2_weightsAt 17 = .ok (.iadd, 1) := by decide +kernel
theorem dX2_weightsAt_18 : decode cX2_weightsAt 18 = .ok (.istore_n 2, 1) := by decide +kernel
theorem dX2_weightsAt_19 : decode cX2_weightsAt 19 = .ok (.aload_n 3, 1) := by decide +kernel
theorem dX2_weightsAt_20 : decode cX2_weightsAt 20 = .ok (.getfield 231, 3) := by decide +kernel
theorem dX2_weightsAt_23 : decode cX2_weightsAt 23 = .ok (.astore_n 3, 1) := by decide +kernel
theorem dX2_weightsAt_24 : decode cX2_weightsAt 24 = .ok (.goto (-16), 3) := by decide +kernel
theorem dX2_weightsAt_27 : decode cX2_weightsAt 27 = .ok (.iload_n 2, 1) := by decide +kernel
theorem dX2_weightsAt_28 : decode cX2_weightsAt 28 = .ok (.ireturn, 1) := by decide +kernel
set_option maxRecDepth 20000 in
theorem ggX2_hooksOver_Jx4a65c_size_8abf5 : GoodIn wsX2_hooksOver wsJx4a65c_size_8abf5 := goodIn_r _ [8, 9, 39, 40, 41] (by decide +kernel) (by decide +kernel)
set_option maxRecDepth 20000 in
theorem gX2_hooksOver_Jx4a65c_size_8abf5 : GoodIn wsX2_hooksOver (wsV RX2 32 RJx4a65c yJx4a65c_size_8abf5 wsJx4a65c_size_8abf5) := goodIn_app (goodIn_of _ (by decide +kernel)) ggX2_hooksOver_Jx4a65c_size_8abf5
set_option maxRecDepth 20000 in
theorem ggX2_hooksOver_Jx4a65c_get_915e3 : GoodIn wsX2_hooksOver wsJx4a65c_get_915e3 := goodIn_r _ [13, 9, 14, 15, 16, 17, 18, 19, 20, 21, 22, 23, 24, 7, 25, 26, 39, 40, 41] (by decide +kernel) (by decide +kernel)
set_option maxRecDepth 20000 in
theorem gX2_hooksOver_Jx4a65c_get_915e3 : GoodIn wsX2_hooksOver (wsV RX2 89 RJx4a65c yJx4a65c_get_915e3 wsJx4a65c_get_915e3) := goodIn_app (goodIn_of _ (by decide +kernel)) ggX2_hooksOver_Jx4a65c_get_915e3
theorem dX2_hooksOver_0 : decode cX2_hooksOver 0 = .ok (.iconst 0, 1) := by decide +kernel
theorem dX2_hooksOver_1 : decode cX2_hooksOver 1 = .ok (.istore_n 2, 1) := by decide +kernel
theorem dX2_hooksOver_2 : decode cX2_hooksOver 2 = .ok (.iconst 0, 1) := by decide +kernel
theorem dX2_hooksOver_3 : decode cX2_hooksOver 3 = .ok (.istore_n 3, 1) := by decide +kernel
theorem dX2_hooksOver_4 : decode cX2_hooksOver 4 = .ok (.iload_n 3, 1) := by decide +kernel
theorem dX2_hooksOver_5 : decode cX2_hooksOver 5 = .ok (.aload_n 0, 1) := by decide +kernel
theorem dX2_hooksOver_6 : decode cX2_hooksOver 6 = .ok (.getfield 22, 3) := by decide +kernel
theorem dX2_hooksOver_9 : decode cX2_hooksOver 9 = .ok (.invokevirtual 32, 3) := by decide +kernel
theorem dX2_hooksOver_12 : decode cX2_hooksOver 12 = .ok (.if_icmp .ge 30, 3) := by decide +kernel
theorem dX2_hooksOver_15 : decode cX2_hooksOver 15 = .ok (.aload_n 0, 1) := by decide +kernel
theorem dX2_hooksOver_16 : decode cX2_hooksOver 16 = .ok (.getfield 22, 3) := by decide +kernel
theorem dX2_hooksOver_19 : decode cX2_hooksOver 19 = .ok (.iload_n 3, 1) := by decide +kernel
theorem dX2_hooksOver_20 : decode cX2_hooksOver 20 = .ok (.invokevirtual 89, 3) := by decide +kernel
theorem dX2_hooksOver_23 : decode cX2_hooksOver 23 = .ok (.checkcast 81, 3) := by decide +kernel
theorem dX2_hooksOver_26 : decode cX2_hooksOver 26 = .ok (.getfield 108, 3) := by decide +kernel
theorem dX2_hooksOver_29 : decode cX2_hooksOver 29 = .ok (.iload_n 1, 1) := by decide +kernel
theorem dX2_hooksOver_30 : decode cX2_hooksOver 30 = .ok (.if_icmp .ne 6, 3) := by decide +kernel
theorem dX2_hooksOver_33 : decode cX2_hooksOver 33 = .ok (.iinc 2 1, 3) := by decide +kernel
theorem dX2_hooksOver_36 : decode cX2_hooksOver 36 = .ok (.iinc 3 1, 3) := by decide +kernel
theorem dX2_hooksOver_39 : decode cX2_hooksOver 39 = .ok (.goto (-35), 3) := by decide +kernel
theorem dX2_hooksOver_42 : decode cX2_hooksOver 42 = .ok (.iload_n 2, 1) := by decide +kernel
theorem dX2_hooksOver_43 : decode cX2_hooksOver 43 = .ok (.ireturn, 1) := by decide +kernel
set_option maxRecDepth 20000 in
theorem ggX2_standing_X2_heightOf : GoodIn wsX2_standing wsX2_heightOf := goodIn_r _ [5, 6, 7, 8, 9, 4, 10, 11, 12, 13, 14, 15, 16, 17, 18, 19, 20, 21, 22, 23, 24, 25, 26, 27, 28] (by decide +kernel) (by decide +kernel)
set_option maxRecDepth 20000 in
theorem gX2_standing_X2_heightOf : GoodIn wsX2_standing (wsV RX2 36 RX2 yX2_heightOf wsX2_heightOf) := goodIn_app (goodIn_of _ (by decide +kernel)) ggX2_standing_X2_heightOf
theorem dX2_standing_0 : decode cX2_standing 0 = .ok (.iconst 0, 1) := by decide +kernel
theorem dX2_standing_1 : decode cX2_standing 1 = .ok (.istore_n 1, 1) := by decide +kernel
theorem dX2_standing_2 : decode cX2_standing 2 = .ok (.iconst 0, 1) := by decide +kernel
theorem dX2_standing_3 : decode cX2_standing 3 = .ok (.istore_n 2, 1) := by decide +kernel
theorem dX2_standing_4 : decode cX2_standing 4 = .ok (.iload_n 2, 1) := by decide +kernel
theorem dX2_standing_5 : decode cX2_standing 5 = .ok (.bipush 16, 2) := by decide +kernel
theorem dX2_standing_7 : decode cX2_standing 7 = .ok (.if_icmp .ge 17, 3) := by decide +kernel
theorem dX2_standing_10 : decode cX2_standing 10 = .ok (.iload_n 1, 1) := by decide +kernel
theorem dX2_standing_11 : decode cX2_standing 11 = .ok (.aload_n 0, 1) := by decide +kernel
theorem dX2_standing_12 : decode cX2_standing 12 = .ok (.iload_n 2, 1) := by decide +kernel
theorem dX2_standing_13 : decode cX2_standing 13 = .ok (.invokevirtual 36, 3) := by decide +kernel
theorem dX2_standing_16 : decode cX2_standing 16 = .ok (.iadd, 1) := by decide +kernel
theorem dX2_standing_17 : decode cX2_standing 17 = .ok (.istore_n 1, 1) := by decide +kernel
theorem dX2_standing_18 : decode cX2_standing 18 = .ok (.iinc 2 1, 3) := by decide +kernel
theorem dX2_standing_21 : decode cX2_standing 21 = .ok (.goto (-17), 3) := by decide +kernel
theorem dX2_standing_24 : decode cX2_standing 24 = .ok (.iload_n 1, 1) := by decide +kernel
theorem dX2_standing_25 : decode cX2_standing 25 = .ok (.ireturn, 1) := by decide +kernel
set_option maxRecDepth 20000 in
theorem ggX2_hanging_Jx4a65c_size_8abf5 : GoodIn wsX2_hanging wsJx4a65c_size_8abf5 := goodIn_r _ [8, 9, 39, 40, 41] (by decide +kernel) (by decide +kernel)
set_option maxRecDepth 20000 in
theorem gX2_hanging_Jx4a65c_size_8abf5 : GoodIn wsX2_hanging (wsV RX2 32 RJx4a65c yJx4a65c_size_8abf5 wsJx4a65c_size_8abf5) := goodIn_app (goodIn_of _ (by decide +kernel)) ggX2_hanging_Jx4a65c_size_8abf5
set_option maxRecDepth 20000 in
theorem ggX2_hanging_Jx4a65c_get_915e3 : GoodIn wsX2_hanging wsJx4a65c_get_915e3 := goodIn_r _ [13, 9, 14, 15, 16, 17, 18, 19, 20, 21, 22, 23, 24, 7, 25, 26, 39, 40, 41] (by decide +kernel) (by decide +kernel)
set_option maxRecDepth 20000 in
theorem gX2_hanging_Jx4a65c_get_915e3 : GoodIn wsX2_hanging (wsV RX2 89 RJx4a65c yJx4a65c_get_915e3 wsJx4a65c_get_915e3) := goodIn_app (goodIn_of _ (by decide +kernel)) ggX2_hanging_Jx4a65c_get_915e3
theorem dX2_hanging_0 : decode cX2_hanging 0 = .ok (.iconst 0, 1) := by decide +kernel
theorem dX2_hanging_1 : decode cX2_hanging 1 = .ok (.istore_n 1, 1) := by decide +kernel
theorem dX2_hanging_2 : decode cX2_hanging 2 = .ok (.iconst 0, 1) := by decide +kernel
theorem dX2_hanging_3 : decode cX2_hanging 3 = .ok (.istore_n 2, 1) := by decide +kernel
theorem dX2_hanging_4 : decode cX2_hanging 4 = .ok (.iload_n 2, 1) := by decide +kernel
theorem dX2_hanging_5 : decode cX2_hanging 5 = .ok (.aload_n 0, 1) := by decide +kernel
theorem dX2_hanging_6 : decode cX2_hanging 6 = .ok (.getfield 22, 3) := by decide +kernel
theorem dX2_hanging_9 : decode cX2_hanging 9 = .ok (.invokevirtual 32, 3) := by decide +kernel
theorem dX2_hanging_12 : decode cX2_hanging 12 = .ok (.if_icmp .ge 29, 3) := by decide +kernel
theorem dX2_hanging_15 : decode cX2_hanging 15 = .ok (.aload_n 0, 1) := by decide +kernel
theorem dX2_hanging_16 : decode cX2_hanging 16 = .ok (.getfield 22, 3) := by decide +kernel
theorem dX2_hanging_19 : decode cX2_hanging 19 = .ok (.iload_n 2, 1) := by decide +kernel
theorem dX2_hanging_20 : decode cX2_hanging 20 = .ok (.invokevirtual 89, 3) := by decide +kernel
theorem dX2_hanging_23 : decode cX2_hanging 23 = .ok (.checkcast 81, 3) := by decide +kernel
theorem dX2_hanging_26 : decode cX2_hanging 26 = .ok (.getfield 130, 3) := by decide +kernel
theorem dX2_hanging_29 : decode cX2_hanging 29 = .ok (.ifnull 6, 3) := by decide +kernel
theorem dX2_hanging_32 : decode cX2_hanging 32 = .ok (.iinc 1 1, 3) := by decide +kernel
theorem dX2_hanging_35 : decode cX2_hanging 35 = .ok (.iinc 2 1, 3) := by decide +kernel
theorem dX2_hanging_38 : decode cX2_hanging 38 = .ok (.goto (-34), 3) := by decide +kernel
theorem dX2_hanging_41 : decode cX2_hanging 41 = .ok (.iload_n 1, 1) := by decide +kernel
theorem dX2_hanging_42 : decode cX2_hanging 42 = .ok (.ireturn, 1) := by decide +kernel
theorem dX3_init_0 : decode cX3_init 0 = .ok (.aload_n 0, 1) := by decide +kernel
theorem dX3_init_1 : decode cX3_init 1 = .ok (.invokespecial 1, 3) := by decide +kernel
theorem dX3_init_4 : decode cX3_init 4 = .ok (.aload_n 0, 1) := by decide +kernel
theorem dX3_init_5 : decode cX3_init 5 = .ok (.bipush 16, 2) := by decide +kernel
theorem dX3_init_7 : decode cX3_init 7 = .ok (.iconst 0, 1) := by decide +kernel
theorem dX3_init_8 : decode cX3_init 8 = .ok (.multianewarray 7 2, 4) := by decide +kernel
theorem dX3_init_12 : decode cX3_init 12 = .ok (.putfield 9, 3) := by decide +kernel
theorem dX3_init_15 : decode cX3_init 15 = .ok (.aload_n 0, 1) := by decide +kernel
theorem dX3_init_16 : decode cX3_init 16 = .ok (.iconst 0, 1) := by decide +kernel
theorem dX3_init_17 : decode cX3_init 17 = .ok (.newarray .int, 2) := by decide +kernel
theorem dX3_init_19 : decode cX3_init 19 = .ok (.putfield 14, 3) := by decide +kernel
theorem dX3_init_22 : decode cX3_init 22 = .ok (.aload_n 0, 1) := by decide +kernel
theorem dX3_init_23 : decode cX3_init 23 = .ok (.iconst 0, 1) := by decide +kernel
theorem dX3_init_24 : decode cX3_init 24 = .ok (.anewarray 18, 3) := by decide +kernel
theorem dX3_init_27 : decode cX3_init 27 = .ok (.putfield 19, 3) := by decide +kernel
theorem dX3_init_30 : decode cX3_init 30 = .ok (.aload_n 0, 1) := by decide +kernel
theorem dX3_init_31 : decode cX3_init 31 = .ok (.bipush 40, 2) := by decide +kernel
theorem dX3_init_33 : decode cX3_init 33 = .ok (.newarray .boolean, 2) := by decide +kernel
theorem dX3_init_35 : decode cX3_init 35 = .ok (.putfield 22, 3) := by decide +kernel
theorem dX3_init_38 : decode cX3_init 38 = .ok (.return_, 1) := by decide +kernel
set_option maxRecDepth 20000 in
theorem ggX3_with_J7_copyOf_59c91 : GoodIn wsX3_with wsJ7_copyOf_59c91 := goodIn_r _ [4, 5, 6, 7, 8, 9, 10, 11, 12, 13, 14, 15, 16, 17, 18, 19] (by decide +kernel) (by decide +kernel)
set_option maxRecDepth 20000 in
theorem gX3_with_J7_copyOf_59c91 : GoodIn wsX3_with (va_wsS RX3 26 yJ7_copyOf_59c91 wsJ7_copyOf_59c91) := goodIn_app (goodIn_of _ (by decide +kernel)) ggX3_with_J7_copyOf_59c91
theorem dX3_with_0 : decode cX3_with 0 = .ok (.aload_n 0, 1) := by decide +kernel
theorem dX3_with_1 : decode cX3_with 1 = .ok (.aload_n 0, 1) := by decide +kernel
theorem dX3_with_2 : decode cX3_with 2 = .ok (.arraylength, 1) := by decide +kernel
theorem dX3_with_3 : decode cX3_with 3 = .ok (.iconst 1, 1) := by decide +kernel
theorem dX3_with_4 : decode cX3_with 4 = .ok (.iadd, 1) := by decide +kernel
theorem dX3_with_5 : decode cX3_with 5 = .ok (.invokestatic 26, 3) := by decide +kernel
theorem dX3_with_8 : decode cX3_with 8 = .ok (.astore_n 2, 1) := by decide +kernel
theorem dX3_with_9 : decode cX3_with 9 = .ok (.aload_n 2, 1) := by decide +kernel
theorem dX3_with_10 : decode cX3_with 10 = .ok (.aload_n 0, 1) := by decide +kernel
theorem dX3_with_11 : decode cX3_with 11 = .ok (.arraylength, 1) := by decide +kernel
theorem dX3_with_12 : decode cX3_with 12 = .ok (.iload_n 1, 1) := by decide +kernel
theorem dX3_with_13 : decode cX3_with 13 = .ok (.iastore, 1) := by decide +kernel
theorem dX3_with_14 : decode cX3_with 14 = .ok (.aload_n 2, 1) := by decide +kernel
theorem dX3_with_15 : decode cX3_with 15 = .ok (.areturn, 1) := by decide +kernel
set_option maxRecDepth 20000 in
theorem ggX3_without_J7_copyOf_59c91 : GoodIn wsX3_without wsJ7_copyOf_59c91 := goodIn_r _ [4, 5, 6, 7, 8, 9, 10, 11, 12, 13, 14, 15, 16, 17, 18, 19] (by decide +kernel) (by decide +kernel)
set_option maxRecDepth 20000 in
theorem gX3_without_J7_copyOf_59c91 : GoodIn wsX3_without (va_wsS RX3 26 yJ7_copyOf_59c91 wsJ7_copyOf_59c91) := goodIn_app (goodIn_of _ (by decide +kernel)) ggX3_without_J7_copyOf_59c91
theorem dX3_without_0 : decode cX3_without 0 = .ok (.aload_n 0, 1) := by decide +kernel
theorem dX3_without_1 : decode cX3_without 1 = .ok (.aload_n 0, 1) := by decide +kernel
theorem dX3_without_2 : decode cX3_without 2 = .ok (.arraylength, 1) := by decide +kernel
theorem dX3_without_3 : decode cX3_without 3 = .ok (.iconst 1, 1) := by decide +kernel
theorem dX3_without_4 : decode cX3_without 4 = .ok (.isub, 1) := by decide +kernel
theorem dX3_without_5 : decode cX3_without 5 = .ok (.invokestatic 26, 3) := by decide +kernel
theorem dX3_without_8 : decode cX3_without 8 = .ok (.areturn, 1) := by decide +kernel
theorem dX3_strong_0 : decode cX3_strong 0 = .ok (.bipush 12, 2) := by decide +kernel
theorem dX3_strong_2 : decode cX3_strong 2 = .ok (.aload_n 1, 1) := by decide +kernel
theorem dX3_strong_3 : decode cX3_strong 3 = .ok (.iconst 3, 1) := by decide +kernel
theorem dX3_strong_4 : decode cX3_strong 4 = .ok (.iaload, 1) := by decide +kernel
theorem dX3_strong_5 : decode cX3_strong 5 = .ok (.imul, 1) := by decide +kernel
theorem dX3_strong_6 : decode cX3_strong 6 = .ok (.aload_n 1, 1) := by decide +kernel
theorem dX3_strong_7 : decode cX3_strong 7 = .ok (.iconst 2, 1) := by decide +kernel
theorem dX3_strong_8 : decode cX3_strong 8 = .ok (.iaload, 1) := by decide +kernel
theorem dX3_strong_9 : decode cX3_strong 9 = .ok (.idiv, 1) := by decide +kernel
theorem dX3_strong_10 : decode cX3_strong 10 = .ok (.ireturn, 1) := by decide +kernel
theorem dX3_wound_0 : decode cX3_wound 0 = .ok (.iload_n 1, 1) := by decide +kernel
theorem dX3_wound_1 : decode cX3_wound 1 = .ok (.aload_n 0, 1) := by decide +kernel
theorem dX3_wound_2 : decode cX3_wound 2 = .ok (.iconst 2, 1) := by decide +kernel
theorem dX3_wound_3 : decode cX3_wound 3 = .ok (.iaload, 1) := by decide +kernel
theorem dX3_wound_4 : decode cX3_wound 4 = .ok (.irem, 1) := by decide +kernel
theorem dX3_wound_5 : decode cX3_wound 5 = .ok (.ifCond .ne 11, 3) := by decide +kernel
theorem dX3_wound_8 : decode cX3_wound 8 = .ok (.iload_n 1, 1) := by decide +kernel
theorem dX3_wound_9 : decode cX3_wound 9 = .ok (.aload_n 0, 1) := by decide +kernel
theorem dX3_wound_10 : decode cX3_wound 10 = .ok (.iconst 2, 1) := by decide +kernel
theorem dX3_wound_11 : decode cX3_wound 11 = .ok (.iaload, 1) := by decide +kernel
theorem dX3_wound_12 : decode cX3_wound 12 = .ok (.idiv, 1) := by decide +kernel
theorem dX3_wound_13 : decode cX3_wound 13 = .ok (.goto 10, 3) := by decide +kernel
theorem dX3_wound_16 : decode cX3_wound 16 = .ok (.iload_n 1, 1) := by decide +kernel
theorem dX3_wound_17 : decode cX3_wound 17 = .ok (.aload_n 0, 1) := by decide +kernel
theorem dX3_wound_18 : decode cX3_wound 18 = .ok (.iconst 2, 1) := by decide +kernel
theorem dX3_wound_19 : decode cX3_wound 19 = .ok (.iaload, 1) := by decide +kernel
theorem dX3_wound_20 : decode cX3_wound 20 = .ok (.idiv, 1) := by decide +kernel
theorem dX3_wound_21 : decode cX3_wound 21 = .ok (.iconst 1, 1) := by decide +kernel
theorem dX3_wound_22 : decode cX3_wound 22 = .ok (.iadd, 1) := by decide +kernel
theorem dX3_wound_23 : decode cX3_wound 23 = .ok (.ireturn, 1) := by decide +kernel
theorem dX3_isFine_0 : decode cX3_isFine 0 = .ok (.aload_n 0, 1) := by decide +kernel
theorem dX3_isFine_1 : decode cX3_isFine 1 = .ok (.bipush 7, 2) := by decide +kernel
theorem dX3_isFine_3 : decode cX3_isFine 3 = .ok (.iaload, 1) := by decide +kernel
theorem dX3_isFine_4 : decode cX3_isFine 4 = .ok (.ifCond .ge 19, 3) := by decide +kernel
theorem dX3_isFine_7 : decode cX3_isFine 7 = .ok (.aload_n 0, 1) := by decide +kernel
theorem dX3_isFine_8 : decode cX3_isFine 8 = .ok (.bipush 6, 2) := by decide +kernel
theorem dX3_isFine_10 : decode cX3_isFine 10 = .ok (.iaload, 1) := by decide +kernel
theorem dX3_isFine_11 : decode cX3_isFine 11 = .ok (.iload_n 1, 1) := by decide +kernel
theorem dX3_isFine_12 : decode cX3_isFine 12 = .ok (.if_icmp .lt 7, 3) := by decide +kernel
theorem dX3_isFine_15 : decode cX3_isFine 15 = .ok (.iconst 1, 1) := by decide +kernel
theorem dX3_isFine_16 : decode cX3_isFine 16 = .ok (.goto 20, 3) := by decide +kernel
theorem dX3_isFine_19 : decode cX3_isFine 19 = .ok (.iconst 0, 1) := by decide +kernel
theorem dX3_isFine_20 : decode cX3_isFine 20 = .ok (.goto 16, 3) := by decide +kernel
theorem dX3_isFine_23 : decode cX3_isFine 23 = .ok (.aload_n 0, 1) := by decide +kernel
theorem dX3_isFine_24 : decode cX3_isFine 24 = .ok (.bipush 6, 2) := by decide +kernel
theorem dX3_isFine_26 : decode cX3_isFine 26 = .ok (.iaload, 1) := by decide +kernel
theorem dX3_isFine_27 : decode cX3_isFine 27 = .ok (.iload_n 1, 1) := by decide +kernel
theorem dX3_isFine_28 : decode cX3_isFine 28 = .ok (.if_icmp .le 7, 3) := by decide +kernel
theorem dX3_isFine_31 : decode cX3_isFine 31 = .ok (.iconst 1, 1) := by decide +kernel
theorem dX3_isFine_32 : decode cX3_isFine 32 = .ok (.goto 4, 3) := by decide +kernel
theorem dX3_isFine_35 : decode cX3_isFine 35 = .ok (.iconst 0, 1) := by decide +kernel
theorem dX3_isFine_36 : decode cX3_isFine 36 = .ok (.ireturn, 1) := by decide +kernel
set_option maxRecDepth 20000 in
theorem ggX3_areFine_X3_isFine : GoodIn wsX3_areFine wsX3_isFine := goodIn_r _ [5] (by decide +kernel) (by decide +kernel)
set_option maxRecDepth 20000 in
theorem gX3_areFine_X3_isFine : GoodIn wsX3_areFine (va_wsS RX3 32 yX3_isFine wsX3_isFine) := goodIn_app (goodIn_of _ (by decide +kernel)) ggX3_areFine_X3_isFine
theorem dX3_areFine_0 : decode cX3_areFine 0 = .ok (.aload_n 0, 1) := by decide +kernel
theorem dX3_areFine_1 : decode cX3_areFine 1 = .ok (.getfield 19, 3) := by decide +kernel
theorem dX3_areFine_4 : decode cX3_areFine 4 = .ok (.astore 4, 2) := by decide +kernel
theorem dX3_areFine_6 : decode cX3_areFine 6 = .ok (.aload 4, 2) := by decide +kernel
theorem dX3_areFine_8 : decode cX3_areFine 8 = .ok (.arraylength, 1) := by decide +kernel
theorem dX3_areFine_9 : decode cX3_areFine 9 = .ok (.istore 5, 2) := by decide +kernel
theorem dX3_areFine_11 : decode cX3_areFine 11 = .ok (.iconst 0, 1) := by decide +kernel
theorem dX3_areFine_12 : decode cX3_areFine 12 = .ok (.istore 6, 2) := by decide +kernel
theorem dX3_areFine_14 : decode cX3_areFine 14 = .ok (.iload 6, 2) := by decide +kernel
theorem dX3_areFine_16 : decode cX3_areFine 16 = .ok (.iload 5, 2) := by decide +kernel
theorem dX3_areFine_18 : decode cX3_areFine 18 = .ok (.if_icmp .ge 41, 3) := by decide +kernel
theorem dX3_areFine_21 : decode cX3_areFine 21 = .ok (.aload 4, 2) := by decide +kernel
theorem dX3_areFine_23 : decode cX3_areFine 23 = .ok (.iload 6, 2) := by decide +kernel
theorem dX3_areFine_25 : decode cX3_areFine 25 = .ok (.aaload, 1) := by decide +kernel
theorem dX3_areFine_26 : decode cX3_areFine 26 = .ok (.astore 7, 2) := by decide +kernel
theorem dX3_areFine_28 : decode cX3_areFine 28 = .ok (.aload 7, 2) := by decide +kernel
theorem dX3_areFine_30 : decode cX3_areFine 30 = .ok (.aload_n 3, 1) := by decide +kernel
theorem dX3_areFine_31 : decode cX3_areFine 31 = .ok (.if_acmp .eq 22, 3) := by decide +kernel
theorem dX3_areFine_34 : decode cX3_areFine 34 = .ok (.aload 7, 2) := by decide +kernel
theorem dX3_areFine_36 : decode cX3_areFine 36 = .ok (.iconst 5, 1) := by decide +kernel
theorem dX3_areFine_37 : decode cX3_areFine 37 = .ok (.iaload, 1) := by decide +kernel
theorem dX3_areFine_38 : decode cX3_areFine 38 = .ok (.iload_n 1, 1) := by decide +kernel
theorem dX3_areFine_39 : decode cX3_areFine 39 = .ok (.if_icmp .ne 14, 3) := by decide +kernel
theorem dX3_areFine_42 : decode cX3_areFine 42 = .ok (.aload 7, 2) := by decide +kernel
theorem dX3_areFine_44 : decode cX3_areFine 44 = .ok (.iload_n 2, 1) := by decide +kernel
theorem dX3_areFine_45 : decode cX3_areFine 45 = .ok (.invokestatic 32, 3) := by decide +kernel
theorem dX3_areFine_48 : decode cX3_areFine 48 = .ok (.ifCond .ne 5, 3) := by decide +kernel
theorem dX3_areFine_51 : decode cX3_areFine 51 = .ok (.iconst 0, 1) := by decide +kernel
theorem dX3_areFine_52 : decode cX3_areFine 52 = .ok (.ireturn, 1) := by decide +kernel
theorem dX3_areFine_53 : decode cX3_areFine 53 = .ok (.iinc 6 1, 3) := by decide +kernel
theorem dX3_areFine_56 : decode cX3_areFine 56 = .ok (.goto (-42), 3) := by decide +kernel
theorem dX3_areFine_59 : decode cX3_areFine 59 = .ok (.iconst 1, 1) := by decide +kernel
theorem dX3_areFine_60 : decode cX3_areFine 60 = .ok (.ireturn, 1) := by decide +kernel
set_option maxRecDepth 20000 in
theorem ggX3_canTurn_X3_isFine : GoodIn wsX3_canTurn wsX3_isFine := goodIn_r _ [9] (by decide +kernel) (by decide +kernel)
set_option maxRecDepth 20000 in
theorem gX3_canTurn_X3_isFine : GoodIn wsX3_canTurn (va_wsS RX3 32 yX3_isFine wsX3_isFine) := goodIn_app (goodIn_of _ (by decide +kernel)) ggX3_canTurn_X3_isFine
theorem dX3_canTurn_0 : decode cX3_canTurn 0 = .ok (.iload_n 2, 1) := by decide +kernel
theorem dX3_canTurn_1 : decode cX3_canTurn 1 = .ok (.aload_n 1, 1) := by decide +kernel
theorem dX3_canTurn_2 : decode cX3_canTurn 2 = .ok (.iconst 0, 1) := by decide +kernel
theorem dX3_canTurn_3 : decode cX3_canTurn 3 = .ok (.iaload, 1) := by decide +kernel
theorem dX3_canTurn_4 : decode cX3_canTurn 4 = .ok (.isub, 1) := by decide +kernel
theorem dX3_canTurn_5 : decode cX3_canTurn 5 = .ok (.invokestatic 36, 3) := by decide +kernel
theorem dX3_canTurn_8 : decode cX3_canTurn 8 = .ok (.aload_n 1, 1) := by decide +kernel
theorem dX3_canTurn_9 : decode cX3_canTurn 9 = .ok (.iconst 1, 1) := by decide +kernel
theorem dX3_canTurn_10 : decode cX3_canTurn 10 = .ok (.iaload, 1) := by decide +kernel
theorem dX3_canTurn_11 : decode cX3_canTurn 11 = .ok (.if_icmp .gt 7, 3) := by decide +kernel
theorem dX3_canTurn_14 : decode cX3_canTurn 14 = .ok (.iconst 1, 1) := by decide +kernel
theorem dX3_canTurn_15 : decode cX3_canTurn 15 = .ok (.goto 4, 3) := by decide +kernel
theorem dX3_canTurn_18 : decode cX3_canTurn 18 = .ok (.iconst 0, 1) := by decide +kernel
theorem dX3_canTurn_19 : decode cX3_canTurn 19 = .ok (.istore_n 3, 1) := by decide +kernel
theorem dX3_canTurn_20 : decode cX3_canTurn 20 = .ok (.aload_n 1, 1) := by decide +kernel
theorem dX3_canTurn_21 : decode cX3_canTurn 21 = .ok (.iconst 5, 1) := by decide +kernel
theorem dX3_canTurn_22 : decode cX3_canTurn 22 = .ok (.iaload, 1) := by decide +kernel
theorem dX3_canTurn_23 : decode cX3_canTurn 23 = .ok (.istore 4, 2) := by decide +kernel
theorem dX3_canTurn_25 : decode cX3_canTurn 25 = .ok (.iload_n 3, 1) := by decide +kernel
theorem dX3_canTurn_26 : decode cX3_canTurn 26 = .ok (.aload_n 1, 1) := by decide +kernel
theorem dX3_canTurn_27 : decode cX3_canTurn 27 = .ok (.aload_n 0, 1) := by decide +kernel
theorem dX3_canTurn_28 : decode cX3_canTurn 28 = .ok (.getfield 9, 3) := by decide +kernel
theorem dX3_canTurn_31 : decode cX3_canTurn 31 = .ok (.iload 4, 2) := by decide +kernel
theorem dX3_canTurn_33 : decode cX3_canTurn 33 = .ok (.aaload, 1) := by decide +kernel
theorem dX3_canTurn_34 : decode cX3_canTurn 34 = .ok (.arraylength, 1) := by decide +kernel
theorem dX3_canTurn_35 : decode cX3_canTurn 35 = .ok (.invokestatic 32, 3) := by decide +kernel
theorem dX3_canTurn_38 : decode cX3_canTurn 38 = .ok (.iand, 1) := by decide +kernel
theorem dX3_canTurn_39 : decode cX3_canTurn 39 = .ok (.istore_n 3, 1) := by decide +kernel
theorem dX3_canTurn_40 : decode cX3_canTurn 40 = .ok (.iload 4, 2) := by decide +kernel
theorem dX3_canTurn_42 : decode cX3_canTurn 42 = .ok (.iload_n 2, 1) := by decide +kernel
theorem dX3_canTurn_43 : decode cX3_canTurn 43 = .ok (.if_icmp .ne 5, 3) := by decide +kernel
theorem dX3_canTurn_46 : decode cX3_canTurn 46 = .ok (.iload_n 3, 1) := by decide +kernel
theorem dX3_canTurn_47 : decode cX3_canTurn 47 = .ok (.ireturn, 1) := by decide +kernel
theorem dX3_canTurn_48 : decode cX3_canTurn 48 = .ok (.iload 4, 2) := by decide +kernel
theorem dX3_canTurn_50 : decode cX3_canTurn 50 = .ok (.iload_n 2, 1) := by decide +kernel
theorem dX3_canTurn_51 : decode cX3_canTurn 51 = .ok (.iload 4, 2) := by decide +kernel
theorem dX3_canTurn_53 : decode cX3_canTurn 53 = .ok (.if_icmp .le 7, 3) := by decide +kernel
theorem dX3_canTurn_56 : decode cX3_canTurn 56 = .ok (.iconst 1, 1) := by decide +kernel
theorem dX3_canTurn_57 : decode cX3_canTurn 57 = .ok (.goto 4, 3) := by decide +kernel
theorem dX3_canTurn_60 : decode cX3_canTurn 60 = .ok (.iconst (-1), 1) := by decide +kernel
theorem dX3_canTurn_61 : decode cX3_canTurn 61 = .ok (.iadd, 1) := by decide +kernel
theorem dX3_canTurn_62 : decode cX3_canTurn 62 = .ok (.istore 4, 2) := by decide +kernel
theorem dX3_canTurn_64 : decode cX3_canTurn 64 = .ok (.goto (-39), 3) := by decide +kernel
set_option maxRecDepth 20000 in
theorem ggX3_isSame_X2_barrel : GoodIn wsX3_isSame wsX2_barrel := goodIn_ca (goodIn_r _ [16, 17, 18, 19, 20, 21, 22, 23, 24, 25, 26, 27, 28, 15, 29, 30, 31, 32, 33, 34, 35, 36, 37, 38, 39, 40, 41, 42, 43, 44, 45, 46, 47, 48, 49, 50, 51, 52, 53, 54, 55, 56, 57, 58, 59, 60, 61, 62, 63, 64, 65, 66, 67, 68, 69, 70, 163, 164, 165, 166, 167, 168, 169, 170, 171, 172, 173, 174, 175, 176] (by decide +kernel) (by decide +kernel)) (goodIn_sub (fun _ h => List.mem_cons_of_mem _ (List.mem_append_right _ h)) (by decide +kernel))
set_option maxRecDepth 20000 in
theorem gX3_isSame_X2_barrel : GoodIn wsX3_isSame (wsV RX3 65 RX2 yX2_barrel wsX2_barrel) := goodIn_app (goodIn_of _ (by decide +kernel)) ggX3_isSame_X2_barrel
set_option maxRecDepth 20000 in
theorem ggX3_isSame_X2_place : GoodIn wsX3_isSame wsX2_place := goodIn_ca (goodIn_r _ [74, 75, 76, 15, 77, 17, 18, 68, 69, 70, 27, 28, 29, 30, 31, 32, 78, 79, 80, 81, 59, 60, 61, 62, 56, 63, 64, 65, 66, 67, 82, 83, 84, 85, 86, 87, 88, 89, 54, 90, 91, 92, 93, 94, 95, 96, 97, 21, 22, 23, 24, 25, 26, 33, 34, 35, 36, 37, 38, 39, 40, 41, 42, 43, 44, 45, 46, 47, 48, 49, 170, 171, 172, 173, 174, 175, 176, 163, 164, 165, 166, 177, 178, 179, 180, 181, 182, 183, 184, 167, 168, 169] (by decide +kernel) (by decide +kernel)) (goodIn_sub (fun _ h => List.mem_cons_of_mem _ (List.mem_append_right _ h)) (by decide +kernel))
set_option maxRecDepth 20000 in
theorem gX3_isSame_X2_place : GoodIn wsX3_isSame (wsV RX3 74 RX2 yX2_place wsX2_place) := goodIn_app (goodIn_of _ (by decide +kernel)) ggX3_isSame_X2_place
set_option maxRecDepth 20000 in
theorem ggX3_isSame_X2_crane : GoodIn wsX3_isSame wsX2_crane := goodIn_ca (goodIn_r _ [101, 95, 96, 102, 103, 104, 15, 105, 17, 18, 21, 22, 23, 24, 25, 26, 27, 28, 29, 30, 31, 32, 33, 34, 35, 36, 37, 38, 39, 40, 41, 42, 43, 44, 45, 46, 47, 48, 49, 106, 107, 108, 109, 110, 111, 112, 113, 97, 114, 115, 82, 83, 84, 85, 116, 117, 118, 119, 120, 121, 122, 163, 164, 165, 166, 167, 168, 169, 177, 178, 179, 180, 181, 182, 183, 184, 170, 171, 172, 173, 174, 175, 176] (by decide +kernel) (by decide +kernel)) (goodIn_sub (fun _ h => List.mem_cons_of_mem _ (List.mem_append_right _ h)) (by decide +kernel))
set_option maxRecDepth 20000 in
theorem gX3_isSame_X2_crane : GoodIn wsX3_isSame (wsV RX3 77 RX2 yX2_crane wsX2_crane) := goodIn_app (goodIn_of _ (by decide +kernel)) ggX3_isSame_X2_crane
set_option maxRecDepth 20000 in
theorem ggX3_isSame_X3_strong : GoodIn wsX3_isSame wsX3_strong := goodIn_r _ [127] (by decide +kernel) (by decide +kernel)
set_option maxRecDepth 20000 in
theorem gX3_isSame_X3_strong : GoodIn wsX3_isSame (wsV RX3 46 RX3 yX3_strong wsX3_strong) := goodIn_app (goodIn_of _ (by decide +kernel)) ggX3_isSame_X3_strong
set_option maxRecDepth 20000 in
theorem ggX3_isSame_X2_count : GoodIn wsX3_isSame wsX2_count := goodIn_ca (goodIn_r _ [131, 30, 31, 15, 32, 17, 18, 27, 28, 29, 132, 133, 134, 135, 136, 19, 95, 21, 22, 23, 24, 25, 26, 137, 138, 139, 140, 59, 60, 61, 62, 56, 63, 64, 65, 66, 67, 68, 69, 70, 141, 142, 143, 144, 96, 115, 33, 34, 35, 36, 37, 38, 39, 40, 41, 42, 43, 44, 45, 46, 47, 48, 49, 145, 146, 147, 148, 149, 150, 7, 151, 152, 6, 8, 163, 164, 165, 166, 167, 168, 169, 170, 171, 172, 173, 174, 175, 176, 177, 178, 179, 180, 181, 182, 183, 184] (by decide +kernel) (by decide +kernel)) (goodIn_sub (fun _ h => List.mem_cons_of_mem _ (List.mem_append_right _ h)) (by decide +kernel))
set_option maxRecDepth 20000 in
theorem gX3_isSame_X2_count : GoodIn wsX3_isSame (wsV RX3 87 RX2 yX2_count wsX2_count) := goodIn_app (goodIn_of _ (by decide +kernel)) ggX3_isSame_X2_count
set_option maxRecDepth 20000 in
theorem ggX3_isSame_X2_mean : GoodIn wsX3_isSame wsX2_mean := goodIn_r _ [156, 19, 20, 58, 54, 21, 22, 23, 24, 25, 26, 33, 34, 35, 36, 37, 38, 39, 40, 41, 42, 43, 44, 45, 46, 47, 48, 49, 163, 164, 165, 166, 170, 171, 172, 173, 174, 175, 176, 167, 168, 169] (by decide +kernel) (by decide +kernel)
set_option maxRecDepth 20000 in
theorem gX3_isSame_X2_mean : GoodIn wsX3_isSame (wsV RX3 90 RX2 yX2_mean wsX2_mean) := goodIn_app (goodIn_of _ (by decide +kernel)) ggX3_isSame_X2_mean
theorem dX3_isSame_0 : decode cX3_isSame 0 = .ok (.iconst 0, 1) := by decide +kernel
theorem dX3_isSame_1 : decode cX3_isSame 1 = .ok (.istore_n 2, 1) := by decide +kernel
theorem dX3_isSame_2 : decode cX3_isSame 2 = .ok (.iconst 0, 1) := by decide +kernel
theorem dX3_isSame_3 : decode cX3_isSame 3 = .ok (.istore_n 3, 1) := by decide +kernel
theorem dX3_isSame_4 : decode cX3_isSame 4 = .ok (.iconst 0, 1) := by decide +kernel
theorem dX3_isSame_5 : decode cX3_isSame 5 = .ok (.istore 4, 2) := by decide +kernel
theorem dX3_isSame_7 : decode cX3_isSame 7 = .ok (.iconst 0, 1) := by decide +kernel
theorem dX3_isSame_8 : decode cX3_isSame 8 = .ok (.istore 5, 2) := by decide +kernel
theorem dX3_isSame_10 : decode cX3_isSame 10 = .ok (.iconst 0, 1) := by decide +kernel
theorem dX3_isSame_11 : decode cX3_isSame 11 = .ok (.istore 6, 2) := by decide +kernel
theorem dX3_isSame_13 : decode cX3_isSame 13 = .ok (.iload 6, 2) := by decide +kernel
theorem dX3_isSame_15 : decode cX3_isSame 15 = .ok (.bipush 16, 2) := by decide +kernel
theorem dX3_isSame_17 : decode cX3_isSame 17 = .ok (.if_icmp .ge 319, 3) := by decide +kernel
theorem dX3_isSame_20 : decode cX3_isSame 20 = .ok (.iconst 0, 1) := by decide +kernel
theorem dX3_isSame_21 : decode cX3_isSame 21 = .ok (.istore 7, 2) := by decide +kernel
theorem dX3_isSame_23 : decode cX3_isSame 23 = .ok (.iconst 0, 1) := by decide +kernel
theorem dX3_isSame_24 : decode cX3_isSame 24 = .ok (.istore 8, 2) := by decide +kernel
theorem dX3_isSame_26 : decode cX3_isSame 26 = .ok (.iconst 0, 1) := by decide +kernel
theorem dX3_isSame_27 : decode cX3_isSame 27 = .ok (.istore 9, 2) := by decide +kernel
theorem dX3_isSame_29 : decode cX3_isSame 29 = .ok (.iload 9, 2) := by decide +kernel
theorem dX3_isSame_31 : decode cX3_isSame 31 = .ok (.aload_n 0, 1) := by decide +kernel
theorem dX3_isSame_32 : decode cX3_isSame 32 = .ok (.getfield 9, 3) := by decide +kernel
theorem dX3_isSame_35 : decode cX3_isSame 35 = .ok (.iload 6, 2) := by decide +kernel
theorem dX3_isSame_37 : decode cX3_isSame 37 = .ok (.aaload, 1) := by decide +kernel
theorem dX3_isSame_38 : decode cX3_isSame 38 = .ok (.arraylength, 1) := by decide +kernel
theorem dX3_isSame_39 : decode cX3_isSame 39 = .ok (.if_icmp .ge 110, 3) := by decide +kernel
theorem dX3_isSame_42 : decode cX3_isSame 42 = .ok (.aload_n 0, 1) := by decide +kernel
theorem dX3_isSame_43 : decode cX3_isSame 43 = .ok (.getfield 9, 3) := by decide +kernel
theorem dX3_isSame_46 : decode cX3_isSame 46 = .ok (.iload 6, 2) := by decide +kernel
theorem dX3_isSame_48 : decode cX3_isSame 48 = .ok (.aaload, 1) := by decide +kernel
theorem dX3_isSame_49 : decode cX3_isSame 49 = .ok (.iload 9, 2) := by decide +kernel
theorem dX3_isSame_51 : decode cX3_isSame 51 = .ok (.iaload, 1) := by decide +kernel
theorem dX3_isSame_52 : decode cX3_isSame 52 = .ok (.istore 10, 2) := by decide +kernel
theorem dX3_isSame_54 : decode cX3_isSame 54 = .ok (.iload 7, 2) := by decide +kernel
theorem dX3_isSame_56 : decode cX3_isSame 56 = .ok (.aload_n 0, 1) := by decide +kernel
theorem dX3_isSame_57 : decode cX3_isSame 57 = .ok (.getfield 14, 3) := by decide +kernel
theorem dX3_isSame_60 : decode cX3_isSame 60 = .ok (.iload 10, 2) := by decide +kernel
theorem dX3_isSame_62 : decode cX3_isSame 62 = .ok (.iaload, 1) := by decide +kernel
theorem dX3_isSame_63 : decode cX3_isSame 63 = .ok (.iadd, 1) := by decide +kernel
theorem dX3_isSame_64 : decode cX3_isSame 64 = .ok (.istore 7, 2) := by decide +kernel
theorem dX3_isSame_66 : decode cX3_isSame 66 = .ok (.iconst 5, 1) := by decide +kernel
theorem dX3_isSame_67 : decode cX3_isSame 67 = .ok (.newarray .int, 2) := by decide +kernel
theorem dX3_isSame_69 : decode cX3_isSame 69 = .ok (.dup, 1) := by decide +kernel
theorem dX3_isSame_70 : decode cX3_isSame 70 = .ok (.iconst 0, 1) := by decide +kernel
theorem dX3_isSame_71 : decode cX3_isSame 71 = .ok (.aload_n 0, 1) := by decide +kernel
theorem dX3_isSame_72 : decode cX3_isSame 72 = .ok (.getfield 14, 3) := by decide +kernel
theorem dX3_isSame_75 : decode cX3_isSame 75 = .ok (.iload 10, 2) := by decide +kernel
theorem dX3_isSame_77 : decode cX3_isSame 77 = .ok (.iaload, 1) := by decide +kernel
theorem dX3_isSame_78 : decode cX3_isSame 78 = .ok (.iastore, 1) := by decide +kernel
theorem dX3_isSame_79 : decode cX3_isSame 79 = .ok (.dup, 1) := by decide +kernel
theorem dX3_isSame_80 : decode cX3_isSame 80 = .ok (.iconst 1, 1) := by decide +kernel
theorem dX3_isSame_81 : decode cX3_isSame 81 = .ok (.iload 6, 2) := by decide +kernel
theorem dX3_isSame_83 : decode cX3_isSame 83 = .ok (.iastore, 1) := by decide +kernel
theorem dX3_isSame_84 : decode cX3_isSame 84 = .ok (.dup, 1) := by decide +kernel
theorem dX3_isSame_85 : decode cX3_isSame 85 = .ok (.iconst 2, 1) := by decide +kernel
theorem dX3_isSame_86 : decode cX3_isSame 86 = .ok (.aload_n 0, 1) := by decide +kernel
theorem dX3_isSame_87 : decode cX3_isSame 87 = .ok (.getfield 9, 3) := by decide +kernel
theorem dX3_isSame_90 : decode cX3_isSame 90 = .ok (.iload 6, 2) := by decide +kernel
theorem dX3_isSame_92 : decode cX3_isSame 92 = .ok (.aaload, 1) := by decide +kernel
theorem dX3_isSame_93 : decode cX3_isSame 93 = .ok (.arraylength, 1) := by decide +kernel
theorem dX3_isSame_94 : decode cX3_isSame 94 = .ok (.iconst 1, 1) := by decide +kernel
theorem dX3_isSame_95 : decode cX3_isSame 95 = .ok (.isub, 1) := by decide +kernel
theorem dX3_isSame_96 : decode cX3_isSame 96 = .ok (.iload 9, 2) := by decide +kernel
theorem dX3_isSame_98 : decode cX3_isSame 98 = .ok (.isub, 1) := by decide +kernel
theorem dX3_isSame_99 : decode cX3_isSame 99 = .ok (.iastore, 1) := by decide +kernel
theorem dX3_isSame_100 : decode cX3_isSame 100 = .ok (.dup, 1) := by decide +kernel
theorem dX3_isSame_101 : decode cX3_isSame 101 = .ok (.iconst 3, 1) := by decide +kernel
theorem dX3_isSame_102 : decode cX3_isSame 102 = .ok (.iconst (-1), 1) := by decide +kernel
theorem dX3_isSame_103 : decode cX3_isSame 103 = .ok (.iastore, 1) := by decide +kernel
theorem dX3_isSame_104 : decode cX3_isSame 104 = .ok (.dup, 1) := by decide +kernel
theorem dX3_isSame_105 : decode cX3_isSame 105 = .ok (.iconst 4, 1) := by decide +kernel
theorem dX3_isSame_106 : decode cX3_isSame 106 = .ok (.iconst 0, 1) := by decide +kernel
theorem dX3_isSame_107 : decode cX3_isSame 107 = .ok (.iastore, 1) := by decide +kernel
theorem dX3_isSame_108 : decode cX3_isSame 108 = .ok (.astore 11, 2) := by decide +kernel
theorem dX3_isSame_110 : decode cX3_isSame 110 = .ok (.iconst 0, 1) := by decide +kernel
theorem dX3_isSame_111 : decode cX3_isSame 111 = .ok (.istore 12, 2) := by decide +kernel
theorem dX3_isSame_113 : decode cX3_isSame 113 = .ok (.iload 12, 2) := by decide +kernel
theorem dX3_isSame_115 : decode cX3_isSame 115 = .ok (.iconst 5, 1) := by decide +kernel
theorem dX3_isSame_116 : decode cX3_isSame 116 = .ok (.if_icmp .ge 27, 3) := by decide +kernel
theorem dX3_isSame_119 : decode cX3_isSame 119 = .ok (.aload_n 1, 1) := by decide +kernel
theorem dX3_isSame_120 : decode cX3_isSame 120 = .ok (.iload 10, 2) := by decide +kernel
theorem dX3_isSame_122 : decode cX3_isSame 122 = .ok (.iload 12, 2) := by decide +kernel
theorem dX3_isSame_124 : decode cX3_isSame 124 = .ok (.invokevirtual 65, 3) := by decide +kernel
theorem dX3_isSame_127 : decode cX3_isSame 127 = .ok (.aload 11, 2) := by decide +kernel
theorem dX3_isSame_129 : decode cX3_isSame 129 = .ok (.iload 12, 2) := by decide +kernel
theorem dX3_isSame_131 : decode cX3_isSame 131 = .ok (.iaload, 1) := by decide +kernel
theorem dX3_isSame_132 : decode cX3_isSame 132 = .ok (.if_icmp .eq 5, 3) := by decide +kernel
theorem dX3_isSame_135 : decode cX3_isSame 135 = .ok (.iconst 0, 1) := by decide +kernel
theorem dX3_isSame_136 : decode cX3_isSame 136 = .ok (.ireturn, 1) := by decide +kernel
theorem dX3_isSame_137 : decode cX3_isSame 137 = .ok (.iinc 12 1, 3) := by decide +kernel
theorem dX3_isSame_140 : decode cX3_isSame 140 = .ok (.goto (-27), 3) := by decide +kernel
theorem dX3_isSame_143 : decode cX3_isSame 143 = .ok (.iinc 9 1, 3) := by decide +kernel
theorem dX3_isSame_146 : decode cX3_isSame 146 = .ok (.goto (-117), 3) := by decide +kernel
theorem dX3_isSame_149 : decode cX3_isSame 149 = .ok (.aload_n 0, 1) := by decide +kernel
theorem dX3_isSame_150 : decode cX3_isSame 150 = .ok (.getfield 19, 3) := by decide +kernel
theorem dX3_isSame_153 : decode cX3_isSame 153 = .ok (.astore 9, 2) := by decide +kernel
theorem dX3_isSame_155 : decode cX3_isSame 155 = .ok (.aload 9, 2) := by decide +kernel
theorem dX3_isSame_157 : decode cX3_isSame 157 = .ok (.arraylength, 1) := by decide +kernel
theorem dX3_isSame_158 : decode cX3_isSame 158 = .ok (.istore 10, 2) := by decide +kernel
theorem dX3_isSame_160 : decode cX3_isSame 160 = .ok (.iconst 0, 1) := by decide +kernel
theorem dX3_isSame_161 : decode cX3_isSame 161 = .ok (.istore 11, 2) := by decide +kernel
theorem dX3_isSame_163 : decode cX3_isSame 163 = .ok (.iload 11, 2) := by decide +kernel
theorem dX3_isSame_165 : decode cX3_isSame 165 = .ok (.iload 10, 2) := by decide +kernel
theorem dX3_isSame_167 : decode cX3_isSame 167 = .ok (.if_icmp .ge 35, 3) := by decide +kernel
theorem dX3_isSame_170 : decode cX3_isSame 170 = .ok (.aload 9, 2) := by decide +kernel
theorem dX3_isSame_172 : decode cX3_isSame 172 = .ok (.iload 11, 2) := by decide +kernel
theorem dX3_isSame_174 : decode cX3_isSame 174 = .ok (.aaload, 1) := by decide +kernel
theorem dX3_isSame_175 : decode cX3_isSame 175 = .ok (.astore 12, 2) := by decide +kernel
theorem dX3_isSame_177 : decode cX3_isSame 177 = .ok (.iload 8, 2) := by decide +kernel
theorem dX3_isSame_179 : decode cX3_isSame 179 = .ok (.aload 12, 2) := by decide +kernel
theorem dX3_isSame_181 : decode cX3_isSame 181 = .ok (.iconst 5, 1) := by decide +kernel
theorem dX3_isSame_182 : decode cX3_isSame 182 = .ok (.iaload, 1) := by decide +kernel
theorem dX3_isSame_183 : decode cX3_isSame 183 = .ok (.iload 6, 2) := by decide +kernel
theorem dX3_isSame_185 : decode cX3_isSame 185 = .ok (.if_icmp .ne 7, 3) := by decide +kernel
theorem dX3_isSame_188 : decode cX3_isSame 188 = .ok (.iconst 1, 1) := by decide +kernel
theorem dX3_isSame_189 : decode cX3_isSame 189 = .ok (.goto 4, 3) := by decide +kernel
theorem dX3_isSame_192 : decode cX3_isSame 192 = .ok (.iconst 0, 1) := by decide +kernel
theorem dX3_isSame_193 : decode cX3_isSame 193 = .ok (.iadd, 1) := by decide +kernel
theorem dX3_isSame_194 : decode cX3_isSame 194 = .ok (.istore 8, 2) := by decide +kernel
theorem dX3_isSame_196 : decode cX3_isSame 196 = .ok (.iinc 11 1, 3) := by decide +kernel
theorem dX3_isSame_199 : decode cX3_isSame 199 = .ok (.goto (-36), 3) := by decide +kernel
theorem dX3_isSame_202 : decode cX3_isSame 202 = .ok (.iload_n 2, 1) := by decide +kernel
theorem dX3_isSame_203 : decode cX3_isSame 203 = .ok (.aload_n 0, 1) := by decide +kernel
theorem dX3_isSame_204 : decode cX3_isSame 204 = .ok (.getfield 9, 3) := by decide +kernel
theorem dX3_isSame_207 : decode cX3_isSame 207 = .ok (.iload 6, 2) := by decide +kernel
theorem dX3_isSame_209 : decode cX3_isSame 209 = .ok (.aaload, 1) := by decide +kernel
theorem dX3_isSame_210 : decode cX3_isSame 210 = .ok (.arraylength, 1) := by decide +kernel
theorem dX3_isSame_211 : decode cX3_isSame 211 = .ok (.iadd, 1) := by decide +kernel
theorem dX3_isSame_212 : decode cX3_isSame 212 = .ok (.istore_n 2, 1) := by decide +kernel
theorem dX3_isSame_213 : decode cX3_isSame 213 = .ok (.iload 5, 2) := by decide +kernel
theorem dX3_isSame_215 : decode cX3_isSame 215 = .ok (.iload 7, 2) := by decide +kernel
theorem dX3_isSame_217 : decode cX3_isSame 217 = .ok (.iadd, 1) := by decide +kernel
theorem dX3_isSame_218 : decode cX3_isSame 218 = .ok (.istore 5, 2) := by decide +kernel
theorem dX3_isSame_220 : decode cX3_isSame 220 = .ok (.iload 4, 2) := by decide +kernel
theorem dX3_isSame_222 : decode cX3_isSame 222 = .ok (.aload_n 0, 1) := by decide +kernel
theorem dX3_isSame_223 : decode cX3_isSame 223 = .ok (.getfield 9, 3) := by decide +kernel
theorem dX3_isSame_226 : decode cX3_isSame 226 = .ok (.iload 6, 2) := by decide +kernel
theorem dX3_isSame_228 : decode cX3_isSame 228 = .ok (.aaload, 1) := by decide +kernel
theorem dX3_isSame_229 : decode cX3_isSame 229 = .ok (.arraylength, 1) := by decide +kernel
theorem dX3_isSame_230 : decode cX3_isSame 230 = .ok (.invokestatic 71, 3) := by decide +kernel
theorem dX3_isSame_233 : decode cX3_isSame 233 = .ok (.istore 4, 2) := by decide +kernel
theorem dX3_isSame_235 : decode cX3_isSame 235 = .ok (.iconst 4, 1) := by decide +kernel
theorem dX3_isSame_236 : decode cX3_isSame 236 = .ok (.newarray .int, 2) := by decide +kernel
theorem dX3_isSame_238 : decode cX3_isSame 238 = .ok (.dup, 1) := by decide +kernel
theorem dX3_isSame_239 : decode cX3_isSame 239 = .ok (.iconst 0, 1) := by decide +kernel
theorem dX3_isSame_240 : decode cX3_isSame 240 = .ok (.aload_n 0, 1) := by decide +kernel
theorem dX3_isSame_241 : decode cX3_isSame 241 = .ok (.getfield 9, 3) := by decide +kernel
theorem dX3_isSame_244 : decode cX3_isSame 244 = .ok (.iload 6, 2) := by decide +kernel
theorem dX3_isSame_246 : decode cX3_isSame 246 = .ok (.aaload, 1) := by decide +kernel
theorem dX3_isSame_247 : decode cX3_isSame 247 = .ok (.arraylength, 1) := by decide +kernel
theorem dX3_isSame_248 : decode cX3_isSame 248 = .ok (.iastore, 1) := by decide +kernel
theorem dX3_isSame_249 : decode cX3_isSame 249 = .ok (.dup, 1) := by decide +kernel
theorem dX3_isSame_250 : decode cX3_isSame 250 = .ok (.iconst 1, 1) := by decide +kernel
theorem dX3_isSame_251 : decode cX3_isSame 251 = .ok (.aload_n 0, 1) := by decide +kernel
theorem dX3_isSame_252 : decode cX3_isSame 252 = .ok (.getfield 9, 3) := by decide +kernel
theorem dX3_isSame_255 : decode cX3_isSame 255 = .ok (.iload 6, 2) := by decide +kernel
theorem dX3_isSame_257 : decode cX3_isSame 257 = .ok (.aaload, 1) := by decide +kernel
theorem dX3_isSame_258 : decode cX3_isSame 258 = .ok (.arraylength, 1) := by decide +kernel
theorem dX3_isSame_259 : decode cX3_isSame 259 = .ok (.ifCond .ne 7, 3) := by decide +kernel
theorem dX3_isSame_262 : decode cX3_isSame 262 = .ok (.iconst (-1), 1) := by decide +kernel
theorem dX3_isSame_263 : decode cX3_isSame 263 = .ok (.goto 21, 3) := by decide +kernel
theorem dX3_isSame_266 : decode cX3_isSame 266 = .ok (.aload_n 0, 1) := by decide +kernel
theorem dX3_isSame_267 : decode cX3_isSame 267 = .ok (.getfield 9, 3) := by decide +kernel
theorem dX3_isSame_270 : decode cX3_isSame 270 = .ok (.iload 6, 2) := by decide +kernel
theorem dX3_isSame_272 : decode cX3_isSame 272 = .ok (.aaload, 1) := by decide +kernel
theorem dX3_isSame_273 : decode cX3_isSame 273 = .ok (.aload_n 0, 1) := by decide +kernel
theorem dX3_isSame_274 : decode cX3_isSame 274 = .ok (.getfield 9, 3) := by decide +kernel
theorem dX3_isSame_277 : decode cX3_isSame 277 = .ok (.iload 6, 2) := by decide +kernel
theorem dX3_isSame_279 : decode cX3_isSame 279 = .ok (.aaload, 1) := by decide +kernel
theorem dX3_isSame_280 : decode cX3_isSame 280 = .ok (.arraylength, 1) := by decide +kernel
theorem dX3_isSame_281 : decode cX3_isSame 281 = .ok (.iconst 1, 1) := by decide +kernel
theorem dX3_isSame_282 : decode cX3_isSame 282 = .ok (.isub, 1) := by decide +kernel
theorem dX3_isSame_283 : decode cX3_isSame 283 = .ok (.iaload, 1) := by decide +kernel
theorem dX3_isSame_284 : decode cX3_isSame 284 = .ok (.iastore, 1) := by decide +kernel
theorem dX3_isSame_285 : decode cX3_isSame 285 = .ok (.dup, 1) := by decide +kernel
theorem dX3_isSame_286 : decode cX3_isSame 286 = .ok (.iconst 2, 1) := by decide +kernel
theorem dX3_isSame_287 : decode cX3_isSame 287 = .ok (.iload 7, 2) := by decide +kernel
theorem dX3_isSame_289 : decode cX3_isSame 289 = .ok (.iastore, 1) := by decide +kernel
theorem dX3_isSame_290 : decode cX3_isSame 290 = .ok (.dup, 1) := by decide +kernel
theorem dX3_isSame_291 : decode cX3_isSame 291 = .ok (.iconst 3, 1) := by decide +kernel
theorem dX3_isSame_292 : decode cX3_isSame 292 = .ok (.iload 8, 2) := by decide +kernel
theorem dX3_isSame_294 : decode cX3_isSame 294 = .ok (.iastore, 1) := by decide +kernel
theorem dX3_isSame_295 : decode cX3_isSame 295 = .ok (.astore 9, 2) := by decide +kernel
theorem dX3_isSame_297 : decode cX3_isSame 297 = .ok (.iconst 0, 1) := by decide +kernel
theorem dX3_isSame_298 : decode cX3_isSame 298 = .ok (.istore 10, 2) := by decide +kernel
theorem dX3_isSame_300 : decode cX3_isSame 300 = .ok (.iload 10, 2) := by decide +kernel
theorem dX3_isSame_302 : decode cX3_isSame 302 = .ok (.iconst 4, 1) := by decide +kernel
theorem dX3_isSame_303 : decode cX3_isSame 303 = .ok (.if_icmp .ge 27, 3) := by decide +kernel
theorem dX3_isSame_306 : decode cX3_isSame 306 = .ok (.aload_n 1, 1) := by decide +kernel
theorem dX3_isSame_307 : decode cX3_isSame 307 = .ok (.iload 6, 2) := by decide +kernel
theorem dX3_isSame_309 : decode cX3_isSame 309 = .ok (.iload 10, 2) := by decide +kernel
theorem dX3_isSame_311 : decode cX3_isSame 311 = .ok (.invokevirtual 74, 3) := by decide +kernel
theorem dX3_isSame_314 : decode cX3_isSame 314 = .ok (.aload 9, 2) := by decide +kernel
theorem dX3_isSame_316 : decode cX3_isSame 316 = .ok (.iload 10, 2) := by decide +kernel
theorem dX3_isSame_318 : decode cX3_isSame 318 = .ok (.iaload, 1) := by decide +kernel
theorem dX3_isSame_319 : decode cX3_isSame 319 = .ok (.if_icmp .eq 5, 3) := by decide +kernel
theorem dX3_isSame_322 : decode cX3_isSame 322 = .ok (.iconst 0, 1) := by decide +kernel
theorem dX3_isSame_323 : decode cX3_isSame 323 = .ok (.ireturn, 1) := by decide +kernel
theorem dX3_isSame_324 : decode cX3_isSame 324 = .ok (.iinc 10 1, 3) := by decide +kernel
theorem dX3_isSame_327 : decode cX3_isSame 327 = .ok (.goto (-27), 3) := by decide +kernel
theorem dX3_isSame_330 : decode cX3_isSame 330 = .ok (.iinc 6 1, 3) := by decide +kernel
theorem dX3_isSame_333 : decode cX3_isSame 333 = .ok (.goto (-320), 3) := by decide +kernel
theorem dX3_isSame_336 : decode cX3_isSame 336 = .ok (.iconst 0, 1) := by decide +kernel
theorem dX3_isSame_337 : decode cX3_isSame 337 = .ok (.istore 6, 2) := by decide +kernel
theorem dX3_isSame_339 : decode cX3_isSame 339 = .ok (.iload 6, 2) := by decide +kernel
theorem dX3_isSame_341 : decode cX3_isSame 341 = .ok (.aload_n 0, 1) := by decide +kernel
theorem dX3_isSame_342 : decode cX3_isSame 342 = .ok (.getfield 19, 3) := by decide +kernel
theorem dX3_isSame_345 : decode cX3_isSame 345 = .ok (.arraylength, 1) := by decide +kernel
theorem dX3_isSame_346 : decode cX3_isSame 346 = .ok (.if_icmp .ge 171, 3) := by decide +kernel
theorem dX3_isSame_349 : decode cX3_isSame 349 = .ok (.aload_n 0, 1) := by decide +kernel
theorem dX3_isSame_350 : decode cX3_isSame 350 = .ok (.getfield 19, 3) := by decide +kernel
theorem dX3_isSame_353 : decode cX3_isSame 353 = .ok (.iload 6, 2) := by decide +kernel
theorem dX3_isSame_355 : decode cX3_isSame 355 = .ok (.aaload, 1) := by decide +kernel
theorem dX3_isSame_356 : decode cX3_isSame 356 = .ok (.astore 7, 2) := by decide +kernel
theorem dX3_isSame_358 : decode cX3_isSame 358 = .ok (.iconst 0, 1) := by decide +kernel
theorem dX3_isSame_359 : decode cX3_isSame 359 = .ok (.istore 8, 2) := by decide +kernel
theorem dX3_isSame_361 : decode cX3_isSame 361 = .ok (.iload 8, 2) := by decide +kernel
theorem dX3_isSame_363 : decode cX3_isSame 363 = .ok (.bipush 8, 2) := by decide +kernel
theorem dX3_isSame_365 : decode cX3_isSame 365 = .ok (.if_icmp .ge 27, 3) := by decide +kernel
theorem dX3_isSame_368 : decode cX3_isSame 368 = .ok (.aload_n 1, 1) := by decide +kernel
theorem dX3_isSame_369 : decode cX3_isSame 369 = .ok (.iload 6, 2) := by decide +kernel
theorem dX3_isSame_371 : decode cX3_isSame 371 = .ok (.iload 8, 2) := by decide +kernel
theorem dX3_isSame_373 : decode cX3_isSame 373 = .ok (.invokevirtual 77, 3) := by decide +kernel
theorem dX3_isSame_376 : decode cX3_isSame 376 = .ok (.aload 7, 2) := by decide +kernel
theorem dX3_isSame_378 : decode cX3_isSame 378 = .ok (.iload 8, 2) := by decide +kernel
theorem dX3_isSame_380 : decode cX3_isSame 380 = .ok (.iaload, 1) := by decide +kernel
theorem dX3_isSame_381 : decode cX3_isSame 381 = .ok (.if_icmp .eq 5, 3) := by decide +kernel
theorem dX3_isSame_384 : decode cX3_isSame 384 = .ok (.iconst 0, 1) := by decide +kernel
theorem dX3_isSame_385 : decode cX3_isSame 385 = .ok (.ireturn, 1) := by decide +kernel
theorem dX3_isSame_386 : decode cX3_isSame 386 = .ok (.iinc 8 1, 3) := by decide +kernel
theorem dX3_isSame_389 : decode cX3_isSame 389 = .ok (.goto (-28), 3) := by decide +kernel
theorem dX3_isSame_392 : decode cX3_isSame 392 = .ok (.aload_n 1, 1) := by decide +kernel
theorem dX3_isSame_393 : decode cX3_isSame 393 = .ok (.iload 6, 2) := by decide +kernel
theorem dX3_isSame_395 : decode cX3_isSame 395 = .ok (.bipush 8, 2) := by decide +kernel
theorem dX3_isSame_397 : decode cX3_isSame 397 = .ok (.invokevirtual 77, 3) := by decide +kernel
theorem dX3_isSame_400 : decode cX3_isSame 400 = .ok (.aload_n 0, 1) := by decide +kernel
theorem dX3_isSame_401 : decode cX3_isSame 401 = .ok (.aload 7, 2) := by decide +kernel
theorem dX3_isSame_403 : decode cX3_isSame 403 = .ok (.invokevirtual 46, 3) := by decide +kernel
theorem dX3_isSame_406 : decode cX3_isSame 406 = .ok (.if_icmp .eq 5, 3) := by decide +kernel
theorem dX3_isSame_409 : decode cX3_isSame 409 = .ok (.iconst 0, 1) := by decide +kernel
theorem dX3_isSame_410 : decode cX3_isSame 410 = .ok (.ireturn, 1) := by decide +kernel
theorem dX3_isSame_411 : decode cX3_isSame 411 = .ok (.aload 7, 2) := by decide +kernel
theorem dX3_isSame_413 : decode cX3_isSame 413 = .ok (.bipush 7, 2) := by decide +kernel
theorem dX3_isSame_415 : decode cX3_isSame 415 = .ok (.iaload, 1) := by decide +kernel
theorem dX3_isSame_416 : decode cX3_isSame 416 = .ok (.ifCond .ge 6, 3) := by decide +kernel
theorem dX3_isSame_419 : decode cX3_isSame 419 = .ok (.goto 92, 3) := by decide +kernel
theorem dX3_isSame_422 : decode cX3_isSame 422 = .ok (.iinc 3 1, 3) := by decide +kernel
theorem dX3_isSame_425 : decode cX3_isSame 425 = .ok (.iload 5, 2) := by decide +kernel
theorem dX3_isSame_427 : decode cX3_isSame 427 = .ok (.aload_n 0, 1) := by decide +kernel
theorem dX3_isSame_428 : decode cX3_isSame 428 = .ok (.getfield 14, 3) := by decide +kernel
theorem dX3_isSame_431 : decode cX3_isSame 431 = .ok (.aload 7, 2) := by decide +kernel
theorem dX3_isSame_433 : decode cX3_isSame 433 = .ok (.bipush 7, 2) := by decide +kernel
theorem dX3_isSame_435 : decode cX3_isSame 435 = .ok (.iaload, 1) := by decide +kernel
theorem dX3_isSame_436 : decode cX3_isSame 436 = .ok (.iaload, 1) := by decide +kernel
theorem dX3_isSame_437 : decode cX3_isSame 437 = .ok (.iadd, 1) := by decide +kernel
theorem dX3_isSame_438 : decode cX3_isSame 438 = .ok (.istore 5, 2) := by decide +kernel
theorem dX3_isSame_440 : decode cX3_isSame 440 = .ok (.iconst 5, 1) := by decide +kernel
theorem dX3_isSame_441 : decode cX3_isSame 441 = .ok (.newarray .int, 2) := by decide +kernel
theorem dX3_isSame_443 : decode cX3_isSame 443 = .ok (.dup, 1) := by decide +kernel
theorem dX3_isSame_444 : decode cX3_isSame 444 = .ok (.iconst 0, 1) := by decide +kernel
theorem dX3_isSame_445 : decode cX3_isSame 445 = .ok (.aload_n 0, 1) := by decide +kernel
theorem dX3_isSame_446 : decode cX3_isSame 446 = .ok (.getfield 14, 3) := by decide +kernel
theorem dX3_isSame_449 : decode cX3_isSame 449 = .ok (.aload 7, 2) := by decide +kernel
theorem dX3_isSame_451 : decode cX3_isSame 451 = .ok (.bipush 7, 2) := by decide +kernel
theorem dX3_isSame_453 : decode cX3_isSame 453 = .ok (.iaload, 1) := by decide +kernel
theorem dX3_isSame_454 : decode cX3_isSame 454 = .ok (.iaload, 1) := by decide +kernel
theorem dX3_isSame_455 : decode cX3_isSame 455 = .ok (.iastore, 1) := by decide +kernel
theorem dX3_isSame_456 : decode cX3_isSame 456 = .ok (.dup, 1) := by decide +kernel
theorem dX3_isSame_457 : decode cX3_isSame 457 = .ok (.iconst 1, 1) := by decide +kernel
theorem dX3_isSame_458 : decode cX3_isSame 458 = .ok (.iconst (-1), 1) := by decide +kernel
theorem dX3_isSame_459 : decode cX3_isSame 459 = .ok (.iastore, 1) := by decide +kernel
theorem dX3_isSame_460 : decode cX3_isSame 460 = .ok (.dup, 1) := by decide +kernel
theorem dX3_isSame_461 : decode cX3_isSame 461 = .ok (.iconst 2, 1) := by decide +kernel
theorem dX3_isSame_462 : decode cX3_isSame 462 = .ok (.iconst 0, 1) := by decide +kernel
theorem dX3_isSame_463 : decode cX3_isSame 463 = .ok (.iastore, 1) := by decide +kernel
theorem dX3_isSame_464 : decode cX3_isSame 464 = .ok (.dup, 1) := by decide +kernel
theorem dX3_isSame_465 : decode cX3_isSame 465 = .ok (.iconst 3, 1) := by decide +kernel
theorem dX3_isSame_466 : decode cX3_isSame 466 = .ok (.iload 6, 2) := by decide +kernel
theorem dX3_isSame_468 : decode cX3_isSame 468 = .ok (.iastore, 1) := by decide +kernel
theorem dX3_isSame_469 : decode cX3_isSame 469 = .ok (.dup, 1) := by decide +kernel
theorem dX3_isSame_470 : decode cX3_isSame 470 = .ok (.iconst 4, 1) := by decide +kernel
theorem dX3_isSame_471 : decode cX3_isSame 471 = .ok (.iconst 0, 1) := by decide +kernel
theorem dX3_isSame_472 : decode cX3_isSame 472 = .ok (.iastore, 1) := by decide +kernel
theorem dX3_isSame_473 : decode cX3_isSame 473 = .ok (.astore 8, 2) := by decide +kernel
theorem dX3_isSame_475 : decode cX3_isSame 475 = .ok (.iconst 0, 1) := by decide +kernel
theorem dX3_isSame_476 : decode cX3_isSame 476 = .ok (.istore 9, 2) := by decide +kernel
theorem dX3_isSame_478 : decode cX3_isSame 478 = .ok (.iload 9, 2) := by decide +kernel
theorem dX3_isSame_480 : decode cX3_isSame 480 = .ok (.iconst 5, 1) := by decide +kernel
theorem dX3_isSame_481 : decode cX3_isSame 481 = .ok (.if_icmp .ge 30, 3) := by decide +kernel
theorem dX3_isSame_484 : decode cX3_isSame 484 = .ok (.aload_n 1, 1) := by decide +kernel
theorem dX3_isSame_485 : decode cX3_isSame 485 = .ok (.aload 7, 2) := by decide +kernel
theorem dX3_isSame_487 : decode cX3_isSame 487 = .ok (.bipush 7, 2) := by decide +kernel
theorem dX3_isSame_489 : decode cX3_isSame 489 = .ok (.iaload, 1) := by decide +kernel
theorem dX3_isSame_490 : decode cX3_isSame 490 = .ok (.iload 9, 2) := by decide +kernel
theorem dX3_isSame_492 : decode cX3_isSame 492 = .ok (.invokevirtual 65, 3) := by decide +kernel
theorem dX3_isSame_495 : decode cX3_isSame 495 = .ok (.aload 8, 2) := by decide +kernel
theorem dX3_isSame_497 : decode cX3_isSame 497 = .ok (.iload 9, 2) := by decide +kernel
theorem dX3_isSame_499 : decode cX3_isSame 499 = .ok (.iaload, 1) := by decide +kernel
theorem dX3_isSame_500 : decode cX3_isSame 500 = .ok (.if_icmp .eq 5, 3) := by decide +kernel
theorem dX3_isSame_503 : decode cX3_isSame 503 = .ok (.iconst 0, 1) := by decide +kernel
theorem dX3_isSame_504 : decode cX3_isSame 504 = .ok (.ireturn, 1) := by decide +kernel
theorem dX3_isSame_505 : decode cX3_isSame 505 = .ok (.iinc 9 1, 3) := by decide +kernel
theorem dX3_isSame_508 : decode cX3_isSame 508 = .ok (.goto (-30), 3) := by decide +kernel
theorem dX3_isSame_511 : decode cX3_isSame 511 = .ok (.iinc 6 1, 3) := by decide +kernel
theorem dX3_isSame_514 : decode cX3_isSame 514 = .ok (.goto (-175), 3) := by decide +kernel
theorem dX3_isSame_517 : decode cX3_isSame 517 = .ok (.iconst 0, 1) := by decide +kernel
theorem dX3_isSame_518 : decode cX3_isSame 518 = .ok (.istore 6, 2) := by decide +kernel
theorem dX3_isSame_520 : decode cX3_isSame 520 = .ok (.iload 6, 2) := by decide +kernel
theorem dX3_isSame_522 : decode cX3_isSame 522 = .ok (.aload_n 0, 1) := by decide +kernel
theorem dX3_isSame_523 : decode cX3_isSame 523 = .ok (.getfield 14, 3) := by decide +kernel
theorem dX3_isSame_526 : decode cX3_isSame 526 = .ok (.arraylength, 1) := by decide +kernel
theorem dX3_isSame_527 : decode cX3_isSame 527 = .ok (.if_icmp .ge 78, 3) := by decide +kernel
theorem dX3_isSame_530 : decode cX3_isSame 530 = .ok (.aload_n 1, 1) := by decide +kernel
theorem dX3_isSame_531 : decode cX3_isSame 531 = .ok (.iload 6, 2) := by decide +kernel
theorem dX3_isSame_533 : decode cX3_isSame 533 = .ok (.iconst 4, 1) := by decide +kernel
theorem dX3_isSame_534 : decode cX3_isSame 534 = .ok (.invokevirtual 65, 3) := by decide +kernel
theorem dX3_isSame_537 : decode cX3_isSame 537 = .ok (.aload_n 0, 1) := by decide +kernel
theorem dX3_isSame_538 : decode cX3_isSame 538 = .ok (.getfield 22, 3) := by decide +kernel
theorem dX3_isSame_541 : decode cX3_isSame 541 = .ok (.iload 6, 2) := by decide +kernel
theorem dX3_isSame_543 : decode cX3_isSame 543 = .ok (.baload, 1) := by decide +kernel
theorem dX3_isSame_544 : decode cX3_isSame 544 = .ok (.ifCond .eq 7, 3) := by decide +kernel
theorem dX3_isSame_547 : decode cX3_isSame 547 = .ok (.iconst 1, 1) := by decide +kernel
theorem dX3_isSame_548 : decode cX3_isSame 548 = .ok (.goto 4, 3) := by decide +kernel
theorem dX3_isSame_551 : decode cX3_isSame 551 = .ok (.iconst 0, 1) := by decide +kernel
theorem dX3_isSame_552 : decode cX3_isSame 552 = .ok (.if_icmp .ne 45, 3) := by decide +kernel
theorem dX3_isSame_555 : decode cX3_isSame 555 = .ok (.aload_n 0, 1) := by decide +kernel
theorem dX3_isSame_556 : decode cX3_isSame 556 = .ok (.getfield 22, 3) := by decide +kernel
theorem dX3_isSame_559 : decode cX3_isSame 559 = .ok (.iload 6, 2) := by decide +kernel
theorem dX3_isSame_561 : decode cX3_isSame 561 = .ok (.baload, 1) := by decide +kernel
theorem dX3_isSame_562 : decode cX3_isSame 562 = .ok (.ifCond .eq 37, 3) := by decide +kernel
theorem dX3_isSame_565 : decode cX3_isSame 565 = .ok (.aload_n 1, 1) := by decide +kernel
theorem dX3_isSame_566 : decode cX3_isSame 566 = .ok (.iload 6, 2) := by decide +kernel
theorem dX3_isSame_568 : decode cX3_isSame 568 = .ok (.iconst 1, 1) := by decide +kernel
theorem dX3_isSame_569 : decode cX3_isSame 569 = .ok (.invokevirtual 65, 3) := by decide +kernel
theorem dX3_isSame_572 : decode cX3_isSame 572 = .ok (.iconst (-1), 1) := by decide +kernel
theorem dX3_isSame_573 : decode cX3_isSame 573 = .ok (.if_icmp .ne 24, 3) := by decide +kernel
theorem dX3_isSame_576 : decode cX3_isSame 576 = .ok (.aload_n 1, 1) := by decide +kernel
theorem dX3_isSame_577 : decode cX3_isSame 577 = .ok (.iload 6, 2) := by decide +kernel
theorem dX3_isSame_579 : decode cX3_isSame 579 = .ok (.iconst 2, 1) := by decide +kernel
theorem dX3_isSame_580 : decode cX3_isSame 580 = .ok (.invokevirtual 65, 3) := by decide +kernel
theorem dX3_isSame_583 : decode cX3_isSame 583 = .ok (.ifCond .ne 14, 3) := by decide +kernel
theorem dX3_isSame_586 : decode cX3_isSame 586 = .ok (.aload_n 1, 1) := by decide +kernel
theorem dX3_isSame_587 : decode cX3_isSame 587 = .ok (.iload 6, 2) := by decide +kernel
theorem dX3_isSame_589 : decode cX3_isSame 589 = .ok (.iconst 3, 1) := by decide +kernel
theorem dX3_isSame_590 : decode cX3_isSame 590 = .ok (.invokevirtual 65, 3) := by decide +kernel
theorem dX3_isSame_593 : decode cX3_isSame 593 = .ok (.iconst (-1), 1) := by decide +kernel
theorem dX3_isSame_594 : decode cX3_isSame 594 = .ok (.if_icmp .eq 5, 3) := by decide +kernel
theorem dX3_isSame_597 : decode cX3_isSame 597 = .ok (.iconst 0, 1) := by decide +kernel
theorem dX3_isSame_598 : decode cX3_isSame 598 = .ok (.ireturn, 1) := by decide +kernel
theorem dX3_isSame_599 : decode cX3_isSame 599 = .ok (.iinc 6 1, 3) := by decide +kernel
theorem dX3_isSame_602 : decode cX3_isSame 602 = .ok (.goto (-82), 3) := by decide +kernel
theorem dX3_isSame_605 : decode cX3_isSame 605 = .ok (.bipush 7, 2) := by decide +kernel
theorem dX3_isSame_607 : decode cX3_isSame 607 = .ok (.newarray .int, 2) := by decide +kernel
theorem dX3_isSame_609 : decode cX3_isSame 609 = .ok (.dup, 1) := by decide +kernel
theorem dX3_isSame_610 : decode cX3_isSame 610 = .ok (.iconst 0, 1) := by decide +kernel
theorem dX3_isSame_611 : decode cX3_isSame 611 = .ok (.aload_n 0, 1) := by decide +kernel
theorem dX3_isSame_612 : decode cX3_isSame 612 = .ok (.getfield 80, 3) := by decide +kernel
theorem dX3_isSame_615 : decode cX3_isSame 615 = .ok (.iastore, 1) := by decide +kernel
theorem dX3_isSame_616 : decode cX3_isSame 616 = .ok (.dup, 1) := by decide +kernel
theorem dX3_isSame_617 : decode cX3_isSame 617 = .ok (.iconst 1, 1) := by decide +kernel
theorem dX3_isSame_618 : decode cX3_isSame 618 = .ok (.aload_n 0, 1) := by decide +kernel
theorem dX3_isSame_619 : decode cX3_isSame 619 = .ok (.getfield 14, 3) := by decide +kernel
theorem dX3_isSame_622 : decode cX3_isSame 622 = .ok (.arraylength, 1) := by decide +kernel
theorem dX3_isSame_623 : decode cX3_isSame 623 = .ok (.iastore, 1) := by decide +kernel
theorem dX3_isSame_624 : decode cX3_isSame 624 = .ok (.dup, 1) := by decide +kernel
theorem dX3_isSame_625 : decode cX3_isSame 625 = .ok (.iconst 2, 1) := by decide +kernel
theorem dX3_isSame_626 : decode cX3_isSame 626 = .ok (.iload_n 2, 1) := by decide +kernel
theorem dX3_isSame_627 : decode cX3_isSame 627 = .ok (.iastore, 1) := by decide +kernel
theorem dX3_isSame_628 : decode cX3_isSame 628 = .ok (.dup, 1) := by decide +kernel
theorem dX3_isSame_629 : decode cX3_isSame 629 = .ok (.iconst 3, 1) := by decide +kernel
theorem dX3_isSame_630 : decode cX3_isSame 630 = .ok (.iload_n 3, 1) := by decide +kernel
theorem dX3_isSame_631 : decode cX3_isSame 631 = .ok (.iastore, 1) := by decide +kernel
theorem dX3_isSame_632 : decode cX3_isSame 632 = .ok (.dup, 1) := by decide +kernel
theorem dX3_isSame_633 : decode cX3_isSame 633 = .ok (.iconst 4, 1) := by decide +kernel
theorem dX3_isSame_634 : decode cX3_isSame 634 = .ok (.aload_n 0, 1) := by decide +kernel
theorem dX3_isSame_635 : decode cX3_isSame 635 = .ok (.getfield 84, 3) := by decide +kernel
theorem dX3_isSame_638 : decode cX3_isSame 638 = .ok (.iastore, 1) := by decide +kernel
theorem dX3_isSame_639 : decode cX3_isSame 639 = .ok (.dup, 1) := by decide +kernel
theorem dX3_isSame_640 : decode cX3_isSame 640 = .ok (.iconst 5, 1) := by decide +kernel
theorem dX3_isSame_641 : decode cX3_isSame 641 = .ok (.aload_n 0, 1) := by decide +kernel
theorem dX3_isSame_642 : decode cX3_isSame 642 = .ok (.getfield 19, 3) := by decide +kernel
theorem dX3_isSame_645 : decode cX3_isSame 645 = .ok (.arraylength, 1) := by decide +kernel
theorem dX3_isSame_646 : decode cX3_isSame 646 = .ok (.iastore, 1) := by decide +kernel
theorem dX3_isSame_647 : decode cX3_isSame 647 = .ok (.dup, 1) := by decide +kernel
theorem dX3_isSame_648 : decode cX3_isSame 648 = .ok (.bipush 6, 2) := by decide +kernel
theorem dX3_isSame_650 : decode cX3_isSame 650 = .ok (.iload 4, 2) := by decide +kernel
theorem dX3_isSame_652 : decode cX3_isSame 652 = .ok (.iastore, 1) := by decide +kernel
theorem dX3_isSame_653 : decode cX3_isSame 653 = .ok (.astore 6, 2) := by decide +kernel
theorem dX3_isSame_655 : decode cX3_isSame 655 = .ok (.iconst 0, 1) := by decide +kernel
theorem dX3_isSame_656 : decode cX3_isSame 656 = .ok (.istore 7, 2) := by decide +kernel
theorem dX3_isSame_658 : decode cX3_isSame 658 = .ok (.iload 7, 2) := by decide +kernel
theorem dX3_isSame_660 : decode cX3_isSame 660 = .ok (.bipush 7, 2) := by decide +kernel
theorem dX3_isSame_662 : decode cX3_isSame 662 = .ok (.if_icmp .ge 25, 3) := by decide +kernel
theorem dX3_isSame_665 : decode cX3_isSame 665 = .ok (.aload_n 1, 1) := by decide +kernel
theorem dX3_isSame_666 : decode cX3_isSame 666 = .ok (.iload 7, 2) := by decide +kernel
theorem dX3_isSame_668 : decode cX3_isSame 668 = .ok (.invokevirtual 87, 3) := by decide +kernel
theorem dX3_isSame_671 : decode cX3_isSame 671 = .ok (.aload 6, 2) := by decide +kernel
theorem dX3_isSame_673 : decode cX3_isSame 673 = .ok (.iload 7, 2) := by decide +kernel
theorem dX3_isSame_675 : decode cX3_isSame 675 = .ok (.iaload, 1) := by decide +kernel
theorem dX3_isSame_676 : decode cX3_isSame 676 = .ok (.if_icmp .eq 5, 3) := by decide +kernel
theorem dX3_isSame_679 : decode cX3_isSame 679 = .ok (.iconst 0, 1) := by decide +kernel
theorem dX3_isSame_680 : decode cX3_isSame 680 = .ok (.ireturn, 1) := by decide +kernel
theorem dX3_isSame_681 : decode cX3_isSame 681 = .ok (.iinc 7 1, 3) := by decide +kernel
theorem dX3_isSame_684 : decode cX3_isSame 684 = .ok (.goto (-26), 3) := by decide +kernel
theorem dX3_isSame_687 : decode cX3_isSame 687 = .ok (.aload_n 1, 1) := by decide +kernel
theorem dX3_isSame_688 : decode cX3_isSame 688 = .ok (.invokevirtual 90, 3) := by decide +kernel
theorem dX3_isSame_691 : decode cX3_isSame 691 = .ok (.iload_n 2, 1) := by decide +kernel
theorem dX3_isSame_692 : decode cX3_isSame 692 = .ok (.iload_n 3, 1) := by decide +kernel
theorem dX3_isSame_693 : decode cX3_isSame 693 = .ok (.iadd, 1) := by decide +kernel
theorem dX3_isSame_694 : decode cX3_isSame 694 = .ok (.ifCond .ne 7, 3) := by decide +kernel
theorem dX3_isSame_697 : decode cX3_isSame 697 = .ok (.dconst 0, 1) := by decide +kernel
theorem dX3_isSame_698 : decode cX3_isSame 698 = .ok (.goto 11, 3) := by decide +kernel
theorem dX3_isSame_701 : decode cX3_isSame 701 = .ok (.iload 5, 2) := by decide +kernel
theorem dX3_isSame_703 : decode cX3_isSame 703 = .ok (.i2d, 1) := by decide +kernel
theorem dX3_isSame_704 : decode cX3_isSame 704 = .ok (.iload_n 2, 1) := by decide +kernel
theorem dX3_isSame_705 : decode cX3_isSame 705 = .ok (.iload_n 3, 1) := by decide +kernel
theorem dX3_isSame_706 : decode cX3_isSame 706 = .ok (.iadd, 1) := by decide +kernel
theorem dX3_isSame_707 : decode cX3_isSame 707 = .ok (.i2d, 1) := by decide +kernel
theorem dX3_isSame_708 : decode cX3_isSame 708 = .ok (.ddiv, 1) := by decide +kernel
theorem dX3_isSame_709 : decode cX3_isSame 709 = .ok (.dcmp .l, 1) := by decide +kernel
theorem dX3_isSame_710 : decode cX3_isSame 710 = .ok (.ifCond .ne 7, 3) := by decide +kernel
theorem dX3_isSame_713 : decode cX3_isSame 713 = .ok (.iconst 1, 1) := by decide +kernel
theorem dX3_isSame_714 : decode cX3_isSame 714 = .ok (.goto 4, 3) := by decide +kernel
theorem dX3_isSame_717 : decode cX3_isSame 717 = .ok (.iconst 0, 1) := by decide +kernel
theorem dX3_isSame_718 : decode cX3_isSame 718 = .ok (.ireturn, 1) := by decide +kernel
theorem dJ9_abs_0f7a4_0 : decode cJ9_abs_0f7a4 0 = .ok (.iload_n 0, 1) := by decide +kernel
theorem dJ9_abs_0f7a4_1 : decode cJ9_abs_0f7a4 1 = .ok (.ifCond .ge 8, 3) := by decide +kernel
theorem dJ9_abs_0f7a4_4 : decode cJ9_abs_0f7a4 4 = .ok (.iload_n 0, 1) := by decide +kernel
theorem dJ9_abs_0f7a4_5 : decode cJ9_abs_0f7a4 5 = .ok (.ineg, 1) := by decide +kernel
theorem dJ9_abs_0f7a4_6 : decode cJ9_abs_0f7a4 6 = .ok (.goto 4, 3) := by decide +kernel
theorem dJ9_abs_0f7a4_9 : decode cJ9_abs_0f7a4 9 = .ok (.iload_n 0, 1) := by decide +kernel
theorem dJ9_abs_0f7a4_10 : decode cJ9_abs_0f7a4 10 = .ok (.ireturn, 1) := by decide +kernel
theorem dJ9_max_7cf53_0 : decode cJ9_max_7cf53 0 = .ok (.iload_n 0, 1) := by decide +kernel
theorem dJ9_max_7cf53_1 : decode cJ9_max_7cf53 1 = .ok (.iload_n 1, 1) := by decide +kernel
theorem dJ9_max_7cf53_2 : decode cJ9_max_7cf53 2 = .ok (.if_icmp .lt 7, 3) := by decide +kernel
theorem dJ9_max_7cf53_5 : decode cJ9_max_7cf53 5 = .ok (.iload_n 0, 1) := by decide +kernel
theorem dJ9_max_7cf53_6 : decode cJ9_max_7cf53 6 = .ok (.goto 4, 3) := by decide +kernel
theorem dJ9_max_7cf53_9 : decode cJ9_max_7cf53 9 = .ok (.iload_n 1, 1) := by decide +kernel
theorem dJ9_max_7cf53_10 : decode cJ9_max_7cf53 10 = .ok (.ireturn, 1) := by decide +kernel
theorem dJ9_min_7cf53_0 : decode cJ9_min_7cf53 0 = .ok (.iload_n 0, 1) := by decide +kernel
theorem dJ9_min_7cf53_1 : decode cJ9_min_7cf53 1 = .ok (.iload_n 1, 1) := by decide +kernel
theorem dJ9_min_7cf53_2 : decode cJ9_min_7cf53 2 = .ok (.if_icmp .gt 7, 3) := by decide +kernel
theorem dJ9_min_7cf53_5 : decode cJ9_min_7cf53 5 = .ok (.iload_n 0, 1) := by decide +kernel
theorem dJ9_min_7cf53_6 : decode cJ9_min_7cf53 6 = .ok (.goto 4, 3) := by decide +kernel
theorem dJ9_min_7cf53_9 : decode cJ9_min_7cf53 9 = .ok (.iload_n 1, 1) := by decide +kernel
theorem dJ9_min_7cf53_10 : decode cJ9_min_7cf53 10 = .ok (.ireturn, 1) := by decide +kernel
theorem dJxa1e45_init_da8c8_0 : decode cJxa1e45_init_da8c8 0 = .ok (.aload_n 0, 1) := by decide +kernel
theorem dJxa1e45_init_da8c8_1 : decode cJxa1e45_init_da8c8 1 = .ok (.invokespecial 1, 3) := by decide +kernel
theorem dJxa1e45_init_da8c8_4 : decode cJxa1e45_init_da8c8 4 = .ok (.return_, 1) := by decide +kernel
set_option maxRecDepth 20000 in
theorem ggJxc12de_init_da8c8_Jxa1e45_init_da8c8 : GoodIn wsJxc12de_init_da8c8 wsJxa1e45_init_da8c8 := goodIn_r _ [5, 6, 7, 8] (by decide +kernel) (by decide +kernel)
set_option maxRecDepth 20000 in
theorem gJxc12de_init_da8c8_Jxa1e45_init_da8c8 : GoodIn wsJxc12de_init_da8c8 (wsJxa1e45_init_da8c8) := ggJxc12de_init_da8c8_Jxa1e45_init_da8c8
theorem dJxc12de_init_da8c8_0 : decode cJxc12de_init_da8c8 0 = .ok (.aload_n 0, 1) := by decide +kernel
theorem dJxc12de_init_da8c8_1 : decode cJxc12de_init_da8c8 1 = .ok (.invokespecial 1, 3) := by decide +kernel
theorem dJxc12de_init_da8c8_4 : decode cJxc12de_init_da8c8 4 = .ok (.aload_n 0, 1) := by decide +kernel
theorem dJxc12de_init_da8c8_5 : decode cJxc12de_init_da8c8 5 = .ok (.iconst 0, 1) := by decide +kernel
theorem dJxc12de_init_da8c8_6 : decode cJxc12de_init_da8c8 6 = .ok (.putfield 7, 3) := by decide +kernel
theorem dJxc12de_init_da8c8_9 : decode cJxc12de_init_da8c8 9 = .ok (.return_, 1) := by decide +kernel
set_option maxRecDepth 20000 in
theorem ggJx4a65c_init_da8c8_Jxc12de_init_da8c8 : GoodIn wsJx4a65c_init_da8c8 wsJxc12de_init_da8c8 := goodIn_r _ [6, 7, 8, 9, 10, 11, 12, 13, 14, 15, 16, 17] (by decide +kernel) (by decide +kernel)
set_option maxRecDepth 20000 in
theorem gJx4a65c_init_da8c8_Jxc12de_init_da8c8 : GoodIn wsJx4a65c_init_da8c8 (wsJxc12de_init_da8c8) := ggJx4a65c_init_da8c8_Jxc12de_init_da8c8
theorem dJx4a65c_init_da8c8_0 : decode cJx4a65c_init_da8c8 0 = .ok (.aload_n 0, 1) := by decide +kernel
theorem dJx4a65c_init_da8c8_1 : decode cJx4a65c_init_da8c8 1 = .ok (.invokespecial 1, 3) := by decide +kernel
theorem dJx4a65c_init_da8c8_4 : decode cJx4a65c_init_da8c8 4 = .ok (.aload_n 0, 1) := by decide +kernel
theorem dJx4a65c_init_da8c8_5 : decode cJx4a65c_init_da8c8 5 = .ok (.getstatic 39, 3) := by decide +kernel
theorem dJx4a65c_init_da8c8_8 : decode cJx4a65c_init_da8c8 8 = .ok (.putfield 9, 3) := by decide +kernel
theorem dJx4a65c_init_da8c8_11 : decode cJx4a65c_init_da8c8 11 = .ok (.return_, 1) := by decide +kernel
set_option maxRecDepth 20000 in
theorem ggJx4a65c_grow_92f84_J8_newLength_cabcc : GoodIn wsJx4a65c_grow_92f84 wsJ8_newLength_cabcc := goodIn_r _ [11, 12, 4, 5, 6, 13, 14, 15, 10, 16] (by decide +kernel) (by decide +kernel)
set_option maxRecDepth 20000 in
theorem gJx4a65c_grow_92f84_J8_newLength_cabcc : GoodIn wsJx4a65c_grow_92f84 (va_wsS RJx4a65c 73 yJ8_newLength_cabcc wsJ8_newLength_cabcc) := goodIn_app (goodIn_of _ (by decide +kernel)) ggJx4a65c_grow_92f84_J8_newLength_cabcc
set_option maxRecDepth 20000 in
theorem ggJx4a65c_grow_92f84_J7_copyOf_1904c : GoodIn wsJx4a65c_grow_92f84 wsJ7_copyOf_1904c := goodIn_r _ [20, 21, 22, 23, 24, 25, 26, 19, 27, 28, 29, 30, 31, 5, 32, 33, 34, 35, 36] (by decide +kernel) (by decide +kernel)
set_option maxRecDepth 20000 in
theorem gJx4a65c_grow_92f84_J7_copyOf_1904c : GoodIn wsJx4a65c_grow_92f84 (va_wsS RJx4a65c 66 yJ7_copyOf_1904c wsJ7_copyOf_1904c) := goodIn_app (goodIn_of _ (by decide +kernel)) ggJx4a65c_grow_92f84_J7_copyOf_1904c
theorem dJx4a65c_grow_92f84_0 : decode cJx4a65c_grow_92f84 0 = .ok (.aload_n 0, 1) := by decide +kernel
theorem dJx4a65c_grow_92f84_1 : decode cJx4a65c_grow_92f84 1 = .ok (.getfield 9, 3) := by decide +kernel
theorem dJx4a65c_grow_92f84_4 : decode cJx4a65c_grow_92f84 4 = .ok (.arraylength, 1) := by decide +kernel
theorem dJx4a65c_grow_92f84_5 : decode cJx4a65c_grow_92f84 5 = .ok (.istore_n 2, 1) := by decide +kernel
theorem dJx4a65c_grow_92f84_6 : decode cJx4a65c_grow_92f84 6 = .ok (.iload_n 2, 1) := by decide +kernel
theorem dJx4a65c_grow_92f84_7 : decode cJx4a65c_grow_92f84 7 = .ok (.ifCond .gt 13, 3) := by decide +kernel
theorem dJx4a65c_grow_92f84_10 : decode cJx4a65c_grow_92f84 10 = .ok (.aload_n 0, 1) := by decide +kernel
theorem dJx4a65c_grow_92f84_11 : decode cJx4a65c_grow_92f84 11 = .ok (.getfield 9, 3) := by decide +kernel
theorem dJx4a65c_grow_92f84_14 : decode cJx4a65c_grow_92f84 14 = .ok (.getstatic 39, 3) := by decide +kernel
theorem dJx4a65c_grow_92f84_17 : decode cJx4a65c_grow_92f84 17 = .ok (.if_acmp .eq 28, 3) := by decide +kernel
theorem dJx4a65c_grow_92f84_20 : decode cJx4a65c_grow_92f84 20 = .ok (.iload_n 2, 1) := by decide +kernel
theorem dJx4a65c_grow_92f84_21 : decode cJx4a65c_grow_92f84 21 = .ok (.iload_n 1, 1) := by decide +kernel
theorem dJx4a65c_grow_92f84_22 : decode cJx4a65c_grow_92f84 22 = .ok (.iload_n 2, 1) := by decide +kernel
theorem dJx4a65c_grow_92f84_23 : decode cJx4a65c_grow_92f84 23 = .ok (.isub, 1) := by decide +kernel
theorem dJx4a65c_grow_92f84_24 : decode cJx4a65c_grow_92f84 24 = .ok (.iload_n 2, 1) := by decide +kernel
theorem dJx4a65c_grow_92f84_25 : decode cJx4a65c_grow_92f84 25 = .ok (.iconst 1, 1) := by decide +kernel
theorem dJx4a65c_grow_92f84_26 : decode cJx4a65c_grow_92f84 26 = .ok (.ishr, 1) := by decide +kernel
theorem dJx4a65c_grow_92f84_27 : decode cJx4a65c_grow_92f84 27 = .ok (.invokestatic 73, 3) := by decide +kernel
theorem dJx4a65c_grow_92f84_30 : decode cJx4a65c_grow_92f84 30 = .ok (.istore_n 3, 1) := by decide +kernel
theorem dJx4a65c_grow_92f84_31 : decode cJx4a65c_grow_92f84 31 = .ok (.aload_n 0, 1) := by decide +kernel
theorem dJx4a65c_grow_92f84_32 : decode cJx4a65c_grow_92f84 32 = .ok (.aload_n 0, 1) := by decide +kernel
theorem dJx4a65c_grow_92f84_33 : decode cJx4a65c_grow_92f84 33 = .ok (.getfield 9, 3) := by decide +kernel
theorem dJx4a65c_grow_92f84_36 : decode cJx4a65c_grow_92f84 36 = .ok (.iload_n 3, 1) := by decide +kernel
theorem dJx4a65c_grow_92f84_37 : decode cJx4a65c_grow_92f84 37 = .ok (.invokestatic 66, 3) := by decide +kernel
theorem dJx4a65c_grow_92f84_40 : decode cJx4a65c_grow_92f84 40 = .ok (.dup_x1, 1) := by decide +kernel
theorem dJx4a65c_grow_92f84_41 : decode cJx4a65c_grow_92f84 41 = .ok (.putfield 9, 3) := by decide +kernel
theorem dJx4a65c_grow_92f84_44 : decode cJx4a65c_grow_92f84 44 = .ok (.areturn, 1) := by decide +kernel
theorem dJx4a65c_grow_92f84_45 : decode cJx4a65c_grow_92f84 45 = .ok (.aload_n 0, 1) := by decide +kernel
theorem dJx4a65c_grow_92f84_46 : decode cJx4a65c_grow_92f84 46 = .ok (.bipush 10, 2) := by decide +kernel
theorem dJx4a65c_grow_92f84_48 : decode cJx4a65c_grow_92f84 48 = .ok (.iload_n 1, 1) := by decide +kernel
theorem dJx4a65c_grow_92f84_49 : decode cJx4a65c_grow_92f84 49 = .ok (.invokestatic 79, 3) := by decide +kernel
theorem dJx4a65c_grow_92f84_52 : decode cJx4a65c_grow_92f84 52 = .ok (.anewarray 7, 3) := by decide +kernel
theorem dJx4a65c_grow_92f84_55 : decode cJx4a65c_grow_92f84 55 = .ok (.dup_x1, 1) := by decide +kernel
theorem dJx4a65c_grow_92f84_56 : decode cJx4a65c_grow_92f84 56 = .ok (.putfield 9, 3) := by decide +kernel
theorem dJx4a65c_grow_92f84_59 : decode cJx4a65c_grow_92f84 59 = .ok (.areturn, 1) := by decide +kernel
set_option maxRecDepth 20000 in
theorem ggJx4a65c_grow_d5877_Jx4a65c_grow_92f84 : GoodIn wsJx4a65c_grow_d5877 wsJx4a65c_grow_92f84 := goodIn_r _ [6, 7, 8, 9, 10, 11, 12, 13, 14, 15, 16, 17, 18, 19, 20, 21, 22, 23, 24, 25, 26, 27, 28, 29, 30, 31, 32, 33, 34, 35, 36, 37, 38, 39, 40, 41, 42, 43, 44, 45] (by decide +kernel) (by decide +kernel)
set_option maxRecDepth 20000 in
theorem gJx4a65c_grow_d5877_Jx4a65c_grow_92f84 : GoodIn wsJx4a65c_grow_d5877 (wsV RJx4a65c 69 RJx4a65c yJx4a65c_grow_92f84 wsJx4a65c_grow_92f84) := goodIn_app (goodIn_of _ (by decide +kernel)) ggJx4a65c_grow_d5877_Jx4a65c_grow_92f84
theorem dJx4a65c_grow_d5877_0 : decode cJx4a65c_grow_d5877 0 = .ok (.aload_n 0, 1) := by decide +kernel
theorem dJx4a65c_grow_d5877_1 : decode cJx4a65c_grow_d5877 1 = .ok (.aload_n 0, 1) := by decide +kernel
theorem dJx4a65c_grow_d5877_2 : decode cJx4a65c_grow_d5877 2 = .ok (.getfield 48, 3) := by decide +kernel
theorem dJx4a65c_grow_d5877_5 : decode cJx4a65c_grow_d5877 5 = .ok (.iconst 1, 1) := by decide +kernel
theorem dJx4a65c_grow_d5877_6 : decode cJx4a65c_grow_d5877 6 = .ok (.iadd, 1) := by decide +kernel
theorem dJx4a65c_grow_d5877_7 : decode cJx4a65c_grow_d5877 7 = .ok (.invokevirtual 69, 3) := by decide +kernel
theorem dJx4a65c_grow_d5877_10 : decode cJx4a65c_grow_d5877 10 = .ok (.areturn, 1) := by decide +kernel
theorem dJx4a65c_size_8abf5_0 : decode cJx4a65c_size_8abf5 0 = .ok (.aload_n 0, 1) := by decide +kernel
theorem dJx4a65c_size_8abf5_1 : decode cJx4a65c_size_8abf5 1 = .ok (.getfield 48, 3) := by decide +kernel
theorem dJx4a65c_size_8abf5_4 : decode cJx4a65c_size_8abf5 4 = .ok (.ireturn, 1) := by decide +kernel
theorem dJx4a65c_elementData_915e3_0 : decode cJx4a65c_elementData_915e3 0 = .ok (.aload_n 0, 1) := by decide +kernel
theorem dJx4a65c_elementData_915e3_1 : decode cJx4a65c_elementData_915e3 1 = .ok (.getfield 9, 3) := by decide +kernel
theorem dJx4a65c_elementData_915e3_4 : decode cJx4a65c_elementData_915e3 4 = .ok (.iload_n 1, 1) := by decide +kernel
theorem dJx4a65c_elementData_915e3_5 : decode cJx4a65c_elementData_915e3 5 = .ok (.aaload, 1) := by decide +kernel
theorem dJx4a65c_elementData_915e3_6 : decode cJx4a65c_elementData_915e3 6 = .ok (.areturn, 1) := by decide +kernel
set_option maxRecDepth 20000 in
theorem ggJx4a65c_get_915e3_J15_checkIndex_7cf53 : GoodIn wsJx4a65c_get_915e3 wsJ15_checkIndex_7cf53 := goodIn_r _ [5, 6, 7, 8, 9] (by decide +kernel) (by decide +kernel)
set_option maxRecDepth 20000 in
theorem gJx4a65c_get_915e3_J15_checkIndex_7cf53 : GoodIn wsJx4a65c_get_915e3 (va_wsS RJx4a65c 118 yJ15_checkIndex_7cf53 wsJ15_checkIndex_7cf53) := goodIn_app (goodIn_of _ (by decide +kernel)) ggJx4a65c_get_915e3_J15_checkIndex_7cf53
set_option maxRecDepth 20000 in
theorem ggJx4a65c_get_915e3_Jx4a65c_elementData_915e3 : GoodIn wsJx4a65c_get_915e3 wsJx4a65c_elementData_915e3 := goodIn_r _ [14, 15, 16, 17, 18] (by decide +kernel) (by decide +kernel)
set_option maxRecDepth 20000 in
theorem gJx4a65c_get_915e3_Jx4a65c_elementData_915e3 : GoodIn wsJx4a65c_get_915e3 (wsV RJx4a65c 123 RJx4a65c yJx4a65c_elementData_915e3 wsJx4a65c_elementData_915e3) := goodIn_app (goodIn_of _ (by decide +kernel)) ggJx4a65c_get_915e3_Jx4a65c_elementData_915e3
theorem dJx4a65c_get_915e3_0 : decode cJx4a65c_get_915e3 0 = .ok (.iload_n 1, 1) := by decide +kernel
theorem dJx4a65c_get_915e3_1 : decode cJx4a65c_get_915e3 1 = .ok (.aload_n 0, 1) := by decide +kernel
theorem dJx4a65c_get_915e3_2 : decode cJx4a65c_get_915e3 2 = .ok (.getfield 48, 3) := by decide +kernel
theorem dJx4a65c_get_915e3_5 : decode cJx4a65c_get_915e3 5 = .ok (.invokestatic 118, 3) := by decide +kernel
theorem dJx4a65c_get_915e3_8 : decode cJx4a65c_get_915e3 8 = .ok (.pop, 1) := by decide +kernel
theorem dJx4a65c_get_915e3_9 : decode cJx4a65c_get_915e3 9 = .ok (.aload_n 0, 1) := by decide +kernel
theorem dJx4a65c_get_915e3_10 : decode cJx4a65c_get_915e3 10 = .ok (.iload_n 1, 1) := by decide +kernel
theorem dJx4a65c_get_915e3_11 : decode cJx4a65c_get_915e3 11 = .ok (.invokevirtual 123, 3) := by decide +kernel
theorem dJx4a65c_get_915e3_14 : decode cJx4a65c_get_915e3 14 = .ok (.areturn, 1) := by decide +kernel
set_option maxRecDepth 20000 in
theorem ggJx4a65c_add_72be8_Jx4a65c_grow_d5877 : GoodIn wsJx4a65c_add_72be8 wsJx4a65c_grow_d5877 := goodIn_r _ [6, 1, 7, 8, 9, 5, 10, 11, 12, 13, 14, 15, 16, 17, 18, 19, 20, 21, 22, 23, 24, 25, 26, 27, 28, 29, 30, 31, 32, 33, 34, 35, 36, 37, 38, 39, 40, 41, 42, 43, 44, 45, 46, 47, 48, 49] (by decide +kernel) (by decide +kernel)
set_option maxRecDepth 20000 in
theorem gJx4a65c_add_72be8_Jx4a65c_grow_d5877 : GoodIn wsJx4a65c_add_72be8 (wsV RJx4a65c 129 RJx4a65c yJx4a65c_grow_d5877 wsJx4a65c_grow_d5877) := goodIn_app (goodIn_of _ (by decide +kernel)) ggJx4a65c_add_72be8_Jx4a65c_grow_d5877
theorem dJx4a65c_add_72be8_0 : decode cJx4a65c_add_72be8 0 = .ok (.iload_n 3, 1) := by decide +kernel
theorem dJx4a65c_add_72be8_1 : decode cJx4a65c_add_72be8 1 = .ok (.aload_n 2, 1) := by decide +kernel
theorem dJx4a65c_add_72be8_2 : decode cJx4a65c_add_72be8 2 = .ok (.arraylength, 1) := by decide +kernel
theorem dJx4a65c_add_72be8_3 : decode cJx4a65c_add_72be8 3 = .ok (.if_icmp .ne 8, 3) := by decide +kernel
theorem dJx4a65c_add_72be8_6 : decode cJx4a65c_add_72be8 6 = .ok (.aload_n 0, 1) := by decide +kernel
theorem dJx4a65c_add_72be8_7 : decode cJx4a65c_add_72be8 7 = .ok (.invokevirtual 129, 3) := by decide +kernel
theorem dJx4a65c_add_72be8_10 : decode cJx4a65c_add_72be8 10 = .ok (.astore_n 2, 1) := by decide +kernel
theorem dJx4a65c_add_72be8_11 : decode cJx4a65c_add_72be8 11 = .ok (.aload_n 2, 1) := by decide +kernel
theorem dJx4a65c_add_72be8_12 : decode cJx4a65c_add_72be8 12 = .ok (.iload_n 3, 1) := by decide +kernel
theorem dJx4a65c_add_72be8_13 : decode cJx4a65c_add_72be8 13 = .ok (.aload_n 1, 1) := by decide +kernel
theorem dJx4a65c_add_72be8_14 : decode cJx4a65c_add_72be8 14 = .ok (.aastore, 1) := by decide +kernel
theorem dJx4a65c_add_72be8_15 : decode cJx4a65c_add_72be8 15 = .ok (.aload_n 0, 1) := by decide +kernel
theorem dJx4a65c_add_72be8_16 : decode cJx4a65c_add_72be8 16 = .ok (.iload_n 3, 1) := by decide +kernel
theorem dJx4a65c_add_72be8_17 : decode cJx4a65c_add_72be8 17 = .ok (.iconst 1, 1) := by decide +kernel
theorem dJx4a65c_add_72be8_18 : decode cJx4a65c_add_72be8 18 = .ok (.iadd, 1) := by decide +kernel
theorem dJx4a65c_add_72be8_19 : decode cJx4a65c_add_72be8 19 = .ok (.putfield 48, 3) := by decide +kernel
theorem dJx4a65c_add_72be8_22 : decode cJx4a65c_add_72be8 22 = .ok (.return_, 1) := by decide +kernel
set_option maxRecDepth 20000 in
theorem ggJx4a65c_add_9ea2d_Jx4a65c_add_72be8 : GoodIn wsJx4a65c_add_9ea2d wsJx4a65c_add_72be8 := goodIn_r _ [9, 4, 10, 11, 12, 8, 13, 14, 15, 16, 17, 3, 18, 19, 20, 21, 22, 23, 24, 25, 26, 27, 28, 29, 30, 31, 32, 33, 34, 35, 36, 37, 38, 39, 40, 41, 42, 43, 44, 45, 46, 47, 48, 49, 50, 51, 52, 53, 54, 55] (by decide +kernel) (by decide +kernel)
set_option maxRecDepth 20000 in
theorem gJx4a65c_add_9ea2d_Jx4a65c_add_72be8 : GoodIn wsJx4a65c_add_9ea2d (wsV RJx4a65c 131 RJx4a65c yJx4a65c_add_72be8 wsJx4a65c_add_72be8) := goodIn_app (goodIn_of _ (by decide +kernel)) ggJx4a65c_add_9ea2d_Jx4a65c_add_72be8
theorem dJx4a65c_add_9ea2d_0 : decode cJx4a65c_add_9ea2d 0 = .ok (.aload_n 0, 1) := by decide +kernel
theorem dJx4a65c_add_9ea2d_1 : decode cJx4a65c_add_9ea2d 1 = .ok (.dup, 1) := by decide +kernel
theorem dJx4a65c_add_9ea2d_2 : decode cJx4a65c_add_9ea2d 2 = .ok (.getfield 63, 3) := by decide +kernel
theorem dJx4a65c_add_9ea2d_5 : decode cJx4a65c_add_9ea2d 5 = .ok (.iconst 1, 1) := by decide +kernel
theorem dJx4a65c_add_9ea2d_6 : decode cJx4a65c_add_9ea2d 6 = .ok (.iadd, 1) := by decide +kernel
theorem dJx4a65c_add_9ea2d_7 : decode cJx4a65c_add_9ea2d 7 = .ok (.putfield 63, 3) := by decide +kernel
theorem dJx4a65c_add_9ea2d_10 : decode cJx4a65c_add_9ea2d 10 = .ok (.aload_n 0, 1) := by decide +kernel
theorem dJx4a65c_add_9ea2d_11 : decode cJx4a65c_add_9ea2d 11 = .ok (.aload_n 1, 1) := by decide +kernel
theorem dJx4a65c_add_9ea2d_12 : decode cJx4a65c_add_9ea2d 12 = .ok (.aload_n 0, 1) := by decide +kernel
theorem dJx4a65c_add_9ea2d_13 : decode cJx4a65c_add_9ea2d 13 = .ok (.getfield 9, 3) := by decide +kernel
theorem dJx4a65c_add_9ea2d_16 : decode cJx4a65c_add_9ea2d 16 = .ok (.aload_n 0, 1) := by decide +kernel
theorem dJx4a65c_add_9ea2d_17 : decode cJx4a65c_add_9ea2d 17 = .ok (.getfield 48, 3) := by decide +kernel
theorem dJx4a65c_add_9ea2d_20 : decode cJx4a65c_add_9ea2d 20 = .ok (.invokevirtual 131, 3) := by decide +kernel
theorem dJx4a65c_add_9ea2d_23 : decode cJx4a65c_add_9ea2d 23 = .ok (.iconst 1, 1) := by decide +kernel
theorem dJx4a65c_add_9ea2d_24 : decode cJx4a65c_add_9ea2d 24 = .ok (.ireturn, 1) := by decide +kernel
set_option maxRecDepth 20000 in
theorem ggJ7_copyOf_1904c_J7_copyOf_6403c : GoodIn wsJ7_copyOf_1904c wsJ7_copyOf_6403c := goodIn_r _ [8, 9, 10, 11, 12, 13, 14, 15, 16, 17, 18] (by decide +kernel) (by decide +kernel)
set_option maxRecDepth 20000 in
theorem gJ7_copyOf_1904c_J7_copyOf_6403c : GoodIn wsJ7_copyOf_1904c (va_wsS RJ7 300 yJ7_copyOf_6403c wsJ7_copyOf_6403c) := goodIn_app (goodIn_of _ (by decide +kernel)) ggJ7_copyOf_1904c_J7_copyOf_6403c
theorem dJ7_copyOf_1904c_0 : decode cJ7_copyOf_1904c 0 = .ok (.aload_n 0, 1) := by decide +kernel
theorem dJ7_copyOf_1904c_1 : decode cJ7_copyOf_1904c 1 = .ok (.iload_n 1, 1) := by decide +kernel
theorem dJ7_copyOf_1904c_2 : decode cJ7_copyOf_1904c 2 = .ok (.aload_n 0, 1) := by decide +kernel
theorem dJ7_copyOf_1904c_3 : decode cJ7_copyOf_1904c 3 = .ok (.invokevirtual 86, 3) := by decide +kernel
theorem dJ7_copyOf_1904c_6 : decode cJ7_copyOf_1904c 6 = .ok (.invokestatic 300, 3) := by decide +kernel
theorem dJ7_copyOf_1904c_9 : decode cJ7_copyOf_1904c 9 = .ok (.areturn, 1) := by decide +kernel
theorem dJ7_copyOf_6403c_0 : decode cJ7_copyOf_6403c 0 = .ok (.aload_n 2, 1) := by decide +kernel
theorem dJ7_copyOf_6403c_1 : decode cJ7_copyOf_6403c 1 = .ok (.ldc 110, 2) := by decide +kernel
theorem dJ7_copyOf_6403c_3 : decode cJ7_copyOf_6403c 3 = .ok (.if_acmp .ne 10, 3) := by decide +kernel
theorem dJ7_copyOf_6403c_6 : decode cJ7_copyOf_6403c 6 = .ok (.iload_n 1, 1) := by decide +kernel
theorem dJ7_copyOf_6403c_7 : decode cJ7_copyOf_6403c 7 = .ok (.anewarray 2, 3) := by decide +kernel
theorem dJ7_copyOf_6403c_10 : decode cJ7_copyOf_6403c 10 = .ok (.goto 14, 3) := by decide +kernel
theorem dJ7_copyOf_6403c_13 : decode cJ7_copyOf_6403c 13 = .ok (.aload_n 2, 1) := by decide +kernel
theorem dJ7_copyOf_6403c_14 : decode cJ7_copyOf_6403c 14 = .ok (.invokevirtual 90, 3) := by decide +kernel
theorem dJ7_copyOf_6403c_17 : decode cJ7_copyOf_6403c 17 = .ok (.iload_n 1, 1) := by decide +kernel
theorem dJ7_copyOf_6403c_18 : decode cJ7_copyOf_6403c 18 = .ok (.invokestatic 95, 3) := by decide +kernel
theorem dJ7_copyOf_6403c_21 : decode cJ7_copyOf_6403c 21 = .ok (.checkcast 110, 3) := by decide +kernel
theorem dJ7_copyOf_6403c_24 : decode cJ7_copyOf_6403c 24 = .ok (.astore_n 3, 1) := by decide +kernel
theorem dJ7_copyOf_6403c_25 : decode cJ7_copyOf_6403c 25 = .ok (.aload_n 0, 1) := by decide +kernel
theorem dJ7_copyOf_6403c_26 : decode cJ7_copyOf_6403c 26 = .ok (.iconst 0, 1) := by decide +kernel
theorem dJ7_copyOf_6403c_27 : decode cJ7_copyOf_6403c 27 = .ok (.aload_n 3, 1) := by decide +kernel
theorem dJ7_copyOf_6403c_28 : decode cJ7_copyOf_6403c 28 = .ok (.iconst 0, 1) := by decide +kernel
theorem dJ7_copyOf_6403c_29 : decode cJ7_copyOf_6403c 29 = .ok (.aload_n 0, 1) := by decide +kernel
theorem dJ7_copyOf_6403c_30 : decode cJ7_copyOf_6403c 30 = .ok (.arraylength, 1) := by decide +kernel
theorem dJ7_copyOf_6403c_31 : decode cJ7_copyOf_6403c 31 = .ok (.iload_n 1, 1) := by decide +kernel
theorem dJ7_copyOf_6403c_32 : decode cJ7_copyOf_6403c 32 = .ok (.invokestatic 304, 3) := by decide +kernel
theorem dJ7_copyOf_6403c_35 : decode cJ7_copyOf_6403c 35 = .ok (.invokestatic 150, 3) := by decide +kernel
theorem dJ7_copyOf_6403c_38 : decode cJ7_copyOf_6403c 38 = .ok (.aload_n 3, 1) := by decide +kernel
theorem dJ7_copyOf_6403c_39 : decode cJ7_copyOf_6403c 39 = .ok (.areturn, 1) := by decide +kernel
theorem dJ7_copyOf_59c91_0 : decode cJ7_copyOf_59c91 0 = .ok (.iload_n 1, 1) := by decide +kernel
theorem dJ7_copyOf_59c91_1 : decode cJ7_copyOf_59c91 1 = .ok (.aload_n 0, 1) := by decide +kernel
theorem dJ7_copyOf_59c91_2 : decode cJ7_copyOf_59c91 2 = .ok (.arraylength, 1) := by decide +kernel
theorem dJ7_copyOf_59c91_3 : decode cJ7_copyOf_59c91 3 = .ok (.if_icmp .ne 11, 3) := by decide +kernel
theorem dJ7_copyOf_59c91_6 : decode cJ7_copyOf_59c91 6 = .ok (.aload_n 0, 1) := by decide +kernel
theorem dJ7_copyOf_59c91_7 : decode cJ7_copyOf_59c91 7 = .ok (.invokevirtual 316, 3) := by decide +kernel
theorem dJ7_copyOf_59c91_10 : decode cJ7_copyOf_59c91 10 = .ok (.checkcast 317, 3) := by decide +kernel
theorem dJ7_copyOf_59c91_13 : decode cJ7_copyOf_59c91 13 = .ok (.areturn, 1) := by decide +kernel
theorem dJ7_copyOf_59c91_14 : decode cJ7_copyOf_59c91 14 = .ok (.iload_n 1, 1) := by decide +kernel
theorem dJ7_copyOf_59c91_15 : decode cJ7_copyOf_59c91 15 = .ok (.newarray .int, 2) := by decide +kernel
theorem dJ7_copyOf_59c91_17 : decode cJ7_copyOf_59c91 17 = .ok (.astore_n 2, 1) := by decide +kernel
theorem dJ7_copyOf_59c91_18 : decode cJ7_copyOf_59c91 18 = .ok (.aload_n 0, 1) := by decide +kernel
theorem dJ7_copyOf_59c91_19 : decode cJ7_copyOf_59c91 19 = .ok (.iconst 0, 1) := by decide +kernel
theorem dJ7_copyOf_59c91_20 : decode cJ7_copyOf_59c91 20 = .ok (.aload_n 2, 1) := by decide +kernel
theorem dJ7_copyOf_59c91_21 : decode cJ7_copyOf_59c91 21 = .ok (.iconst 0, 1) := by decide +kernel
theorem dJ7_copyOf_59c91_22 : decode cJ7_copyOf_59c91 22 = .ok (.aload_n 0, 1) := by decide +kernel
theorem dJ7_copyOf_59c91_23 : decode cJ7_copyOf_59c91 23 = .ok (.arraylength, 1) := by decide +kernel
theorem dJ7_copyOf_59c91_24 : decode cJ7_copyOf_59c91 24 = .ok (.iload_n 1, 1) := by decide +kernel
theorem dJ7_copyOf_59c91_25 : decode cJ7_copyOf_59c91 25 = .ok (.invokestatic 304, 3) := by decide +kernel
theorem dJ7_copyOf_59c91_28 : decode cJ7_copyOf_59c91 28 = .ok (.invokestatic 150, 3) := by decide +kernel
theorem dJ7_copyOf_59c91_31 : decode cJ7_copyOf_59c91 31 = .ok (.aload_n 2, 1) := by decide +kernel
theorem dJ7_copyOf_59c91_32 : decode cJ7_copyOf_59c91 32 = .ok (.areturn, 1) := by decide +kernel
set_option maxRecDepth 20000 in
theorem ggJ15_checkIndex_7cf53_J3_checkIndex_8e157 : GoodIn wsJ15_checkIndex_7cf53 wsJ3_checkIndex_8e157 := goodIn_r _ [4] (by decide +kernel) (by decide +kernel)
set_option maxRecDepth 20000 in
theorem gJ15_checkIndex_7cf53_J3_checkIndex_8e157 : GoodIn wsJ15_checkIndex_7cf53 (va_wsS RJ15 105 yJ3_checkIndex_8e157 wsJ3_checkIndex_8e157) := goodIn_app (goodIn_of _ (by decide +kernel)) ggJ15_checkIndex_7cf53_J3_checkIndex_8e157
theorem dJ15_checkIndex_7cf53_0 : decode cJ15_checkIndex_7cf53 0 = .ok (.iload_n 0, 1) := by decide +kernel
theorem dJ15_checkIndex_7cf53_1 : decode cJ15_checkIndex_7cf53 1 = .ok (.iload_n 1, 1) := by decide +kernel
theorem dJ15_checkIndex_7cf53_2 : decode cJ15_checkIndex_7cf53 2 = .ok (.aconst_null, 1) := by decide +kernel
theorem dJ15_checkIndex_7cf53_3 : decode cJ15_checkIndex_7cf53 3 = .ok (.invokestatic 105, 3) := by decide +kernel
theorem dJ15_checkIndex_7cf53_6 : decode cJ15_checkIndex_7cf53 6 = .ok (.ireturn, 1) := by decide +kernel
set_option maxRecDepth 20000 in
theorem ggJ8_newLength_cabcc_J8_hugeLength_7cf53 : GoodIn wsJ8_newLength_cabcc wsJ8_hugeLength_7cf53 := goodIn_r _ [9, 5] (by decide +kernel) (by decide +kernel)
set_option maxRecDepth 20000 in
theorem gJ8_newLength_cabcc_J8_hugeLength_7cf53 : GoodIn wsJ8_newLength_cabcc (va_wsS RJ8 201 yJ8_hugeLength_7cf53 wsJ8_hugeLength_7cf53) := goodIn_app (goodIn_of _ (by decide +kernel)) ggJ8_newLength_cabcc_J8_hugeLength_7cf53
theorem dJ8_newLength_cabcc_0 : decode cJ8_newLength_cabcc 0 = .ok (.iload_n 0, 1) := by decide +kernel
theorem dJ8_newLength_cabcc_1 : decode cJ8_newLength_cabcc 1 = .ok (.iload_n 1, 1) := by decide +kernel
theorem dJ8_newLength_cabcc_2 : decode cJ8_newLength_cabcc 2 = .ok (.iload_n 2, 1) := by decide +kernel
theorem dJ8_newLength_cabcc_3 : decode cJ8_newLength_cabcc 3 = .ok (.invokestatic 194, 3) := by decide +kernel
theorem dJ8_newLength_cabcc_6 : decode cJ8_newLength_cabcc 6 = .ok (.iadd, 1) := by decide +kernel
theorem dJ8_newLength_cabcc_7 : decode cJ8_newLength_cabcc 7 = .ok (.istore_n 3, 1) := by decide +kernel
theorem dJ8_newLength_cabcc_8 : decode cJ8_newLength_cabcc 8 = .ok (.iconst 0, 1) := by decide +kernel
theorem dJ8_newLength_cabcc_9 : decode cJ8_newLength_cabcc 9 = .ok (.iload_n 3, 1) := by decide +kernel
theorem dJ8_newLength_cabcc_10 : decode cJ8_newLength_cabcc 10 = .ok (.if_icmp .ge 11, 3) := by decide +kernel
theorem dJ8_newLength_cabcc_13 : decode cJ8_newLength_cabcc 13 = .ok (.iload_n 3, 1) := by decide +kernel
theorem dJ8_newLength_cabcc_14 : decode cJ8_newLength_cabcc 14 = .ok (.ldc 200, 2) := by decide +kernel
theorem dJ8_newLength_cabcc_16 : decode cJ8_newLength_cabcc 16 = .ok (.if_icmp .gt 5, 3) := by decide +kernel
theorem dJ8_newLength_cabcc_19 : decode cJ8_newLength_cabcc 19 = .ok (.iload_n 3, 1) := by decide +kernel
theorem dJ8_newLength_cabcc_20 : decode cJ8_newLength_cabcc 20 = .ok (.ireturn, 1) := by decide +kernel
theorem dJ8_newLength_cabcc_21 : decode cJ8_newLength_cabcc 21 = .ok (.iload_n 0, 1) := by decide +kernel
theorem dJ8_newLength_cabcc_22 : decode cJ8_newLength_cabcc 22 = .ok (.iload_n 1, 1) := by decide +kernel
theorem dJ8_newLength_cabcc_23 : decode cJ8_newLength_cabcc 23 = .ok (.invokestatic 201, 3) := by decide +kernel
theorem dJ8_newLength_cabcc_26 : decode cJ8_newLength_cabcc 26 = .ok (.ireturn, 1) := by decide +kernel
theorem dJ8_hugeLength_7cf53_0 : decode cJ8_hugeLength_7cf53 0 = .ok (.iload_n 0, 1) := by decide +kernel
theorem dJ8_hugeLength_7cf53_1 : decode cJ8_hugeLength_7cf53 1 = .ok (.iload_n 1, 1) := by decide +kernel
theorem dJ8_hugeLength_7cf53_2 : decode cJ8_hugeLength_7cf53 2 = .ok (.iadd, 1) := by decide +kernel
theorem dJ8_hugeLength_7cf53_3 : decode cJ8_hugeLength_7cf53 3 = .ok (.istore_n 2, 1) := by decide +kernel
theorem dJ8_hugeLength_7cf53_4 : decode cJ8_hugeLength_7cf53 4 = .ok (.iload_n 2, 1) := by decide +kernel
theorem dJ8_hugeLength_7cf53_5 : decode cJ8_hugeLength_7cf53 5 = .ok (.ifCond .ge 44, 3) := by decide +kernel
theorem dJ8_hugeLength_7cf53_8 : decode cJ8_hugeLength_7cf53 8 = .ok (.new 204, 3) := by decide +kernel
theorem dJ8_hugeLength_7cf53_11 : decode cJ8_hugeLength_7cf53 11 = .ok (.dup, 1) := by decide +kernel
theorem dJ8_hugeLength_7cf53_12 : decode cJ8_hugeLength_7cf53 12 = .ok (.new 89, 3) := by decide +kernel
theorem dJ8_hugeLength_7cf53_15 : decode cJ8_hugeLength_7cf53 15 = .ok (.dup, 1) := by decide +kernel
theorem dJ8_hugeLength_7cf53_16 : decode cJ8_hugeLength_7cf53 16 = .ok (.invokespecial 91, 3) := by decide +kernel
theorem dJ8_hugeLength_7cf53_19 : decode cJ8_hugeLength_7cf53 19 = .ok (.ldc 206, 2) := by decide +kernel
theorem dJ8_hugeLength_7cf53_21 : decode cJ8_hugeLength_7cf53 21 = .ok (.invokevirtual 94, 3) := by decide +kernel
theorem dJ8_hugeLength_7cf53_24 : decode cJ8_hugeLength_7cf53 24 = .ok (.iload_n 0, 1) := by decide +kernel
theorem dJ8_hugeLength_7cf53_25 : decode cJ8_hugeLength_7cf53 25 = .ok (.invokevirtual 98, 3) := by decide +kernel
theorem dJ8_hugeLength_7cf53_28 : decode cJ8_hugeLength_7cf53 28 = .ok (.ldc 208, 2) := by decide +kernel
theorem dJ8_hugeLength_7cf53_30 : decode cJ8_hugeLength_7cf53 30 = .ok (.invokevirtual 94, 3) := by decide +kernel
theorem dJ8_hugeLength_7cf53_33 : decode cJ8_hugeLength_7cf53 33 = .ok (.iload_n 1, 1) := by decide +kernel
theorem dJ8_hugeLength_7cf53_34 : decode cJ8_hugeLength_7cf53 34 = .ok (.invokevirtual 98, 3) := by decide +kernel
theorem dJ8_hugeLength_7cf53_37 : decode cJ8_hugeLength_7cf53 37 = .ok (.ldc 210, 2) := by decide +kernel
theorem dJ8_hugeLength_7cf53_39 : decode cJ8_hugeLength_7cf53 39 = .ok (.invokevirtual 94, 3) := by decide +kernel
theorem dJ8_hugeLength_7cf53_42 : decode cJ8_hugeLength_7cf53 42 = .ok (.invokevirtual 101, 3) := by decide +kernel
theorem dJ8_hugeLength_7cf53_45 : decode cJ8_hugeLength_7cf53 45 = .ok (.invokespecial 212, 3) := by decide +kernel
theorem dJ8_hugeLength_7cf53_48 : decode cJ8_hugeLength_7cf53 48 = .ok (.athrow, 1) := by decide +kernel
theorem dJ8_hugeLength_7cf53_49 : decode cJ8_hugeLength_7cf53 49 = .ok (.iload_n 2, 1) := by decide +kernel
theorem dJ8_hugeLength_7cf53_50 : decode cJ8_hugeLength_7cf53 50 = .ok (.ldc 200, 2) := by decide +kernel
theorem dJ8_hugeLength_7cf53_52 : decode cJ8_hugeLength_7cf53 52 = .ok (.if_icmp .gt 6, 3) := by decide +kernel
theorem dJ8_hugeLength_7cf53_55 : decode cJ8_hugeLength_7cf53 55 = .ok (.ldc 200, 2) := by decide +kernel
theorem dJ8_hugeLength_7cf53_57 : decode cJ8_hugeLength_7cf53 57 = .ok (.ireturn, 1) := by decide +kernel
theorem dJ8_hugeLength_7cf53_58 : decode cJ8_hugeLength_7cf53 58 = .ok (.iload_n 2, 1) := by decide +kernel
theorem dJ8_hugeLength_7cf53_59 : decode cJ8_hugeLength_7cf53 59 = .ok (.ireturn, 1) := by decide +kernel
theorem dJ3_checkIndex_8e157_0 : decode cJ3_checkIndex_8e157 0 = .ok (.iload_n 0, 1) := by decide +kernel
theorem dJ3_checkIndex_8e157_1 : decode cJ3_checkIndex_8e157 1 = .ok (.ifCond .lt 8, 3) := by decide +kernel
theorem dJ3_checkIndex_8e157_4 : decode cJ3_checkIndex_8e157 4 = .ok (.iload_n 0, 1) := by decide +kernel
theorem dJ3_checkIndex_8e157_5 : decode cJ3_checkIndex_8e157 5 = .ok (.iload_n 1, 1) := by decide +kernel
theorem dJ3_checkIndex_8e157_6 : decode cJ3_checkIndex_8e157 6 = .ok (.if_icmp .lt 10, 3) := by decide +kernel
theorem dJ3_checkIndex_8e157_9 : decode cJ3_checkIndex_8e157 9 = .ok (.aload_n 2, 1) := by decide +kernel
theorem dJ3_checkIndex_8e157_10 : decode cJ3_checkIndex_8e157 10 = .ok (.iload_n 0, 1) := by decide +kernel
theorem dJ3_checkIndex_8e157_11 : decode cJ3_checkIndex_8e157 11 = .ok (.iload_n 1, 1) := by decide +kernel
theorem dJ3_checkIndex_8e157_12 : decode cJ3_checkIndex_8e157 12 = .ok (.invokestatic 95, 3) := by decide +kernel
theorem dJ3_checkIndex_8e157_15 : decode cJ3_checkIndex_8e157 15 = .ok (.athrow, 1) := by decide +kernel
theorem dJ3_checkIndex_8e157_16 : decode cJ3_checkIndex_8e157 16 = .ok (.iload_n 0, 1) := by decide +kernel
theorem dJ3_checkIndex_8e157_17 : decode cJ3_checkIndex_8e157 17 = .ok (.ireturn, 1) := by decide +kernel
theorem dL_below_0 : decode cL_below 0 = .ok (.iload_n 0, 1) := by decide +kernel
theorem dL_below_1 : decode cL_below 1 = .ok (.ldc 7, 2) := by decide +kernel
theorem dL_below_3 : decode cL_below 3 = .ok (.iand, 1) := by decide +kernel
theorem dL_below_4 : decode cL_below 4 = .ok (.iload_n 1, 1) := by decide +kernel
theorem dL_below_5 : decode cL_below 5 = .ok (.irem, 1) := by decide +kernel
theorem dL_below_6 : decode cL_below 6 = .ok (.ireturn, 1) := by decide +kernel
theorem dL_cell_0 : decode cL_cell 0 = .ok (.iload_n 1, 1) := by decide +kernel
theorem dL_cell_1 : decode cL_cell 1 = .ok (.aload_n 0, 1) := by decide +kernel
theorem dL_cell_2 : decode cL_cell 2 = .ok (.arraylength, 1) := by decide +kernel
theorem dL_cell_3 : decode cL_cell 3 = .ok (.if_icmp .ge 9, 3) := by decide +kernel
theorem dL_cell_6 : decode cL_cell 6 = .ok (.aload_n 0, 1) := by decide +kernel
theorem dL_cell_7 : decode cL_cell 7 = .ok (.iload_n 1, 1) := by decide +kernel
theorem dL_cell_8 : decode cL_cell 8 = .ok (.iaload, 1) := by decide +kernel
theorem dL_cell_9 : decode cL_cell 9 = .ok (.goto 9, 3) := by decide +kernel
theorem dL_cell_12 : decode cL_cell 12 = .ok (.ldc 8, 2) := by decide +kernel
theorem dL_cell_14 : decode cL_cell 14 = .ok (.iload_n 1, 1) := by decide +kernel
theorem dL_cell_15 : decode cL_cell 15 = .ok (.iconst 3, 1) := by decide +kernel
theorem dL_cell_16 : decode cL_cell 16 = .ok (.iadd, 1) := by decide +kernel
theorem dL_cell_17 : decode cL_cell 17 = .ok (.imul, 1) := by decide +kernel
theorem dL_cell_18 : decode cL_cell 18 = .ok (.ireturn, 1) := by decide +kernel
set_option maxRecDepth 20000 in
theorem ggL_act_L_below : GoodIn wsL_act wsL_below := goodIn_r _ [17, 18] (by decide +kernel) (by decide +kernel)
set_option maxRecDepth 20000 in
theorem gL_act_L_below : GoodIn wsL_act (va_wsS RL 15 yL_below wsL_below) := goodIn_app (goodIn_of _ (by decide +kernel)) ggL_act_L_below
set_option maxRecDepth 20000 in
theorem ggL_act_X3_areFine : GoodIn wsL_act wsX3_areFine := goodIn_r _ [23, 24, 25, 26, 22, 27, 301, 302, 303, 304, 305, 306] (by decide +kernel) (by decide +kernel)
set_option maxRecDepth 20000 in
theorem gL_act_X3_areFine : GoodIn wsL_act (wsV RL 28 RX3 yX3_areFine wsX3_areFine) := goodIn_app (goodIn_of _ (by decide +kernel)) ggL_act_X3_areFine
set_option maxRecDepth 20000 in
theorem ggL_act_X2_land : GoodIn wsL_act wsX2_land := goodIn_ca (goodIn_ca (goodIn_ca (goodIn_r _ [32, 33, 34, 35, 36, 37, 38, 39, 40, 41, 31, 42, 43, 44, 45, 46, 47, 48, 49, 50, 51, 52, 53, 54, 55, 56, 57, 58, 59, 60, 61, 62, 63, 64, 65, 66, 67, 68, 69, 70, 71, 72, 73, 74, 75, 76, 77, 78, 79, 80, 81, 82, 83, 84, 85, 86, 87, 88, 89, 90, 91, 92, 93, 94, 95, 96, 97, 98, 99, 100, 101, 102, 103, 104, 105, 106, 107, 108, 109, 110, 111, 112, 113, 114, 115, 116, 117, 118, 119, 120, 121, 122, 123, 124, 125, 126, 127, 128, 129, 130, 131, 132, 133, 9, 134, 135, 136, 137, 138, 139, 140, 141, 142, 143, 144, 145, 146, 147, 148, 149, 150, 151, 152, 153, 154, 155, 156, 157, 158, 159, 160, 161, 162, 163, 164, 165, 166, 167, 168, 169, 170, 307, 308, 309, 310, 311, 312, 313, 314, 315, 316, 317, 318, 319, 320, 321, 322, 323, 324, 325, 326, 327, 328] (by decide +kernel) (by decide +kernel)) (goodIn_sub (fun _ h => List.mem_cons_of_mem _ (List.mem_append_left _ (List.mem_append_left _ (List.mem_append_right _ h)))) (by decide +kernel))) (goodIn_sub (fun _ h => List.mem_cons_of_mem _ (List.mem_append_left _ (List.mem_append_right _ h))) (by decide +kernel))) (goodIn_sub (fun _ h => List.mem_cons_of_mem _ (List.mem_append_right _ h)) (by decide +kernel))
set_option maxRecDepth 20000 in
theorem gL_act_X2_land : GoodIn wsL_act (wsV RL 32 RX2 yX2_land wsX2_land) := goodIn_app (goodIn_of _ (by decide +kernel)) ggL_act_X2_land
set_option maxRecDepth 20000 in
theorem ggL_act_X3_with : GoodIn wsL_act wsX3_with := goodIn_r _ [173, 174, 175, 147, 176, 177, 178, 179, 180, 181, 182, 5, 158, 159, 9, 160, 161, 162, 163, 164] (by decide +kernel) (by decide +kernel)
set_option maxRecDepth 20000 in
theorem gL_act_X3_with : GoodIn wsL_act (va_wsS RL 39 yX3_with wsX3_with) := goodIn_app (goodIn_of _ (by decide +kernel)) ggL_act_X3_with
set_option maxRecDepth 20000 in
theorem ggL_act_X2_build : GoodIn wsL_act wsX2_build := goodIn_ca (goodIn_ca (goodIn_ca (goodIn_r _ [186, 54, 55, 33, 34, 76, 187, 188, 100, 40, 41, 31, 42, 43, 44, 45, 46, 47, 48, 49, 50, 189, 190, 191, 56, 57, 58, 59, 60, 61, 192, 193, 194, 195, 107, 108, 196, 197, 198, 199, 200, 201, 113, 114, 115, 116, 117, 118, 96, 119, 120, 121, 122, 123, 124, 125, 126, 127, 128, 129, 130, 131, 132, 133, 9, 134, 135, 136, 137, 138, 139, 140, 141, 142, 143, 144, 145, 146, 147, 148, 149, 150, 151, 152, 153, 154, 155, 156, 157, 158, 159, 160, 161, 162, 163, 164, 307, 308, 309, 310, 321, 322, 323, 324, 325, 326, 327, 328, 318, 319, 320] (by decide +kernel) (by decide +kernel)) (goodIn_sub (fun _ h => List.mem_cons_of_mem _ (List.mem_append_right _ h)) (by decide +kernel))) (goodIn_sub (fun _ h => List.mem_cons_of_mem _ (List.mem_append_left _ (List.mem_append_left _ (List.mem_append_right _ h)))) (by decide +kernel))) (goodIn_sub (fun _ h => List.mem_cons_of_mem _ (List.mem_append_left _ (List.mem_append_right _ h))) (by decide +kernel))
set_option maxRecDepth 20000 in
theorem gL_act_X2_build : GoodIn wsL_act (wsV RL 43 RX2 yX2_build wsX2_build) := goodIn_app (goodIn_of _ (by decide +kernel)) ggL_act_X2_build
set_option maxRecDepth 20000 in
theorem ggL_act_X2_man : GoodIn wsL_act wsX2_man := goodIn_ca (goodIn_ca (goodIn_r _ [205, 76, 77, 206, 207, 208, 209, 31, 210, 43, 44, 56, 57, 58, 59, 60, 61, 48, 49, 50, 189, 190, 191, 54, 55, 80, 81, 82, 83, 84, 85, 86, 87, 88, 89, 90, 91, 92, 93, 94, 95, 96, 307, 308, 309, 310, 321, 322, 323, 324, 325, 326, 327, 328, 318, 319, 320] (by decide +kernel) (by decide +kernel)) (goodIn_sub (fun _ h => List.mem_cons_of_mem _ (List.mem_append_left _ (List.mem_append_right _ h))) (by decide +kernel))) (goodIn_sub (fun _ h => List.mem_cons_of_mem _ (List.mem_append_right _ h)) (by decide +kernel))
set_option maxRecDepth 20000 in
theorem gL_act_X2_man : GoodIn wsL_act (wsV RL 48 RX2 yX2_man wsX2_man) := goodIn_app (goodIn_of _ (by decide +kernel)) ggL_act_X2_man
set_option maxRecDepth 20000 in
theorem ggL_act_X2_mend : GoodIn wsL_act wsX2_mend := goodIn_ca (goodIn_r _ [214, 76, 77, 215, 207, 208, 209, 31, 210, 43, 44, 56, 57, 58, 59, 60, 61, 48, 49, 50, 80, 81, 82, 83, 84, 85, 86, 87, 88, 89, 90, 91, 92, 93, 94, 95, 96, 307, 308, 309, 310, 321, 322, 323, 324, 325, 326, 327, 328, 318, 319, 320] (by decide +kernel) (by decide +kernel)) (goodIn_sub (fun _ h => List.mem_cons_of_mem _ (List.mem_append_left _ (List.mem_append_right _ h))) (by decide +kernel))
set_option maxRecDepth 20000 in
theorem gL_act_X2_mend : GoodIn wsL_act (wsV RL 51 RX2 yX2_mend wsX2_mend) := goodIn_app (goodIn_of _ (by decide +kernel)) ggL_act_X2_mend
set_option maxRecDepth 20000 in
theorem ggL_act_X3_canTurn : GoodIn wsL_act wsX3_canTurn := goodIn_r _ [219, 220, 8, 9, 10, 221, 25, 26, 22, 27, 301, 302, 303, 304, 305, 306] (by decide +kernel) (by decide +kernel)
set_option maxRecDepth 20000 in
theorem gL_act_X3_canTurn : GoodIn wsL_act (wsV RL 55 RX3 yX3_canTurn wsX3_canTurn) := goodIn_app (goodIn_of _ (by decide +kernel)) ggL_act_X3_canTurn
set_option maxRecDepth 20000 in
theorem ggL_act_X2_turn : GoodIn wsL_act wsX2_turn := goodIn_ca (goodIn_ca (goodIn_r _ [225, 33, 34, 76, 77, 79, 78, 226, 207, 208, 209, 31, 210, 43, 44, 56, 57, 58, 59, 60, 61, 48, 49, 50, 40, 41, 42, 45, 46, 47, 80, 81, 82, 83, 84, 85, 86, 87, 88, 89, 90, 91, 92, 93, 94, 95, 96, 227, 228, 229, 100, 230, 197, 198, 231, 232, 233, 8, 9, 10, 234, 235, 236, 237, 238, 159, 160, 239, 133, 134, 62, 63, 64, 65, 66, 67, 68, 69, 70, 71, 97, 98, 99, 101, 102, 240, 307, 308, 309, 310, 321, 322, 323, 324, 325, 326, 327, 328, 318, 319, 320, 311, 312, 313, 314, 315, 316, 317] (by decide +kernel) (by decide +kernel)) (goodIn_sub (fun _ h => List.mem_cons_of_mem _ (List.mem_append_left _ (List.mem_append_left _ (List.mem_append_right _ h)))) (by decide +kernel))) (goodIn_sub (fun _ h => List.mem_cons_of_mem _ (List.mem_append_left _ (List.mem_append_right _ h))) (by decide +kernel))
set_option maxRecDepth 20000 in
theorem gL_act_X2_turn : GoodIn wsL_act (wsV RL 64 RX2 yX2_turn wsX2_turn) := goodIn_app (goodIn_of _ (by decide +kernel)) ggL_act_X2_turn
set_option maxRecDepth 20000 in
theorem ggL_act_X3_strong : GoodIn wsL_act wsX3_strong := goodIn_r _ [244] (by decide +kernel) (by decide +kernel)
set_option maxRecDepth 20000 in
theorem gL_act_X3_strong : GoodIn wsL_act (wsV RL 71 RX3 yX3_strong wsX3_strong) := goodIn_app (goodIn_of _ (by decide +kernel)) ggL_act_X3_strong
set_option maxRecDepth 20000 in
theorem ggL_act_X3_wound : GoodIn wsL_act wsX3_wound := goodIn_r _ [247] (by decide +kernel) (by decide +kernel)
set_option maxRecDepth 20000 in
theorem gL_act_X3_wound : GoodIn wsL_act (va_wsS RL 75 yX3_wound wsX3_wound) := goodIn_app (goodIn_of _ (by decide +kernel)) ggL_act_X3_wound
set_option maxRecDepth 20000 in
theorem ggL_act_X2_hoist : GoodIn wsL_act wsX2_hoist := goodIn_ca (goodIn_ca (goodIn_ca (goodIn_r _ [251, 54, 55, 33, 34, 76, 77, 78, 252, 79, 253, 207, 208, 209, 31, 210, 43, 44, 56, 57, 58, 59, 60, 61, 48, 49, 50, 80, 81, 82, 83, 84, 85, 86, 87, 88, 89, 90, 91, 92, 93, 94, 95, 96, 62, 63, 64, 65, 66, 67, 68, 69, 70, 71, 45, 46, 47, 97, 98, 99, 100, 101, 102, 254, 255, 256, 257, 258, 259, 260, 261, 199, 200, 262, 263, 264, 265, 215, 226, 266, 267, 268, 269, 270, 271, 272, 273, 274, 275, 276, 277, 278, 279, 280, 281, 282, 283, 284, 285, 307, 308, 309, 310, 321, 322, 323, 324, 325, 326, 327, 328, 311, 312, 313, 314, 315, 316, 317, 318, 319, 320] (by decide +kernel) (by decide +kernel)) (goodIn_sub (fun _ h => List.mem_cons_of_mem _ (List.mem_append_right _ h)) (by decide +kernel))) (goodIn_sub (fun _ h => List.mem_cons_of_mem _ (List.mem_append_left _ (List.mem_append_left _ (List.mem_append_right _ h)))) (by decide +kernel))) (goodIn_sub (fun _ h => List.mem_cons_of_mem _ (List.mem_append_left _ (List.mem_append_right _ h))) (by decide +kernel))
set_option maxRecDepth 20000 in
theorem gL_act_X2_hoist : GoodIn wsL_act (wsV RL 86 RX2 yX2_hoist wsX2_hoist) := goodIn_app (goodIn_of _ (by decide +kernel)) ggL_act_X2_hoist
set_option maxRecDepth 20000 in
theorem ggL_act_X2_take : GoodIn wsL_act wsX2_take := goodIn_ca (goodIn_ca (goodIn_r _ [289, 33, 34, 76, 77, 78, 252, 79, 280, 39, 207, 208, 209, 31, 210, 43, 44, 56, 57, 58, 59, 60, 61, 48, 49, 50, 80, 81, 82, 83, 84, 85, 86, 87, 88, 89, 90, 91, 92, 93, 94, 95, 96, 67, 68, 69, 70, 71, 45, 46, 47, 62, 63, 64, 65, 66, 290, 291, 292, 293, 170, 169, 307, 308, 309, 310, 321, 322, 323, 324, 325, 326, 327, 328, 311, 312, 313, 314, 315, 316, 317, 318, 319, 320] (by decide +kernel) (by decide +kernel)) (goodIn_sub (fun _ h => List.mem_cons_of_mem _ (List.mem_append_left _ (List.mem_append_left _ (List.mem_append_right _ h)))) (by decide +kernel))) (goodIn_sub (fun _ h => List.mem_cons_of_mem _ (List.mem_append_left _ (List.mem_append_right _ h))) (by decide +kernel))
set_option maxRecDepth 20000 in
theorem gL_act_X2_take : GoodIn wsL_act (wsV RL 89 RX2 yX2_take wsX2_take) := goodIn_app (goodIn_of _ (by decide +kernel)) ggL_act_X2_take
set_option maxRecDepth 20000 in
theorem ggL_act_X3_without : GoodIn wsL_act wsX3_without := goodIn_r _ [296, 174, 175, 147, 176, 177, 178, 179, 180, 181, 182, 5, 158, 159, 9, 160, 161, 162, 163, 164] (by decide +kernel) (by decide +kernel)
set_option maxRecDepth 20000 in
theorem gL_act_X3_without : GoodIn wsL_act (va_wsS RL 92 yX3_without wsX3_without) := goodIn_app (goodIn_of _ (by decide +kernel)) ggL_act_X3_without
set_option maxRecDepth 20000 in
theorem ggL_act_X2_lay : GoodIn wsL_act wsX2_lay := goodIn_ca (goodIn_ca (goodIn_r _ [300, 33, 34, 76, 77, 252, 78, 79, 280, 207, 208, 209, 31, 210, 43, 44, 56, 57, 58, 59, 60, 61, 48, 49, 50, 80, 81, 82, 83, 84, 85, 86, 87, 88, 89, 90, 91, 92, 93, 94, 95, 96, 62, 63, 64, 65, 66, 67, 68, 69, 70, 71, 45, 46, 47, 72, 73, 74, 75, 97, 98, 99, 100, 101, 102, 165, 166, 167, 168, 169, 170, 307, 308, 309, 310, 321, 322, 323, 324, 325, 326, 327, 328, 311, 312, 313, 314, 315, 316, 317, 318, 319, 320] (by decide +kernel) (by decide +kernel)) (goodIn_sub (fun _ h => List.mem_cons_of_mem _ (List.mem_append_left _ (List.mem_append_left _ (List.mem_append_right _ h)))) (by decide +kernel))) (goodIn_sub (fun _ h => List.mem_cons_of_mem _ (List.mem_append_left _ (List.mem_append_right _ h))) (by decide +kernel))
set_option maxRecDepth 20000 in
theorem gL_act_X2_lay : GoodIn wsL_act (wsV RL 96 RX2 yX2_lay wsX2_lay) := goodIn_app (goodIn_of _ (by decide +kernel)) ggL_act_X2_lay
theorem dL_act_0 : decode cL_act 0 = .ok (.aload_n 1, 1) := by decide +kernel
theorem dL_act_1 : decode cL_act 1 = .ok (.getfield 9, 3) := by decide +kernel
theorem dL_act_4 : decode cL_act 4 = .ok (.arraylength, 1) := by decide +kernel
theorem dL_act_5 : decode cL_act 5 = .ok (.ifCond .ne 7, 3) := by decide +kernel
theorem dL_act_8 : decode cL_act 8 = .ok (.iconst (-1), 1) := by decide +kernel
theorem dL_act_9 : decode cL_act 9 = .ok (.goto 14, 3) := by decide +kernel
theorem dL_act_12 : decode cL_act 12 = .ok (.iload_n 2, 1) := by decide +kernel
theorem dL_act_13 : decode cL_act 13 = .ok (.iconst 3, 1) := by decide +kernel
theorem dL_act_14 : decode cL_act 14 = .ok (.ishr, 1) := by decide +kernel
theorem dL_act_15 : decode cL_act 15 = .ok (.aload_n 1, 1) := by decide +kernel
theorem dL_act_16 : decode cL_act 16 = .ok (.getfield 9, 3) := by decide +kernel
theorem dL_act_19 : decode cL_act 19 = .ok (.arraylength, 1) := by decide +kernel
theorem dL_act_20 : decode cL_act 20 = .ok (.invokestatic 15, 3) := by decide +kernel
theorem dL_act_23 : decode cL_act 23 = .ok (.istore_n 3, 1) := by decide +kernel
theorem dL_act_24 : decode cL_act 24 = .ok (.iload_n 3, 1) := by decide +kernel
theorem dL_act_25 : decode cL_act 25 = .ok (.ifCond .ge 7, 3) := by decide +kernel
theorem dL_act_28 : decode cL_act 28 = .ok (.aconst_null, 1) := by decide +kernel
theorem dL_act_29 : decode cL_act 29 = .ok (.goto 9, 3) := by decide +kernel
theorem dL_act_32 : decode cL_act 32 = .ok (.aload_n 1, 1) := by decide +kernel
theorem dL_act_33 : decode cL_act 33 = .ok (.getfield 9, 3) := by decide +kernel
theorem dL_act_36 : decode cL_act 36 = .ok (.iload_n 3, 1) := by decide +kernel
theorem dL_act_37 : decode cL_act 37 = .ok (.aaload, 1) := by decide +kernel
theorem dL_act_38 : decode cL_act 38 = .ok (.astore 4, 2) := by decide +kernel
theorem dL_act_40 : decode cL_act 40 = .ok (.iload_n 2, 1) := by decide +kernel
theorem dL_act_41 : decode cL_act 41 = .ok (.iconst 5, 1) := by decide +kernel
theorem dL_act_42 : decode cL_act 42 = .ok (.ishr, 1) := by decide +kernel
theorem dL_act_43 : decode cL_act 43 = .ok (.iconst 2, 1) := by decide +kernel
theorem dL_act_44 : decode cL_act 44 = .ok (.invokestatic 15, 3) := by decide +kernel
theorem dL_act_47 : decode cL_act 47 = .ok (.ifCond .ne 15, 3) := by decide +kernel
theorem dL_act_50 : decode cL_act 50 = .ok (.iload_n 2, 1) := by decide +kernel
theorem dL_act_51 : decode cL_act 51 = .ok (.bipush 6, 2) := by decide +kernel
theorem dL_act_53 : decode cL_act 53 = .ok (.ishr, 1) := by decide +kernel
theorem dL_act_54 : decode cL_act 54 = .ok (.bipush 16, 2) := by decide +kernel
theorem dL_act_56 : decode cL_act 56 = .ok (.invokestatic 15, 3) := by decide +kernel
theorem dL_act_59 : decode cL_act 59 = .ok (.goto 13, 3) := by decide +kernel
theorem dL_act_62 : decode cL_act 62 = .ok (.iconst 4, 1) := by decide +kernel
theorem dL_act_63 : decode cL_act 63 = .ok (.iload_n 2, 1) := by decide +kernel
theorem dL_act_64 : decode cL_act 64 = .ok (.bipush 7, 2) := by decide +kernel
theorem dL_act_66 : decode cL_act 66 = .ok (.ishr, 1) := by decide +kernel
theorem dL_act_67 : decode cL_act 67 = .ok (.iconst 5, 1) := by decide +kernel
theorem dL_act_68 : decode cL_act 68 = .ok (.invokestatic 15, 3) := by decide +kernel
theorem dL_act_71 : decode cL_act 71 = .ok (.iadd, 1) := by decide +kernel
theorem dL_act_72 : decode cL_act 72 = .ok (.istore 5, 2) := by decide +kernel
theorem dL_act_74 : decode cL_act 74 = .ok (.aload 4, 2) := by decide +kernel
theorem dL_act_76 : decode cL_act 76 = .ok (.ifnonnull 17, 3) := by decide +kernel
theorem dL_act_79 : decode cL_act 79 = .ok (.iload_n 2, 1) := by decide +kernel
theorem dL_act_80 : decode cL_act 80 = .ok (.bipush 14, 2) := by decide +kernel
theorem dL_act_82 : decode cL_act 82 = .ok (.invokestatic 15, 3) := by decide +kernel
theorem dL_act_85 : decode cL_act 85 = .ok (.iconst 3, 1) := by decide +kernel
theorem dL_act_86 : decode cL_act 86 = .ok (.if_icmp .le 7, 3) := by decide +kernel
theorem dL_act_89 : decode cL_act 89 = .ok (.iconst 3, 1) := by decide +kernel
theorem dL_act_90 : decode cL_act 90 = .ok (.goto 9, 3) := by decide +kernel
theorem dL_act_93 : decode cL_act 93 = .ok (.iload_n 2, 1) := by decide +kernel
theorem dL_act_94 : decode cL_act 94 = .ok (.bipush 14, 2) := by decide +kernel
theorem dL_act_96 : decode cL_act 96 = .ok (.invokestatic 15, 3) := by decide +kernel
theorem dL_act_99 : decode cL_act 99 = .ok (.tableswitch 1014 0 12 #[65, 65, 65, 226, 408, 447, 487, 487, 566, 566, 566, 890, 890], 65) := by decide +kernel
theorem dL_act_164 : decode cL_act 164 = .ok (.iconst 1, 1) := by decide +kernel
theorem dL_act_165 : decode cL_act 165 = .ok (.iload_n 2, 1) := by decide +kernel
theorem dL_act_166 : decode cL_act 166 = .ok (.iconst 4, 1) := by decide +kernel
theorem dL_act_167 : decode cL_act 167 = .ok (.ishr, 1) := by decide +kernel
theorem dL_act_168 : decode cL_act 168 = .ok (.iload_n 2, 1) := by decide +kernel
theorem dL_act_169 : decode cL_act 169 = .ok (.bipush 9, 2) := by decide +kernel
theorem dL_act_171 : decode cL_act 171 = .ok (.ishr, 1) := by decide +kernel
theorem dL_act_172 : decode cL_act 172 = .ok (.iconst 3, 1) := by decide +kernel
theorem dL_act_173 : decode cL_act 173 = .ok (.invokestatic 15, 3) := by decide +kernel
theorem dL_act_176 : decode cL_act 176 = .ok (.ifCond .ne 8, 3) := by decide +kernel
theorem dL_act_179 : decode cL_act 179 = .ok (.bipush 60, 2) := by decide +kernel
theorem dL_act_181 : decode cL_act 181 = .ok (.goto 5, 3) := by decide +kernel
theorem dL_act_184 : decode cL_act 184 = .ok (.bipush 25, 2) := by decide +kernel
theorem dL_act_186 : decode cL_act 186 = .ok (.invokestatic 15, 3) := by decide +kernel
theorem dL_act_189 : decode cL_act 189 = .ok (.iadd, 1) := by decide +kernel
theorem dL_act_190 : decode cL_act 190 = .ok (.istore 7, 2) := by decide +kernel
theorem dL_act_192 : decode cL_act 192 = .ok (.aload_n 1, 1) := by decide +kernel
theorem dL_act_193 : decode cL_act 193 = .ok (.getfield 21, 3) := by decide +kernel
theorem dL_act_196 : decode cL_act 196 = .ok (.arraylength, 1) := by decide +kernel
