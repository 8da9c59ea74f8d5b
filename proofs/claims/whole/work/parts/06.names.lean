theorem dX9_put_50 : decode cX9_put 50 = .ok (.getfield 34, 3) := by decide +kernel
theorem dX9_put_53 : decode cX9_put 53 = .ok (.iload_n 1, 1) := by decide +kernel
theorem dX9_put_54 : decode cX9_put 54 = .ok (.iaload, 1) := by decide +kernel
theorem dX9_put_55 : decode cX9_put 55 = .ok (.lload_n 3, 1) := by decide +kernel
theorem dX9_put_56 : decode cX9_put 56 = .ok (.invokestatic 214, 3) := by decide +kernel
theorem dX9_put_59 : decode cX9_put 59 = .ok (.lastore, 1) := by decide +kernel
theorem dX9_put_60 : decode cX9_put 60 = .ok (.iconst 1, 1) := by decide +kernel
theorem dX9_put_61 : decode cX9_put 61 = .ok (.ireturn, 1) := by decide +kernel
set_option maxRecDepth 20000 in
theorem ggX9_get_X9_isRow : GoodIn wsX9_get wsX9_isRow := goodIn_r _ [7, 8, 9, 10, 6, 11] (by decide +kernel) (by decide +kernel)
set_option maxRecDepth 20000 in
theorem gX9_get_X9_isRow : GoodIn wsX9_get (va_wsS RX9 207 yX9_isRow wsX9_isRow) := goodIn_app (goodIn_of _ (by decide +kernel)) ggX9_get_X9_isRow
set_option maxRecDepth 20000 in
theorem ggX9_get_X9_in : GoodIn wsX9_get wsX9_in := goodIn_r _ [11] (by decide +kernel) (by decide +kernel)
set_option maxRecDepth 20000 in
theorem gX9_get_X9_in : GoodIn wsX9_get (va_wsS RX9 100 yX9_in wsX9_in) := goodIn_app (goodIn_of _ (by decide +kernel)) ggX9_get_X9_in
theorem dX9_get_0 : decode cX9_get 0 = .ok (.iload_n 1, 1) := by decide +kernel
theorem dX9_get_1 : decode cX9_get 1 = .ok (.invokestatic 207, 3) := by decide +kernel
theorem dX9_get_4 : decode cX9_get 4 = .ok (.ifCond .eq 32, 3) := by decide +kernel
theorem dX9_get_7 : decode cX9_get 7 = .ok (.iload_n 2, 1) := by decide +kernel
theorem dX9_get_8 : decode cX9_get 8 = .ok (.i2l, 1) := by decide +kernel
theorem dX9_get_9 : decode cX9_get 9 = .ok (.lconst 0, 1) := by decide +kernel
theorem dX9_get_10 : decode cX9_get 10 = .ok (.aload_n 0, 1) := by decide +kernel
theorem dX9_get_11 : decode cX9_get 11 = .ok (.getfield 37, 3) := by decide +kernel
theorem dX9_get_14 : decode cX9_get 14 = .ok (.iload_n 1, 1) := by decide +kernel
theorem dX9_get_15 : decode cX9_get 15 = .ok (.iaload, 1) := by decide +kernel
theorem dX9_get_16 : decode cX9_get 16 = .ok (.iconst 1, 1) := by decide +kernel
theorem dX9_get_17 : decode cX9_get 17 = .ok (.isub, 1) := by decide +kernel
theorem dX9_get_18 : decode cX9_get 18 = .ok (.i2l, 1) := by decide +kernel
theorem dX9_get_19 : decode cX9_get 19 = .ok (.invokestatic 100, 3) := by decide +kernel
theorem dX9_get_22 : decode cX9_get 22 = .ok (.ifCond .eq 14, 3) := by decide +kernel
theorem dX9_get_25 : decode cX9_get 25 = .ok (.aload_n 0, 1) := by decide +kernel
theorem dX9_get_26 : decode cX9_get 26 = .ok (.getfield 31, 3) := by decide +kernel
theorem dX9_get_29 : decode cX9_get 29 = .ok (.iload_n 1, 1) := by decide +kernel
theorem dX9_get_30 : decode cX9_get 30 = .ok (.aaload, 1) := by decide +kernel
theorem dX9_get_31 : decode cX9_get 31 = .ok (.iload_n 2, 1) := by decide +kernel
theorem dX9_get_32 : decode cX9_get 32 = .ok (.laload, 1) := by decide +kernel
theorem dX9_get_33 : decode cX9_get 33 = .ok (.goto 6, 3) := by decide +kernel
theorem dX9_get_36 : decode cX9_get 36 = .ok (.ldc2_w 218, 3) := by decide +kernel
theorem dX9_get_39 : decode cX9_get 39 = .ok (.lreturn, 1) := by decide +kernel
set_option maxRecDepth 20000 in
theorem ggX9_copy_X9_isRow : GoodIn wsX9_copy wsX9_isRow := goodIn_r _ [8, 9, 10, 11, 7, 12] (by decide +kernel) (by decide +kernel)
set_option maxRecDepth 20000 in
theorem gX9_copy_X9_isRow : GoodIn wsX9_copy (va_wsS RX9 207 yX9_isRow wsX9_isRow) := goodIn_app (goodIn_of _ (by decide +kernel)) ggX9_copy_X9_isRow
theorem dX9_copy_0 : decode cX9_copy 0 = .ok (.iload_n 1, 1) := by decide +kernel
theorem dX9_copy_1 : decode cX9_copy 1 = .ok (.invokestatic 207, 3) := by decide +kernel
theorem dX9_copy_4 : decode cX9_copy 4 = .ok (.ifCond .eq 10, 3) := by decide +kernel
theorem dX9_copy_7 : decode cX9_copy 7 = .ok (.iload_n 3, 1) := by decide +kernel
theorem dX9_copy_8 : decode cX9_copy 8 = .ok (.invokestatic 207, 3) := by decide +kernel
theorem dX9_copy_11 : decode cX9_copy 11 = .ok (.ifCond .ne 5, 3) := by decide +kernel
theorem dX9_copy_14 : decode cX9_copy 14 = .ok (.iconst (-1), 1) := by decide +kernel
theorem dX9_copy_15 : decode cX9_copy 15 = .ok (.ireturn, 1) := by decide +kernel
theorem dX9_copy_16 : decode cX9_copy 16 = .ok (.aload_n 0, 1) := by decide +kernel
theorem dX9_copy_17 : decode cX9_copy 17 = .ok (.getfield 34, 3) := by decide +kernel
theorem dX9_copy_20 : decode cX9_copy 20 = .ok (.iload_n 1, 1) := by decide +kernel
theorem dX9_copy_21 : decode cX9_copy 21 = .ok (.iaload, 1) := by decide +kernel
theorem dX9_copy_22 : decode cX9_copy 22 = .ok (.ifCond .lt 12, 3) := by decide +kernel
theorem dX9_copy_25 : decode cX9_copy 25 = .ok (.aload_n 0, 1) := by decide +kernel
theorem dX9_copy_26 : decode cX9_copy 26 = .ok (.getfield 34, 3) := by decide +kernel
theorem dX9_copy_29 : decode cX9_copy 29 = .ok (.iload_n 3, 1) := by decide +kernel
theorem dX9_copy_30 : decode cX9_copy 30 = .ok (.iaload, 1) := by decide +kernel
theorem dX9_copy_31 : decode cX9_copy 31 = .ok (.ifCond .ge 6, 3) := by decide +kernel
theorem dX9_copy_34 : decode cX9_copy 34 = .ok (.bipush (-11), 2) := by decide +kernel
theorem dX9_copy_36 : decode cX9_copy 36 = .ok (.ireturn, 1) := by decide +kernel
theorem dX9_copy_37 : decode cX9_copy 37 = .ok (.aload_n 0, 1) := by decide +kernel
theorem dX9_copy_38 : decode cX9_copy 38 = .ok (.getfield 34, 3) := by decide +kernel
theorem dX9_copy_41 : decode cX9_copy 41 = .ok (.iload_n 1, 1) := by decide +kernel
theorem dX9_copy_42 : decode cX9_copy 42 = .ok (.iaload, 1) := by decide +kernel
theorem dX9_copy_43 : decode cX9_copy 43 = .ok (.aload_n 0, 1) := by decide +kernel
theorem dX9_copy_44 : decode cX9_copy 44 = .ok (.getfield 34, 3) := by decide +kernel
theorem dX9_copy_47 : decode cX9_copy 47 = .ok (.iload_n 3, 1) := by decide +kernel
theorem dX9_copy_48 : decode cX9_copy 48 = .ok (.iaload, 1) := by decide +kernel
theorem dX9_copy_49 : decode cX9_copy 49 = .ok (.if_icmp .eq 6, 3) := by decide +kernel
theorem dX9_copy_52 : decode cX9_copy 52 = .ok (.bipush (-12), 2) := by decide +kernel
theorem dX9_copy_54 : decode cX9_copy 54 = .ok (.ireturn, 1) := by decide +kernel
theorem dX9_copy_55 : decode cX9_copy 55 = .ok (.iload 5, 2) := by decide +kernel
theorem dX9_copy_57 : decode cX9_copy 57 = .ok (.ifCond .lt 39, 3) := by decide +kernel
theorem dX9_copy_60 : decode cX9_copy 60 = .ok (.iload_n 2, 1) := by decide +kernel
theorem dX9_copy_61 : decode cX9_copy 61 = .ok (.ifCond .lt 35, 3) := by decide +kernel
theorem dX9_copy_64 : decode cX9_copy 64 = .ok (.iload 4, 2) := by decide +kernel
theorem dX9_copy_66 : decode cX9_copy 66 = .ok (.ifCond .lt 30, 3) := by decide +kernel
theorem dX9_copy_69 : decode cX9_copy 69 = .ok (.iload 5, 2) := by decide +kernel
theorem dX9_copy_71 : decode cX9_copy 71 = .ok (.aload_n 0, 1) := by decide +kernel
theorem dX9_copy_72 : decode cX9_copy 72 = .ok (.getfield 37, 3) := by decide +kernel
theorem dX9_copy_75 : decode cX9_copy 75 = .ok (.iload_n 1, 1) := by decide +kernel
theorem dX9_copy_76 : decode cX9_copy 76 = .ok (.iaload, 1) := by decide +kernel
theorem dX9_copy_77 : decode cX9_copy 77 = .ok (.iload_n 2, 1) := by decide +kernel
theorem dX9_copy_78 : decode cX9_copy 78 = .ok (.isub, 1) := by decide +kernel
theorem dX9_copy_79 : decode cX9_copy 79 = .ok (.if_icmp .gt 17, 3) := by decide +kernel
theorem dX9_copy_82 : decode cX9_copy 82 = .ok (.iload 5, 2) := by decide +kernel
theorem dX9_copy_84 : decode cX9_copy 84 = .ok (.aload_n 0, 1) := by decide +kernel
theorem dX9_copy_85 : decode cX9_copy 85 = .ok (.getfield 37, 3) := by decide +kernel
theorem dX9_copy_88 : decode cX9_copy 88 = .ok (.iload_n 3, 1) := by decide +kernel
theorem dX9_copy_89 : decode cX9_copy 89 = .ok (.iaload, 1) := by decide +kernel
theorem dX9_copy_90 : decode cX9_copy 90 = .ok (.iload 4, 2) := by decide +kernel
theorem dX9_copy_92 : decode cX9_copy 92 = .ok (.isub, 1) := by decide +kernel
theorem dX9_copy_93 : decode cX9_copy 93 = .ok (.if_icmp .le 6, 3) := by decide +kernel
theorem dX9_copy_96 : decode cX9_copy 96 = .ok (.bipush (-13), 2) := by decide +kernel
theorem dX9_copy_98 : decode cX9_copy 98 = .ok (.ireturn, 1) := by decide +kernel
theorem dX9_copy_99 : decode cX9_copy 99 = .ok (.iconst 0, 1) := by decide +kernel
theorem dX9_copy_100 : decode cX9_copy 100 = .ok (.istore 6, 2) := by decide +kernel
theorem dX9_copy_102 : decode cX9_copy 102 = .ok (.iload 6, 2) := by decide +kernel
theorem dX9_copy_104 : decode cX9_copy 104 = .ok (.iload 5, 2) := by decide +kernel
theorem dX9_copy_106 : decode cX9_copy 106 = .ok (.if_icmp .ge 27, 3) := by decide +kernel
theorem dX9_copy_109 : decode cX9_copy 109 = .ok (.aload_n 0, 1) := by decide +kernel
theorem dX9_copy_110 : decode cX9_copy 110 = .ok (.getfield 40, 3) := by decide +kernel
theorem dX9_copy_113 : decode cX9_copy 113 = .ok (.iload 6, 2) := by decide +kernel
theorem dX9_copy_115 : decode cX9_copy 115 = .ok (.aload_n 0, 1) := by decide +kernel
theorem dX9_copy_116 : decode cX9_copy 116 = .ok (.getfield 31, 3) := by decide +kernel
theorem dX9_copy_119 : decode cX9_copy 119 = .ok (.iload_n 1, 1) := by decide +kernel
theorem dX9_copy_120 : decode cX9_copy 120 = .ok (.aaload, 1) := by decide +kernel
theorem dX9_copy_121 : decode cX9_copy 121 = .ok (.iload_n 2, 1) := by decide +kernel
theorem dX9_copy_122 : decode cX9_copy 122 = .ok (.iload 6, 2) := by decide +kernel
theorem dX9_copy_124 : decode cX9_copy 124 = .ok (.iadd, 1) := by decide +kernel
theorem dX9_copy_125 : decode cX9_copy 125 = .ok (.laload, 1) := by decide +kernel
theorem dX9_copy_126 : decode cX9_copy 126 = .ok (.lastore, 1) := by decide +kernel
theorem dX9_copy_127 : decode cX9_copy 127 = .ok (.iinc 6 1, 3) := by decide +kernel
theorem dX9_copy_130 : decode cX9_copy 130 = .ok (.goto (-28), 3) := by decide +kernel
theorem dX9_copy_133 : decode cX9_copy 133 = .ok (.iconst 0, 1) := by decide +kernel
theorem dX9_copy_134 : decode cX9_copy 134 = .ok (.istore 6, 2) := by decide +kernel
theorem dX9_copy_136 : decode cX9_copy 136 = .ok (.iload 6, 2) := by decide +kernel
theorem dX9_copy_138 : decode cX9_copy 138 = .ok (.iload 5, 2) := by decide +kernel
theorem dX9_copy_140 : decode cX9_copy 140 = .ok (.if_icmp .ge 28, 3) := by decide +kernel
theorem dX9_copy_143 : decode cX9_copy 143 = .ok (.aload_n 0, 1) := by decide +kernel
theorem dX9_copy_144 : decode cX9_copy 144 = .ok (.getfield 31, 3) := by decide +kernel
theorem dX9_copy_147 : decode cX9_copy 147 = .ok (.iload_n 3, 1) := by decide +kernel
theorem dX9_copy_148 : decode cX9_copy 148 = .ok (.aaload, 1) := by decide +kernel
theorem dX9_copy_149 : decode cX9_copy 149 = .ok (.iload 4, 2) := by decide +kernel
theorem dX9_copy_151 : decode cX9_copy 151 = .ok (.iload 6, 2) := by decide +kernel
theorem dX9_copy_153 : decode cX9_copy 153 = .ok (.iadd, 1) := by decide +kernel
theorem dX9_copy_154 : decode cX9_copy 154 = .ok (.aload_n 0, 1) := by decide +kernel
theorem dX9_copy_155 : decode cX9_copy 155 = .ok (.getfield 40, 3) := by decide +kernel
theorem dX9_copy_158 : decode cX9_copy 158 = .ok (.iload 6, 2) := by decide +kernel
theorem dX9_copy_160 : decode cX9_copy 160 = .ok (.laload, 1) := by decide +kernel
theorem dX9_copy_161 : decode cX9_copy 161 = .ok (.lastore, 1) := by decide +kernel
theorem dX9_copy_162 : decode cX9_copy 162 = .ok (.iinc 6 1, 3) := by decide +kernel
theorem dX9_copy_165 : decode cX9_copy 165 = .ok (.goto (-29), 3) := by decide +kernel
theorem dX9_copy_168 : decode cX9_copy 168 = .ok (.iload 5, 2) := by decide +kernel
theorem dX9_copy_170 : decode cX9_copy 170 = .ok (.ireturn, 1) := by decide +kernel
set_option maxRecDepth 20000 in
theorem ggX9_runs_X9_begins : GoodIn wsX9_runs wsX9_begins := goodIn_r _ [23, 24, 25, 61, 62, 63, 64, 65, 66, 67, 68, 69, 70, 71, 72, 73, 74, 75, 76, 77, 78, 79, 80, 81, 82, 83, 84, 85, 86, 87, 88, 89, 90, 91, 92, 93, 94, 95, 96, 97, 98, 99, 100, 101, 102, 103, 104, 105, 106, 107, 108, 109] (by decide +kernel) (by decide +kernel)
set_option maxRecDepth 20000 in
theorem gX9_runs_X9_begins : GoodIn wsX9_runs (wsV RX9 193 RX9 yX9_begins wsX9_begins) := goodIn_app (goodIn_of _ (by decide +kernel)) ggX9_runs_X9_begins
set_option maxRecDepth 20000 in
theorem ggX9_runs_X9_steps : GoodIn wsX9_runs wsX9_steps := goodIn_r _ [29, 30, 25, 31, 18, 15, 24, 32, 33, 34, 22, 35, 36, 37, 38, 39, 40, 41, 42, 43, 44, 45, 46, 47, 48, 49, 50, 51, 52, 53, 54, 55, 56, 57, 58, 59, 60, 61, 62, 63, 64, 65, 66, 67, 68, 69, 70, 71, 72, 73, 74, 75, 76, 77, 78, 79, 80, 81, 82, 83, 84, 85, 86, 87, 88, 89, 90, 91, 92, 93, 94, 95, 96, 97, 98, 99, 100, 101, 102, 103, 104, 105, 106, 107, 108, 109] (by decide +kernel) (by decide +kernel)
set_option maxRecDepth 20000 in
theorem gX9_runs_X9_steps : GoodIn wsX9_runs (wsV RX9 196 RX9 yX9_steps wsX9_steps) := goodIn_app (goodIn_of _ (by decide +kernel)) ggX9_runs_X9_steps
theorem dX9_runs_0 : decode cX9_runs 0 = .ok (.aload_n 0, 1) := by decide +kernel
theorem dX9_runs_1 : decode cX9_runs 1 = .ok (.invokevirtual 193, 3) := by decide +kernel
theorem dX9_runs_4 : decode cX9_runs 4 = .ok (.aload_n 0, 1) := by decide +kernel
theorem dX9_runs_5 : decode cX9_runs 5 = .ok (.iconst 0, 1) := by decide +kernel
theorem dX9_runs_6 : decode cX9_runs 6 = .ok (.putfield 220, 3) := by decide +kernel
theorem dX9_runs_9 : decode cX9_runs 9 = .ok (.aload_n 0, 1) := by decide +kernel
theorem dX9_runs_10 : decode cX9_runs 10 = .ok (.iconst 0, 1) := by decide +kernel
theorem dX9_runs_11 : decode cX9_runs 11 = .ok (.putfield 223, 3) := by decide +kernel
theorem dX9_runs_14 : decode cX9_runs 14 = .ok (.aload_n 0, 1) := by decide +kernel
theorem dX9_runs_15 : decode cX9_runs 15 = .ok (.iconst 0, 1) := by decide +kernel
theorem dX9_runs_16 : decode cX9_runs 16 = .ok (.putfield 226, 3) := by decide +kernel
theorem dX9_runs_19 : decode cX9_runs 19 = .ok (.iconst 0, 1) := by decide +kernel
theorem dX9_runs_20 : decode cX9_runs 20 = .ok (.istore_n 2, 1) := by decide +kernel
theorem dX9_runs_21 : decode cX9_runs 21 = .ok (.iload_n 2, 1) := by decide +kernel
theorem dX9_runs_22 : decode cX9_runs 22 = .ok (.aload_n 0, 1) := by decide +kernel
theorem dX9_runs_23 : decode cX9_runs 23 = .ok (.getfield 37, 3) := by decide +kernel
theorem dX9_runs_26 : decode cX9_runs 26 = .ok (.iload_n 1, 1) := by decide +kernel
theorem dX9_runs_27 : decode cX9_runs 27 = .ok (.iaload, 1) := by decide +kernel
theorem dX9_runs_28 : decode cX9_runs 28 = .ok (.if_icmp .ge 119, 3) := by decide +kernel
theorem dX9_runs_31 : decode cX9_runs 31 = .ok (.aload_n 0, 1) := by decide +kernel
theorem dX9_runs_32 : decode cX9_runs 32 = .ok (.getfield 226, 3) := by decide +kernel
theorem dX9_runs_35 : decode cX9_runs 35 = .ok (.ifCond .ne 112, 3) := by decide +kernel
theorem dX9_runs_38 : decode cX9_runs 38 = .ok (.aload_n 0, 1) := by decide +kernel
theorem dX9_runs_39 : decode cX9_runs 39 = .ok (.ldc2_w 96, 3) := by decide +kernel
theorem dX9_runs_42 : decode cX9_runs 42 = .ok (.ldc2_w 98, 3) := by decide +kernel
theorem dX9_runs_45 : decode cX9_runs 45 = .ok (.aload_n 0, 1) := by decide +kernel
theorem dX9_runs_46 : decode cX9_runs 46 = .ok (.getfield 31, 3) := by decide +kernel
theorem dX9_runs_49 : decode cX9_runs 49 = .ok (.iload_n 1, 1) := by decide +kernel
theorem dX9_runs_50 : decode cX9_runs 50 = .ok (.aaload, 1) := by decide +kernel
theorem dX9_runs_51 : decode cX9_runs 51 = .ok (.iload_n 2, 1) := by decide +kernel
theorem dX9_runs_52 : decode cX9_runs 52 = .ok (.laload, 1) := by decide +kernel
theorem dX9_runs_53 : decode cX9_runs 53 = .ok (.invokestatic 229, 3) := by decide +kernel
theorem dX9_runs_56 : decode cX9_runs 56 = .ok (.invokestatic 233, 3) := by decide +kernel
theorem dX9_runs_59 : decode cX9_runs 59 = .ok (.l2i, 1) := by decide +kernel
theorem dX9_runs_60 : decode cX9_runs 60 = .ok (.invokevirtual 196, 3) := by decide +kernel
theorem dX9_runs_63 : decode cX9_runs 63 = .ok (.istore_n 3, 1) := by decide +kernel
theorem dX9_runs_64 : decode cX9_runs 64 = .ok (.aload_n 0, 1) := by decide +kernel
theorem dX9_runs_65 : decode cX9_runs 65 = .ok (.dup, 1) := by decide +kernel
theorem dX9_runs_66 : decode cX9_runs 66 = .ok (.getfield 223, 3) := by decide +kernel
theorem dX9_runs_69 : decode cX9_runs 69 = .ok (.aload_n 0, 1) := by decide +kernel
theorem dX9_runs_70 : decode cX9_runs 70 = .ok (.getfield 182, 3) := by decide +kernel
theorem dX9_runs_73 : decode cX9_runs 73 = .ok (.ifCond .eq 7, 3) := by decide +kernel
theorem dX9_runs_76 : decode cX9_runs 76 = .ok (.iconst 1, 1) := by decide +kernel
theorem dX9_runs_77 : decode cX9_runs 77 = .ok (.goto 4, 3) := by decide +kernel
theorem dX9_runs_80 : decode cX9_runs 80 = .ok (.iconst 0, 1) := by decide +kernel
theorem dX9_runs_81 : decode cX9_runs 81 = .ok (.iadd, 1) := by decide +kernel
theorem dX9_runs_82 : decode cX9_runs 82 = .ok (.putfield 223, 3) := by decide +kernel
theorem dX9_runs_85 : decode cX9_runs 85 = .ok (.aload_n 0, 1) := by decide +kernel
theorem dX9_runs_86 : decode cX9_runs 86 = .ok (.iload_n 3, 1) := by decide +kernel
theorem dX9_runs_87 : decode cX9_runs 87 = .ok (.sipush (-1005), 3) := by decide +kernel
theorem dX9_runs_90 : decode cX9_runs 90 = .ok (.if_icmp .ne 7, 3) := by decide +kernel
theorem dX9_runs_93 : decode cX9_runs 93 = .ok (.iconst 1, 1) := by decide +kernel
theorem dX9_runs_94 : decode cX9_runs 94 = .ok (.goto 4, 3) := by decide +kernel
theorem dX9_runs_97 : decode cX9_runs 97 = .ok (.iconst 0, 1) := by decide +kernel
theorem dX9_runs_98 : decode cX9_runs 98 = .ok (.putfield 226, 3) := by decide +kernel
theorem dX9_runs_101 : decode cX9_runs 101 = .ok (.aload_n 0, 1) := by decide +kernel
theorem dX9_runs_102 : decode cX9_runs 102 = .ok (.getfield 226, 3) := by decide +kernel
theorem dX9_runs_105 : decode cX9_runs 105 = .ok (.ifCond .ne 36, 3) := by decide +kernel
theorem dX9_runs_108 : decode cX9_runs 108 = .ok (.aload_n 0, 1) := by decide +kernel
theorem dX9_runs_109 : decode cX9_runs 109 = .ok (.getfield 44, 3) := by decide +kernel
theorem dX9_runs_112 : decode cX9_runs 112 = .ok (.aload_n 0, 1) := by decide +kernel
theorem dX9_runs_113 : decode cX9_runs 113 = .ok (.getfield 220, 3) := by decide +kernel
theorem dX9_runs_116 : decode cX9_runs 116 = .ok (.iload_n 3, 1) := by decide +kernel
theorem dX9_runs_117 : decode cX9_runs 117 = .ok (.iastore, 1) := by decide +kernel
theorem dX9_runs_118 : decode cX9_runs 118 = .ok (.aload_n 0, 1) := by decide +kernel
theorem dX9_runs_119 : decode cX9_runs 119 = .ok (.getfield 47, 3) := by decide +kernel
theorem dX9_runs_122 : decode cX9_runs 122 = .ok (.aload_n 0, 1) := by decide +kernel
theorem dX9_runs_123 : decode cX9_runs 123 = .ok (.getfield 220, 3) := by decide +kernel
theorem dX9_runs_126 : decode cX9_runs 126 = .ok (.aload_n 0, 1) := by decide +kernel
theorem dX9_runs_127 : decode cX9_runs 127 = .ok (.getfield 179, 3) := by decide +kernel
theorem dX9_runs_130 : decode cX9_runs 130 = .ok (.iastore, 1) := by decide +kernel
theorem dX9_runs_131 : decode cX9_runs 131 = .ok (.aload_n 0, 1) := by decide +kernel
theorem dX9_runs_132 : decode cX9_runs 132 = .ok (.dup, 1) := by decide +kernel
theorem dX9_runs_133 : decode cX9_runs 133 = .ok (.getfield 220, 3) := by decide +kernel
theorem dX9_runs_136 : decode cX9_runs 136 = .ok (.iconst 1, 1) := by decide +kernel
theorem dX9_runs_137 : decode cX9_runs 137 = .ok (.iadd, 1) := by decide +kernel
theorem dX9_runs_138 : decode cX9_runs 138 = .ok (.putfield 220, 3) := by decide +kernel
theorem dX9_runs_141 : decode cX9_runs 141 = .ok (.iinc 2 1, 3) := by decide +kernel
theorem dX9_runs_144 : decode cX9_runs 144 = .ok (.goto (-123), 3) := by decide +kernel
theorem dX9_runs_147 : decode cX9_runs 147 = .ok (.return_, 1) := by decide +kernel
set_option maxRecDepth 20000 in
theorem ggX9_output_X9_isRow : GoodIn wsX9_output wsX9_isRow := goodIn_r _ [7, 8, 9, 10, 6, 11] (by decide +kernel) (by decide +kernel)
set_option maxRecDepth 20000 in
theorem gX9_output_X9_isRow : GoodIn wsX9_output (va_wsS RX9 207 yX9_isRow wsX9_isRow) := goodIn_app (goodIn_of _ (by decide +kernel)) ggX9_output_X9_isRow
set_option maxRecDepth 20000 in
theorem ggX9_output_X9_runs : GoodIn wsX9_output wsX9_runs := goodIn_r _ [15, 2, 16, 17, 18, 19, 20, 21, 22, 23, 24, 25, 26, 27, 28, 29, 3, 30, 31, 32, 33, 34, 6, 35, 36, 37, 38, 39, 40, 41, 42, 43, 44, 45, 46, 47, 48, 49, 50, 51, 52, 53, 54, 55, 56, 57, 58, 59, 60, 61, 62, 9, 10, 11, 63, 64, 65, 66, 67, 68, 69, 70, 71, 72, 73, 74, 75, 76, 77, 78, 79, 80, 81, 82, 83, 84, 85, 86, 87, 88, 89, 90, 91, 92, 93, 94, 95, 96, 97, 98, 99, 100, 101, 102, 103, 104, 105, 106, 107, 108, 109, 110, 111, 112, 113, 114, 115, 116, 117, 118] (by decide +kernel) (by decide +kernel)
set_option maxRecDepth 20000 in
theorem gX9_output_X9_runs : GoodIn wsX9_output (wsV RX9 236 RX9 yX9_runs wsX9_runs) := goodIn_app (goodIn_of _ (by decide +kernel)) ggX9_output_X9_runs
set_option maxRecDepth 20000 in
theorem ggX9_output_X9_in : GoodIn wsX9_output wsX9_in := goodIn_r _ [11] (by decide +kernel) (by decide +kernel)
set_option maxRecDepth 20000 in
theorem gX9_output_X9_in : GoodIn wsX9_output (va_wsS RX9 100 yX9_in wsX9_in) := goodIn_app (goodIn_of _ (by decide +kernel)) ggX9_output_X9_in
theorem dX9_output_0 : decode cX9_output 0 = .ok (.iload_n 1, 1) := by decide +kernel
theorem dX9_output_1 : decode cX9_output 1 = .ok (.invokestatic 207, 3) := by decide +kernel
theorem dX9_output_4 : decode cX9_output 4 = .ok (.ifCond .ne 7, 3) := by decide +kernel
theorem dX9_output_7 : decode cX9_output 7 = .ok (.sipush (-1001), 3) := by decide +kernel
theorem dX9_output_10 : decode cX9_output 10 = .ok (.ireturn, 1) := by decide +kernel
theorem dX9_output_11 : decode cX9_output 11 = .ok (.aload_n 0, 1) := by decide +kernel
theorem dX9_output_12 : decode cX9_output 12 = .ok (.getfield 34, 3) := by decide +kernel
theorem dX9_output_15 : decode cX9_output 15 = .ok (.iload_n 1, 1) := by decide +kernel
theorem dX9_output_16 : decode cX9_output 16 = .ok (.iaload, 1) := by decide +kernel
theorem dX9_output_17 : decode cX9_output 17 = .ok (.ifCond .ge 7, 3) := by decide +kernel
theorem dX9_output_20 : decode cX9_output 20 = .ok (.sipush (-1011), 3) := by decide +kernel
theorem dX9_output_23 : decode cX9_output 23 = .ok (.ireturn, 1) := by decide +kernel
theorem dX9_output_24 : decode cX9_output 24 = .ok (.aload_n 0, 1) := by decide +kernel
theorem dX9_output_25 : decode cX9_output 25 = .ok (.iload_n 1, 1) := by decide +kernel
theorem dX9_output_26 : decode cX9_output 26 = .ok (.invokevirtual 236, 3) := by decide +kernel
theorem dX9_output_29 : decode cX9_output 29 = .ok (.iload_n 2, 1) := by decide +kernel
theorem dX9_output_30 : decode cX9_output 30 = .ok (.i2l, 1) := by decide +kernel
theorem dX9_output_31 : decode cX9_output 31 = .ok (.lconst 0, 1) := by decide +kernel
theorem dX9_output_32 : decode cX9_output 32 = .ok (.aload_n 0, 1) := by decide +kernel
theorem dX9_output_33 : decode cX9_output 33 = .ok (.getfield 220, 3) := by decide +kernel
theorem dX9_output_36 : decode cX9_output 36 = .ok (.iconst 1, 1) := by decide +kernel
theorem dX9_output_37 : decode cX9_output 37 = .ok (.isub, 1) := by decide +kernel
theorem dX9_output_38 : decode cX9_output 38 = .ok (.i2l, 1) := by decide +kernel
theorem dX9_output_39 : decode cX9_output 39 = .ok (.invokestatic 100, 3) := by decide +kernel
theorem dX9_output_42 : decode cX9_output 42 = .ok (.ifCond .eq 12, 3) := by decide +kernel
theorem dX9_output_45 : decode cX9_output 45 = .ok (.aload_n 0, 1) := by decide +kernel
theorem dX9_output_46 : decode cX9_output 46 = .ok (.getfield 44, 3) := by decide +kernel
theorem dX9_output_49 : decode cX9_output 49 = .ok (.iload_n 2, 1) := by decide +kernel
theorem dX9_output_50 : decode cX9_output 50 = .ok (.iaload, 1) := by decide +kernel
theorem dX9_output_51 : decode cX9_output 51 = .ok (.goto 6, 3) := by decide +kernel
theorem dX9_output_54 : decode cX9_output 54 = .ok (.sipush (-1002), 3) := by decide +kernel
theorem dX9_output_57 : decode cX9_output 57 = .ok (.ireturn, 1) := by decide +kernel
set_option maxRecDepth 20000 in
theorem ggX9_run_X9_isRow : GoodIn wsX9_run wsX9_isRow := goodIn_r _ [9, 10, 11, 12, 8, 13] (by decide +kernel) (by decide +kernel)
set_option maxRecDepth 20000 in
theorem gX9_run_X9_isRow : GoodIn wsX9_run (va_wsS RX9 207 yX9_isRow wsX9_isRow) := goodIn_app (goodIn_of _ (by decide +kernel)) ggX9_run_X9_isRow
set_option maxRecDepth 20000 in
theorem ggX9_run_X9_in : GoodIn wsX9_run wsX9_in := goodIn_r _ [13] (by decide +kernel) (by decide +kernel)
set_option maxRecDepth 20000 in
theorem gX9_run_X9_in : GoodIn wsX9_run (va_wsS RX9 100 yX9_in wsX9_in) := goodIn_app (goodIn_of _ (by decide +kernel)) ggX9_run_X9_in
set_option maxRecDepth 20000 in
theorem ggX9_run_X9_runs : GoodIn wsX9_run wsX9_runs := goodIn_r _ [17, 3, 4, 5, 18, 19, 20, 21, 22, 23, 24, 25, 26, 27, 28, 29, 30, 31, 32, 33, 34, 35, 8, 36, 37, 38, 39, 40, 41, 42, 43, 44, 45, 46, 47, 48, 49, 50, 51, 52, 53, 54, 55, 56, 57, 58, 59, 60, 61, 62, 63, 11, 12, 13, 64, 65, 66, 67, 68, 69, 70, 71, 72, 73, 74, 75, 76, 77, 78, 79, 80, 81, 82, 83, 84, 85, 86, 87, 88, 89, 90, 91, 92, 93, 94, 95, 96, 97, 98, 99, 100, 101, 102, 103, 104, 105, 106, 107, 108, 109, 110, 111, 112, 113, 114, 115, 116, 117, 118, 119] (by decide +kernel) (by decide +kernel)
set_option maxRecDepth 20000 in
theorem gX9_run_X9_runs : GoodIn wsX9_run (wsV RX9 236 RX9 yX9_runs wsX9_runs) := goodIn_app (goodIn_of _ (by decide +kernel)) ggX9_run_X9_runs
theorem dX9_run_0 : decode cX9_run 0 = .ok (.iload_n 1, 1) := by decide +kernel
theorem dX9_run_1 : decode cX9_run 1 = .ok (.invokestatic 207, 3) := by decide +kernel
theorem dX9_run_4 : decode cX9_run 4 = .ok (.ifCond .eq 15, 3) := by decide +kernel
theorem dX9_run_7 : decode cX9_run 7 = .ok (.iload_n 2, 1) := by decide +kernel
theorem dX9_run_8 : decode cX9_run 8 = .ok (.i2l, 1) := by decide +kernel
theorem dX9_run_9 : decode cX9_run 9 = .ok (.lconst 0, 1) := by decide +kernel
theorem dX9_run_10 : decode cX9_run 10 = .ok (.ldc2_w 212, 3) := by decide +kernel
theorem dX9_run_13 : decode cX9_run 13 = .ok (.invokestatic 100, 3) := by decide +kernel
theorem dX9_run_16 : decode cX9_run 16 = .ok (.ifCond .ne 5, 3) := by decide +kernel
theorem dX9_run_19 : decode cX9_run 19 = .ok (.iconst (-1), 1) := by decide +kernel
theorem dX9_run_20 : decode cX9_run 20 = .ok (.ireturn, 1) := by decide +kernel
theorem dX9_run_21 : decode cX9_run 21 = .ok (.aload_n 0, 1) := by decide +kernel
theorem dX9_run_22 : decode cX9_run 22 = .ok (.getfield 34, 3) := by decide +kernel
theorem dX9_run_25 : decode cX9_run 25 = .ok (.iload_n 1, 1) := by decide +kernel
theorem dX9_run_26 : decode cX9_run 26 = .ok (.iaload, 1) := by decide +kernel
theorem dX9_run_27 : decode cX9_run 27 = .ok (.ifCond .ge 6, 3) := by decide +kernel
theorem dX9_run_30 : decode cX9_run 30 = .ok (.bipush (-11), 2) := by decide +kernel
theorem dX9_run_32 : decode cX9_run 32 = .ok (.ireturn, 1) := by decide +kernel
theorem dX9_run_33 : decode cX9_run 33 = .ok (.aload_n 0, 1) := by decide +kernel
theorem dX9_run_34 : decode cX9_run 34 = .ok (.iload_n 1, 1) := by decide +kernel
theorem dX9_run_35 : decode cX9_run 35 = .ok (.invokevirtual 236, 3) := by decide +kernel
theorem dX9_run_38 : decode cX9_run 38 = .ok (.iload_n 2, 1) := by decide +kernel
theorem dX9_run_39 : decode cX9_run 39 = .ok (.ifCond .ne 10, 3) := by decide +kernel
theorem dX9_run_42 : decode cX9_run 42 = .ok (.aload_n 0, 1) := by decide +kernel
theorem dX9_run_43 : decode cX9_run 43 = .ok (.getfield 220, 3) := by decide +kernel
theorem dX9_run_46 : decode cX9_run 46 = .ok (.goto 27, 3) := by decide +kernel
theorem dX9_run_49 : decode cX9_run 49 = .ok (.iload_n 2, 1) := by decide +kernel
theorem dX9_run_50 : decode cX9_run 50 = .ok (.iconst 1, 1) := by decide +kernel
theorem dX9_run_51 : decode cX9_run 51 = .ok (.if_icmp .ne 10, 3) := by decide +kernel
theorem dX9_run_54 : decode cX9_run 54 = .ok (.aload_n 0, 1) := by decide +kernel
theorem dX9_run_55 : decode cX9_run 55 = .ok (.getfield 223, 3) := by decide +kernel
theorem dX9_run_58 : decode cX9_run 58 = .ok (.goto 15, 3) := by decide +kernel
theorem dX9_run_61 : decode cX9_run 61 = .ok (.aload_n 0, 1) := by decide +kernel
theorem dX9_run_62 : decode cX9_run 62 = .ok (.getfield 226, 3) := by decide +kernel
theorem dX9_run_65 : decode cX9_run 65 = .ok (.ifCond .eq 7, 3) := by decide +kernel
theorem dX9_run_68 : decode cX9_run 68 = .ok (.iconst 1, 1) := by decide +kernel
theorem dX9_run_69 : decode cX9_run 69 = .ok (.goto 4, 3) := by decide +kernel
theorem dX9_run_72 : decode cX9_run 72 = .ok (.iconst 0, 1) := by decide +kernel
theorem dX9_run_73 : decode cX9_run 73 = .ok (.ireturn, 1) := by decide +kernel
set_option maxRecDepth 20000 in
theorem ggX9_go_X9_isRow : GoodIn wsX9_go wsX9_isRow := goodIn_r _ [9, 10, 11, 12, 8, 13] (by decide +kernel) (by decide +kernel)
set_option maxRecDepth 20000 in
theorem gX9_go_X9_isRow : GoodIn wsX9_go (va_wsS RX9 207 yX9_isRow wsX9_isRow) := goodIn_app (goodIn_of _ (by decide +kernel)) ggX9_go_X9_isRow
set_option maxRecDepth 20000 in
theorem ggX9_go_X9_runs : GoodIn wsX9_go wsX9_runs := goodIn_r _ [17, 3, 18, 4, 19, 20, 21, 22, 23, 24, 25, 26, 27, 28, 29, 30, 31, 32, 33, 34, 35, 36, 8, 37, 38, 39, 40, 41, 42, 43, 44, 5, 45, 46, 47, 48, 49, 50, 51, 52, 53, 54, 55, 56, 57, 58, 59, 60, 61, 62, 63, 11, 12, 13, 64, 65, 66, 67, 68, 69, 70, 81, 82, 83, 84, 85, 86, 87, 88, 89, 90, 91, 92, 93, 94, 95, 96, 97, 98, 99, 100, 101, 102, 103, 104, 105, 106, 107, 108, 109, 110, 111, 112, 113, 114, 115, 116, 117, 118, 119, 120, 121, 122, 123, 124, 125, 126, 127, 128, 129] (by decide +kernel) (by decide +kernel)
set_option maxRecDepth 20000 in
theorem gX9_go_X9_runs : GoodIn wsX9_go (wsV RX9 236 RX9 yX9_runs wsX9_runs) := goodIn_app (goodIn_of _ (by decide +kernel)) ggX9_go_X9_runs
set_option maxRecDepth 20000 in
theorem ggX9_go_X9_lays : GoodIn wsX9_go wsX9_lays := goodIn_r _ [74, 39, 38, 81, 82, 83, 84, 85, 86, 87, 88, 89, 90, 91, 92, 93, 94, 95, 96, 97, 98, 99, 100, 101, 102, 103, 104, 105, 106, 107, 108, 109, 110, 111, 112, 113, 114, 115, 116, 117, 118, 119, 120, 121, 122, 123, 124, 125, 126, 127, 128, 129] (by decide +kernel) (by decide +kernel)
set_option maxRecDepth 20000 in
theorem gX9_go_X9_lays : GoodIn wsX9_go (wsV RX9 201 RX9 yX9_lays wsX9_lays) := goodIn_app (goodIn_of _ (by decide +kernel)) ggX9_go_X9_lays
set_option maxRecDepth 20000 in
theorem ggX9_go_X9_causes : GoodIn wsX9_go wsX9_causes := goodIn_r _ [78, 79, 80, 81, 82, 83, 84, 85, 86, 87, 88, 89, 90, 91, 92, 93, 94, 95, 96, 97, 98, 99, 100, 101, 102, 103, 104, 105, 106, 107, 108, 109, 110, 111, 112, 113, 114, 115, 116, 117, 118, 119, 120, 121, 122, 123, 124, 125, 126, 127, 128, 129] (by decide +kernel) (by decide +kernel)
set_option maxRecDepth 20000 in
theorem gX9_go_X9_causes : GoodIn wsX9_go (wsV RX9 199 RX9 yX9_causes wsX9_causes) := goodIn_app (goodIn_of _ (by decide +kernel)) ggX9_go_X9_causes
theorem dX9_go_0 : decode cX9_go 0 = .ok (.iload_n 1, 1) := by decide +kernel
theorem dX9_go_1 : decode cX9_go 1 = .ok (.invokestatic 207, 3) := by decide +kernel
theorem dX9_go_4 : decode cX9_go 4 = .ok (.ifCond .ne 5, 3) := by decide +kernel
theorem dX9_go_7 : decode cX9_go 7 = .ok (.iconst (-1), 1) := by decide +kernel
theorem dX9_go_8 : decode cX9_go 8 = .ok (.ireturn, 1) := by decide +kernel
theorem dX9_go_9 : decode cX9_go 9 = .ok (.aload_n 0, 1) := by decide +kernel
theorem dX9_go_10 : decode cX9_go 10 = .ok (.getfield 34, 3) := by decide +kernel
theorem dX9_go_13 : decode cX9_go 13 = .ok (.iload_n 1, 1) := by decide +kernel
theorem dX9_go_14 : decode cX9_go 14 = .ok (.iaload, 1) := by decide +kernel
theorem dX9_go_15 : decode cX9_go 15 = .ok (.ifCond .ge 6, 3) := by decide +kernel
theorem dX9_go_18 : decode cX9_go 18 = .ok (.bipush (-11), 2) := by decide +kernel
theorem dX9_go_20 : decode cX9_go 20 = .ok (.ireturn, 1) := by decide +kernel
theorem dX9_go_21 : decode cX9_go 21 = .ok (.aload_n 0, 1) := by decide +kernel
theorem dX9_go_22 : decode cX9_go 22 = .ok (.iload_n 1, 1) := by decide +kernel
theorem dX9_go_23 : decode cX9_go 23 = .ok (.invokevirtual 236, 3) := by decide +kernel
theorem dX9_go_26 : decode cX9_go 26 = .ok (.aload_n 0, 1) := by decide +kernel
theorem dX9_go_27 : decode cX9_go 27 = .ok (.invokevirtual 201, 3) := by decide +kernel
theorem dX9_go_30 : decode cX9_go 30 = .ok (.aload_n 0, 1) := by decide +kernel
theorem dX9_go_31 : decode cX9_go 31 = .ok (.dup, 1) := by decide +kernel
theorem dX9_go_32 : decode cX9_go 32 = .ok (.getfield 204, 3) := by decide +kernel
theorem dX9_go_35 : decode cX9_go 35 = .ok (.aload_n 0, 1) := by decide +kernel
theorem dX9_go_36 : decode cX9_go 36 = .ok (.getfield 220, 3) := by decide +kernel
theorem dX9_go_39 : decode cX9_go 39 = .ok (.iadd, 1) := by decide +kernel
theorem dX9_go_40 : decode cX9_go 40 = .ok (.putfield 204, 3) := by decide +kernel
theorem dX9_go_43 : decode cX9_go 43 = .ok (.aload_n 0, 1) := by decide +kernel
theorem dX9_go_44 : decode cX9_go 44 = .ok (.getfield 226, 3) := by decide +kernel
theorem dX9_go_47 : decode cX9_go 47 = .ok (.ifCond .eq 16, 3) := by decide +kernel
theorem dX9_go_50 : decode cX9_go 50 = .ok (.aload_n 0, 1) := by decide +kernel
theorem dX9_go_51 : decode cX9_go 51 = .ok (.aload_n 0, 1) := by decide +kernel
theorem dX9_go_52 : decode cX9_go 52 = .ok (.getfield 220, 3) := by decide +kernel
theorem dX9_go_55 : decode cX9_go 55 = .ok (.iconst 0, 1) := by decide +kernel
theorem dX9_go_56 : decode cX9_go 56 = .ok (.aload_n 0, 1) := by decide +kernel
theorem dX9_go_57 : decode cX9_go 57 = .ok (.getfield 176, 3) := by decide +kernel
theorem dX9_go_60 : decode cX9_go 60 = .ok (.invokevirtual 199, 3) := by decide +kernel
theorem dX9_go_63 : decode cX9_go 63 = .ok (.aload_n 0, 1) := by decide +kernel
theorem dX9_go_64 : decode cX9_go 64 = .ok (.getfield 220, 3) := by decide +kernel
theorem dX9_go_67 : decode cX9_go 67 = .ok (.ireturn, 1) := by decide +kernel
set_option maxRecDepth 20000 in
theorem ggX9_film_X9_isRow : GoodIn wsX9_film wsX9_isRow := goodIn_r _ [9, 10, 11, 12, 8, 13] (by decide +kernel) (by decide +kernel)
set_option maxRecDepth 20000 in
theorem gX9_film_X9_isRow : GoodIn wsX9_film (va_wsS RX9 207 yX9_isRow wsX9_isRow) := goodIn_app (goodIn_of _ (by decide +kernel)) ggX9_film_X9_isRow
set_option maxRecDepth 20000 in
theorem ggX9_film_X9_in : GoodIn wsX9_film wsX9_in := goodIn_r _ [13] (by decide +kernel) (by decide +kernel)
set_option maxRecDepth 20000 in
theorem gX9_film_X9_in : GoodIn wsX9_film (va_wsS RX9 100 yX9_in wsX9_in) := goodIn_app (goodIn_of _ (by decide +kernel)) ggX9_film_X9_in
set_option maxRecDepth 20000 in
theorem ggX9_film_X9_runs : GoodIn wsX9_film wsX9_runs := goodIn_r _ [17, 3, 18, 19, 20, 21, 22, 4, 23, 24, 25, 26, 27, 28, 29, 30, 5, 31, 32, 33, 34, 35, 8, 36, 37, 38, 39, 40, 41, 42, 43, 44, 45, 46, 47, 48, 49, 50, 51, 52, 53, 54, 55, 56, 57, 58, 59, 60, 61, 62, 63, 11, 12, 13, 64, 65, 66, 67, 68, 69, 70, 76, 77, 78, 79, 80, 81, 82, 83, 84, 85, 86, 87, 88, 89, 90, 91, 92, 93, 94, 95, 96, 97, 98, 99, 100, 101, 102, 103, 104, 105, 106, 107, 108, 109, 110, 111, 112, 113, 114, 115, 116, 117, 118, 119, 120, 121, 122, 123, 124] (by decide +kernel) (by decide +kernel)
set_option maxRecDepth 20000 in
theorem gX9_film_X9_runs : GoodIn wsX9_film (wsV RX9 236 RX9 yX9_runs wsX9_runs) := goodIn_app (goodIn_of _ (by decide +kernel)) ggX9_film_X9_runs
set_option maxRecDepth 20000 in
theorem ggX9_film_X9_row : GoodIn wsX9_film wsX9_row := goodIn_r _ [74, 75, 1, 2, 20, 4, 6, 7, 8, 9, 10, 11, 12, 13, 76, 77, 78, 79, 80, 81, 82, 83, 84, 85, 86, 87, 88, 89, 90, 91, 92, 93, 94, 95, 96, 97, 98, 99, 100, 101, 102, 103, 104, 105, 106, 107, 108, 109, 110, 111, 112, 113, 114, 115, 116, 117, 118, 119, 120, 121, 122, 123, 124] (by decide +kernel) (by decide +kernel)
set_option maxRecDepth 20000 in
theorem gX9_film_X9_row : GoodIn wsX9_film (wsV RX9 240 RX9 yX9_row wsX9_row) := goodIn_app (goodIn_of _ (by decide +kernel)) ggX9_film_X9_row
theorem dX9_film_0 : decode cX9_film 0 = .ok (.iload_n 1, 1) := by decide +kernel
theorem dX9_film_1 : decode cX9_film 1 = .ok (.invokestatic 207, 3) := by decide +kernel
theorem dX9_film_4 : decode cX9_film 4 = .ok (.ifCond .eq 22, 3) := by decide +kernel
theorem dX9_film_7 : decode cX9_film 7 = .ok (.iload_n 2, 1) := by decide +kernel
theorem dX9_film_8 : decode cX9_film 8 = .ok (.i2l, 1) := by decide +kernel
theorem dX9_film_9 : decode cX9_film 9 = .ok (.lconst 0, 1) := by decide +kernel
theorem dX9_film_10 : decode cX9_film 10 = .ok (.ldc2_w 212, 3) := by decide +kernel
theorem dX9_film_13 : decode cX9_film 13 = .ok (.invokestatic 100, 3) := by decide +kernel
theorem dX9_film_16 : decode cX9_film 16 = .ok (.ifCond .eq 10, 3) := by decide +kernel
theorem dX9_film_19 : decode cX9_film 19 = .ok (.iload_n 3, 1) := by decide +kernel
theorem dX9_film_20 : decode cX9_film 20 = .ok (.invokestatic 207, 3) := by decide +kernel
theorem dX9_film_23 : decode cX9_film 23 = .ok (.ifCond .ne 5, 3) := by decide +kernel
theorem dX9_film_26 : decode cX9_film 26 = .ok (.iconst (-1), 1) := by decide +kernel
theorem dX9_film_27 : decode cX9_film 27 = .ok (.ireturn, 1) := by decide +kernel
theorem dX9_film_28 : decode cX9_film 28 = .ok (.aload_n 0, 1) := by decide +kernel
theorem dX9_film_29 : decode cX9_film 29 = .ok (.getfield 34, 3) := by decide +kernel
theorem dX9_film_32 : decode cX9_film 32 = .ok (.iload_n 3, 1) := by decide +kernel
theorem dX9_film_33 : decode cX9_film 33 = .ok (.iaload, 1) := by decide +kernel
theorem dX9_film_34 : decode cX9_film 34 = .ok (.ifCond .ge 6, 3) := by decide +kernel
theorem dX9_film_37 : decode cX9_film 37 = .ok (.bipush (-11), 2) := by decide +kernel
theorem dX9_film_39 : decode cX9_film 39 = .ok (.ireturn, 1) := by decide +kernel
theorem dX9_film_40 : decode cX9_film 40 = .ok (.aload_n 0, 1) := by decide +kernel
theorem dX9_film_41 : decode cX9_film 41 = .ok (.iload_n 3, 1) := by decide +kernel
theorem dX9_film_42 : decode cX9_film 42 = .ok (.invokevirtual 236, 3) := by decide +kernel
theorem dX9_film_45 : decode cX9_film 45 = .ok (.aload_n 0, 1) := by decide +kernel
theorem dX9_film_46 : decode cX9_film 46 = .ok (.iload_n 1, 1) := by decide +kernel
theorem dX9_film_47 : decode cX9_film 47 = .ok (.iload_n 2, 1) := by decide +kernel
theorem dX9_film_48 : decode cX9_film 48 = .ok (.aload_n 0, 1) := by decide +kernel
theorem dX9_film_49 : decode cX9_film 49 = .ok (.getfield 220, 3) := by decide +kernel
theorem dX9_film_52 : decode cX9_film 52 = .ok (.invokevirtual 240, 3) := by decide +kernel
theorem dX9_film_55 : decode cX9_film 55 = .ok (.pop, 1) := by decide +kernel
theorem dX9_film_56 : decode cX9_film 56 = .ok (.iconst 0, 1) := by decide +kernel
theorem dX9_film_57 : decode cX9_film 57 = .ok (.istore 4, 2) := by decide +kernel
theorem dX9_film_59 : decode cX9_film 59 = .ok (.iload 4, 2) := by decide +kernel
theorem dX9_film_61 : decode cX9_film 61 = .ok (.aload_n 0, 1) := by decide +kernel
theorem dX9_film_62 : decode cX9_film 62 = .ok (.getfield 220, 3) := by decide +kernel
theorem dX9_film_65 : decode cX9_film 65 = .ok (.if_icmp .ge 26, 3) := by decide +kernel
theorem dX9_film_68 : decode cX9_film 68 = .ok (.aload_n 0, 1) := by decide +kernel
theorem dX9_film_69 : decode cX9_film 69 = .ok (.getfield 31, 3) := by decide +kernel
theorem dX9_film_72 : decode cX9_film 72 = .ok (.iload_n 1, 1) := by decide +kernel
theorem dX9_film_73 : decode cX9_film 73 = .ok (.aaload, 1) := by decide +kernel
theorem dX9_film_74 : decode cX9_film 74 = .ok (.iload 4, 2) := by decide +kernel
theorem dX9_film_76 : decode cX9_film 76 = .ok (.aload_n 0, 1) := by decide +kernel
theorem dX9_film_77 : decode cX9_film 77 = .ok (.getfield 44, 3) := by decide +kernel
theorem dX9_film_80 : decode cX9_film 80 = .ok (.iload 4, 2) := by decide +kernel
theorem dX9_film_82 : decode cX9_film 82 = .ok (.iaload, 1) := by decide +kernel
theorem dX9_film_83 : decode cX9_film 83 = .ok (.i2l, 1) := by decide +kernel
theorem dX9_film_84 : decode cX9_film 84 = .ok (.lastore, 1) := by decide +kernel
theorem dX9_film_85 : decode cX9_film 85 = .ok (.iinc 4 1, 3) := by decide +kernel
theorem dX9_film_88 : decode cX9_film 88 = .ok (.goto (-29), 3) := by decide +kernel
theorem dX9_film_91 : decode cX9_film 91 = .ok (.aload_n 0, 1) := by decide +kernel
theorem dX9_film_92 : decode cX9_film 92 = .ok (.getfield 220, 3) := by decide +kernel
theorem dX9_film_95 : decode cX9_film 95 = .ok (.ireturn, 1) := by decide +kernel
theorem dX9_common_0 : decode cX9_common 0 = .ok (.lload_n 0, 1) := by decide +kernel
theorem dX9_common_1 : decode cX9_common 1 = .ok (.invokestatic 243, 3) := by decide +kernel
theorem dX9_common_4 : decode cX9_common 4 = .ok (.lstore 4, 2) := by decide +kernel
theorem dX9_common_6 : decode cX9_common 6 = .ok (.lload_n 2, 1) := by decide +kernel
theorem dX9_common_7 : decode cX9_common 7 = .ok (.invokestatic 243, 3) := by decide +kernel
theorem dX9_common_10 : decode cX9_common 10 = .ok (.lstore 6, 2) := by decide +kernel
theorem dX9_common_12 : decode cX9_common 12 = .ok (.lload 6, 2) := by decide +kernel
theorem dX9_common_14 : decode cX9_common 14 = .ok (.lconst 0, 1) := by decide +kernel
theorem dX9_common_15 : decode cX9_common 15 = .ok (.lcmp, 1) := by decide +kernel
theorem dX9_common_16 : decode cX9_common 16 = .ok (.ifCond .eq 21, 3) := by decide +kernel
theorem dX9_common_19 : decode cX9_common 19 = .ok (.lload 4, 2) := by decide +kernel
theorem dX9_common_21 : decode cX9_common 21 = .ok (.lload 6, 2) := by decide +kernel
theorem dX9_common_23 : decode cX9_common 23 = .ok (.lrem, 1) := by decide +kernel
theorem dX9_common_24 : decode cX9_common 24 = .ok (.lstore 8, 2) := by decide +kernel
theorem dX9_common_26 : decode cX9_common 26 = .ok (.lload 6, 2) := by decide +kernel
theorem dX9_common_28 : decode cX9_common 28 = .ok (.lstore 4, 2) := by decide +kernel
theorem dX9_common_30 : decode cX9_common 30 = .ok (.lload 8, 2) := by decide +kernel
theorem dX9_common_32 : decode cX9_common 32 = .ok (.lstore 6, 2) := by decide +kernel
theorem dX9_common_34 : decode cX9_common 34 = .ok (.goto (-22), 3) := by decide +kernel
theorem dX9_common_37 : decode cX9_common 37 = .ok (.lload 4, 2) := by decide +kernel
theorem dX9_common_39 : decode cX9_common 39 = .ok (.lreturn, 1) := by decide +kernel
set_option maxRecDepth 20000 in
theorem ggX9_lowest_X9_common : GoodIn wsX9_lowest wsX9_common := goodIn_r _ [4, 5, 6, 7, 8] (by decide +kernel) (by decide +kernel)
set_option maxRecDepth 20000 in
theorem gX9_lowest_X9_common : GoodIn wsX9_lowest (va_wsS RX9 247 yX9_common wsX9_common) := goodIn_app (goodIn_of _ (by decide +kernel)) ggX9_lowest_X9_common
theorem dX9_lowest_0 : decode cX9_lowest 0 = .ok (.iload 4, 2) := by decide +kernel
theorem dX9_lowest_2 : decode cX9_lowest 2 = .ok (.ifCond .ne 7, 3) := by decide +kernel
theorem dX9_lowest_5 : decode cX9_lowest 5 = .ok (.lload_n 0, 1) := by decide +kernel
theorem dX9_lowest_6 : decode cX9_lowest 6 = .ok (.goto 4, 3) := by decide +kernel
theorem dX9_lowest_9 : decode cX9_lowest 9 = .ok (.lload_n 2, 1) := by decide +kernel
theorem dX9_lowest_10 : decode cX9_lowest 10 = .ok (.lload_n 0, 1) := by decide +kernel
theorem dX9_lowest_11 : decode cX9_lowest 11 = .ok (.lload_n 2, 1) := by decide +kernel
theorem dX9_lowest_12 : decode cX9_lowest 12 = .ok (.invokestatic 247, 3) := by decide +kernel
theorem dX9_lowest_15 : decode cX9_lowest 15 = .ok (.ldiv, 1) := by decide +kernel
theorem dX9_lowest_16 : decode cX9_lowest 16 = .ok (.lreturn, 1) := by decide +kernel
set_option maxRecDepth 20000 in
theorem ggX9_isThere_X9_isRow : GoodIn wsX9_isThere wsX9_isRow := goodIn_r _ [5, 6, 7, 8, 4, 9] (by decide +kernel) (by decide +kernel)
set_option maxRecDepth 20000 in
theorem gX9_isThere_X9_isRow : GoodIn wsX9_isThere (va_wsS RX9 207 yX9_isRow wsX9_isRow) := goodIn_app (goodIn_of _ (by decide +kernel)) ggX9_isThere_X9_isRow
theorem dX9_isThere_0 : decode cX9_isThere 0 = .ok (.iload_n 1, 1) := by decide +kernel
theorem dX9_isThere_1 : decode cX9_isThere 1 = .ok (.invokestatic 207, 3) := by decide +kernel
theorem dX9_isThere_4 : decode cX9_isThere 4 = .ok (.ifCond .eq 16, 3) := by decide +kernel
theorem dX9_isThere_7 : decode cX9_isThere 7 = .ok (.aload_n 0, 1) := by decide +kernel
theorem dX9_isThere_8 : decode cX9_isThere 8 = .ok (.getfield 34, 3) := by decide +kernel
theorem dX9_isThere_11 : decode cX9_isThere 11 = .ok (.iload_n 1, 1) := by decide +kernel
theorem dX9_isThere_12 : decode cX9_isThere 12 = .ok (.iaload, 1) := by decide +kernel
theorem dX9_isThere_13 : decode cX9_isThere 13 = .ok (.ifCond .lt 7, 3) := by decide +kernel
theorem dX9_isThere_16 : decode cX9_isThere 16 = .ok (.iconst 1, 1) := by decide +kernel
theorem dX9_isThere_17 : decode cX9_isThere 17 = .ok (.goto 4, 3) := by decide +kernel
theorem dX9_isThere_20 : decode cX9_isThere 20 = .ok (.iconst 0, 1) := by decide +kernel
theorem dX9_isThere_21 : decode cX9_isThere 21 = .ok (.ireturn, 1) := by decide +kernel
set_option maxRecDepth 20000 in
theorem ggX9_noise_X9_isThere : GoodIn wsX9_noise wsX9_isThere := goodIn_r _ [13, 14, 15, 16, 12, 17, 18, 19, 20, 21, 87, 88, 89, 90, 91, 92, 93, 94, 95, 96, 97, 98, 99, 100, 101, 102, 103, 104, 105, 106, 107, 108, 109, 110, 111, 112, 113, 114, 115, 116, 117, 118, 119, 120, 121, 122, 123, 124, 125, 126, 127, 128, 129, 130, 131, 132, 133, 134, 135] (by decide +kernel) (by decide +kernel)
set_option maxRecDepth 20000 in
theorem gX9_noise_X9_isThere : GoodIn wsX9_noise (wsV RX9 250 RX9 yX9_isThere wsX9_isThere) := goodIn_app (goodIn_of _ (by decide +kernel)) ggX9_noise_X9_isThere
set_option maxRecDepth 20000 in
theorem ggX9_noise_X9_in : GoodIn wsX9_noise wsX9_in := goodIn_r _ [21] (by decide +kernel) (by decide +kernel)
set_option maxRecDepth 20000 in
theorem gX9_noise_X9_in : GoodIn wsX9_noise (va_wsS RX9 100 yX9_in wsX9_in) := goodIn_app (goodIn_of _ (by decide +kernel)) ggX9_noise_X9_in
set_option maxRecDepth 20000 in
theorem ggX9_noise_X9_runs : GoodIn wsX9_noise wsX9_runs := goodIn_r _ [25, 2, 26, 27, 28, 29, 30, 31, 32, 33, 6, 34, 35, 36, 37, 38, 39, 3, 40, 41, 42, 43, 12, 44, 45, 8, 46, 47, 48, 49, 50, 51, 52, 53, 54, 55, 56, 57, 58, 59, 60, 61, 62, 63, 64, 65, 66, 67, 68, 69, 70, 19, 20, 21, 71, 72, 73, 74, 75, 76, 77, 87, 88, 89, 90, 91, 92, 93, 94, 95, 96, 97, 98, 99, 100, 101, 102, 103, 104, 105, 106, 107, 108, 109, 110, 111, 112, 113, 114, 115, 116, 117, 118, 119, 120, 121, 122, 123, 124, 125, 126, 127, 128, 129, 130, 131, 132, 133, 134, 135] (by decide +kernel) (by decide +kernel)
set_option maxRecDepth 20000 in
theorem gX9_noise_X9_runs : GoodIn wsX9_noise (wsV RX9 236 RX9 yX9_runs wsX9_runs) := goodIn_app (goodIn_of _ (by decide +kernel)) ggX9_noise_X9_runs
set_option maxRecDepth 20000 in
theorem ggX9_noise_X9_lowest : GoodIn wsX9_noise wsX9_lowest := goodIn_r _ [80, 81, 82, 12, 83, 84, 85, 6, 86] (by decide +kernel) (by decide +kernel)
set_option maxRecDepth 20000 in
theorem gX9_noise_X9_lowest : GoodIn wsX9_noise (va_wsS RX9 255 yX9_lowest wsX9_lowest) := goodIn_app (goodIn_of _ (by decide +kernel)) ggX9_noise_X9_lowest
theorem dX9_noise_0 : decode cX9_noise 0 = .ok (.aload_n 0, 1) := by decide +kernel
theorem dX9_noise_1 : decode cX9_noise 1 = .ok (.iload_n 1, 1) := by decide +kernel
theorem dX9_noise_2 : decode cX9_noise 2 = .ok (.invokevirtual 250, 3) := by decide +kernel
theorem dX9_noise_5 : decode cX9_noise 5 = .ok (.ifCond .eq 13, 3) := by decide +kernel
theorem dX9_noise_8 : decode cX9_noise 8 = .ok (.iload_n 2, 1) := by decide +kernel
theorem dX9_noise_9 : decode cX9_noise 9 = .ok (.i2l, 1) := by decide +kernel
theorem dX9_noise_10 : decode cX9_noise 10 = .ok (.lconst 0, 1) := by decide +kernel
theorem dX9_noise_11 : decode cX9_noise 11 = .ok (.lconst 1, 1) := by decide +kernel
theorem dX9_noise_12 : decode cX9_noise 12 = .ok (.invokestatic 100, 3) := by decide +kernel
theorem dX9_noise_15 : decode cX9_noise 15 = .ok (.ifCond .ne 7, 3) := by decide +kernel
theorem dX9_noise_18 : decode cX9_noise 18 = .ok (.ldc2_w 218, 3) := by decide +kernel
theorem dX9_noise_21 : decode cX9_noise 21 = .ok (.lreturn, 1) := by decide +kernel
theorem dX9_noise_22 : decode cX9_noise 22 = .ok (.aload_n 0, 1) := by decide +kernel
theorem dX9_noise_23 : decode cX9_noise 23 = .ok (.iload_n 1, 1) := by decide +kernel
theorem dX9_noise_24 : decode cX9_noise 24 = .ok (.invokevirtual 236, 3) := by decide +kernel
theorem dX9_noise_27 : decode cX9_noise 27 = .ok (.lconst 0, 1) := by decide +kernel
theorem dX9_noise_28 : decode cX9_noise 28 = .ok (.lstore_n 3, 1) := by decide +kernel
theorem dX9_noise_29 : decode cX9_noise 29 = .ok (.iconst 0, 1) := by decide +kernel
theorem dX9_noise_30 : decode cX9_noise 30 = .ok (.istore 5, 2) := by decide +kernel
theorem dX9_noise_32 : decode cX9_noise 32 = .ok (.iload 5, 2) := by decide +kernel
theorem dX9_noise_34 : decode cX9_noise 34 = .ok (.aload_n 0, 1) := by decide +kernel
theorem dX9_noise_35 : decode cX9_noise 35 = .ok (.getfield 220, 3) := by decide +kernel
theorem dX9_noise_38 : decode cX9_noise 38 = .ok (.if_icmp .ge 23, 3) := by decide +kernel
theorem dX9_noise_41 : decode cX9_noise 41 = .ok (.lload_n 3, 1) := by decide +kernel
theorem dX9_noise_42 : decode cX9_noise 42 = .ok (.aload_n 0, 1) := by decide +kernel
theorem dX9_noise_43 : decode cX9_noise 43 = .ok (.getfield 47, 3) := by decide +kernel
theorem dX9_noise_46 : decode cX9_noise 46 = .ok (.iload 5, 2) := by decide +kernel
theorem dX9_noise_48 : decode cX9_noise 48 = .ok (.iaload, 1) := by decide +kernel
theorem dX9_noise_49 : decode cX9_noise 49 = .ok (.invokestatic 253, 3) := by decide +kernel
theorem dX9_noise_52 : decode cX9_noise 52 = .ok (.i2l, 1) := by decide +kernel
theorem dX9_noise_53 : decode cX9_noise 53 = .ok (.ladd, 1) := by decide +kernel
theorem dX9_noise_54 : decode cX9_noise 54 = .ok (.lstore_n 3, 1) := by decide +kernel
theorem dX9_noise_55 : decode cX9_noise 55 = .ok (.iinc 5 1, 3) := by decide +kernel
theorem dX9_noise_58 : decode cX9_noise 58 = .ok (.goto (-26), 3) := by decide +kernel
theorem dX9_noise_61 : decode cX9_noise 61 = .ok (.lload_n 3, 1) := by decide +kernel
theorem dX9_noise_62 : decode cX9_noise 62 = .ok (.lconst 1, 1) := by decide +kernel
theorem dX9_noise_63 : decode cX9_noise 63 = .ok (.aload_n 0, 1) := by decide +kernel
theorem dX9_noise_64 : decode cX9_noise 64 = .ok (.getfield 11, 3) := by decide +kernel
theorem dX9_noise_67 : decode cX9_noise 67 = .ok (.bipush 6, 2) := by decide +kernel
theorem dX9_noise_69 : decode cX9_noise 69 = .ok (.iaload, 1) := by decide +kernel
theorem dX9_noise_70 : decode cX9_noise 70 = .ok (.lshl, 1) := by decide +kernel
theorem dX9_noise_71 : decode cX9_noise 71 = .ok (.iload_n 2, 1) := by decide +kernel
theorem dX9_noise_72 : decode cX9_noise 72 = .ok (.invokestatic 255, 3) := by decide +kernel
theorem dX9_noise_75 : decode cX9_noise 75 = .ok (.lreturn, 1) := by decide +kernel
set_option maxRecDepth 20000 in
theorem ggX9_findLevels_X9_runs : GoodIn wsX9_findLevels wsX9_runs := goodIn_r _ [10, 2, 11, 12, 13, 14, 15, 16, 17, 18, 19, 20, 21, 22, 23, 24, 25, 4, 26, 27, 28, 29, 9, 30, 31, 32, 33, 34, 35, 36, 37, 38, 39, 40, 41, 42, 43, 44, 45, 46, 47, 48, 49, 50, 51, 52, 53, 54, 55, 56, 57, 58, 59, 60, 61, 62, 63, 64, 65, 66, 67, 68, 69, 70, 71, 72, 73, 74, 75, 76, 77, 78, 79, 80, 81, 82, 83, 84, 85, 86, 87, 88, 89, 90, 91, 92, 93, 94, 95, 96, 97, 98, 99, 100, 101, 102, 103, 104, 105, 106, 107, 108, 109, 110, 111, 112, 113, 114, 115, 116] (by decide +kernel) (by decide +kernel)
set_option maxRecDepth 20000 in
theorem gX9_findLevels_X9_runs : GoodIn wsX9_findLevels (wsV RX9 236 RX9 yX9_runs wsX9_runs) := goodIn_app (goodIn_of _ (by decide +kernel)) ggX9_findLevels_X9_runs
theorem dX9_findLevels_0 : decode cX9_findLevels 0 = .ok (.aload_n 0, 1) := by decide +kernel
theorem dX9_findLevels_1 : decode cX9_findLevels 1 = .ok (.iload_n 1, 1) := by decide +kernel
theorem dX9_findLevels_2 : decode cX9_findLevels 2 = .ok (.invokevirtual 236, 3) := by decide +kernel
theorem dX9_findLevels_5 : decode cX9_findLevels 5 = .ok (.aload_n 0, 1) := by decide +kernel
theorem dX9_findLevels_6 : decode cX9_findLevels 6 = .ok (.iconst 0, 1) := by decide +kernel
theorem dX9_findLevels_7 : decode cX9_findLevels 7 = .ok (.putfield 259, 3) := by decide +kernel
theorem dX9_findLevels_10 : decode cX9_findLevels 10 = .ok (.iconst 0, 1) := by decide +kernel
theorem dX9_findLevels_11 : decode cX9_findLevels 11 = .ok (.istore_n 2, 1) := by decide +kernel
theorem dX9_findLevels_12 : decode cX9_findLevels 12 = .ok (.iload_n 2, 1) := by decide +kernel
theorem dX9_findLevels_13 : decode cX9_findLevels 13 = .ok (.aload_n 0, 1) := by decide +kernel
theorem dX9_findLevels_14 : decode cX9_findLevels 14 = .ok (.getfield 220, 3) := by decide +kernel
theorem dX9_findLevels_17 : decode cX9_findLevels 17 = .ok (.if_icmp .ge 87, 3) := by decide +kernel
theorem dX9_findLevels_20 : decode cX9_findLevels 20 = .ok (.iconst 0, 1) := by decide +kernel
theorem dX9_findLevels_21 : decode cX9_findLevels 21 = .ok (.istore_n 3, 1) := by decide +kernel
theorem dX9_findLevels_22 : decode cX9_findLevels 22 = .ok (.iload_n 3, 1) := by decide +kernel
theorem dX9_findLevels_23 : decode cX9_findLevels 23 = .ok (.aload_n 0, 1) := by decide +kernel
theorem dX9_findLevels_24 : decode cX9_findLevels 24 = .ok (.getfield 259, 3) := by decide +kernel
theorem dX9_findLevels_27 : decode cX9_findLevels 27 = .ok (.if_icmp .ge 24, 3) := by decide +kernel
theorem dX9_findLevels_30 : decode cX9_findLevels 30 = .ok (.aload_n 0, 1) := by decide +kernel
theorem dX9_findLevels_31 : decode cX9_findLevels 31 = .ok (.getfield 50, 3) := by decide +kernel
theorem dX9_findLevels_34 : decode cX9_findLevels 34 = .ok (.iload_n 3, 1) := by decide +kernel
theorem dX9_findLevels_35 : decode cX9_findLevels 35 = .ok (.iaload, 1) := by decide +kernel
theorem dX9_findLevels_36 : decode cX9_findLevels 36 = .ok (.aload_n 0, 1) := by decide +kernel
theorem dX9_findLevels_37 : decode cX9_findLevels 37 = .ok (.getfield 47, 3) := by decide +kernel
theorem dX9_findLevels_40 : decode cX9_findLevels 40 = .ok (.iload_n 2, 1) := by decide +kernel
theorem dX9_findLevels_41 : decode cX9_findLevels 41 = .ok (.iaload, 1) := by decide +kernel
theorem dX9_findLevels_42 : decode cX9_findLevels 42 = .ok (.if_icmp .eq 9, 3) := by decide +kernel
theorem dX9_findLevels_45 : decode cX9_findLevels 45 = .ok (.iinc 3 1, 3) := by decide +kernel
theorem dX9_findLevels_48 : decode cX9_findLevels 48 = .ok (.goto (-26), 3) := by decide +kernel
theorem dX9_findLevels_51 : decode cX9_findLevels 51 = .ok (.iload_n 3, 1) := by decide +kernel
theorem dX9_findLevels_52 : decode cX9_findLevels 52 = .ok (.aload_n 0, 1) := by decide +kernel
theorem dX9_findLevels_53 : decode cX9_findLevels 53 = .ok (.getfield 259, 3) := by decide +kernel
theorem dX9_findLevels_56 : decode cX9_findLevels 56 = .ok (.if_icmp .ne 32, 3) := by decide +kernel
theorem dX9_findLevels_59 : decode cX9_findLevels 59 = .ok (.aload_n 0, 1) := by decide +kernel
theorem dX9_findLevels_60 : decode cX9_findLevels 60 = .ok (.getfield 50, 3) := by decide +kernel
theorem dX9_findLevels_63 : decode cX9_findLevels 63 = .ok (.iload_n 3, 1) := by decide +kernel
theorem dX9_findLevels_64 : decode cX9_findLevels 64 = .ok (.aload_n 0, 1) := by decide +kernel
theorem dX9_findLevels_65 : decode cX9_findLevels 65 = .ok (.getfield 47, 3) := by decide +kernel
theorem dX9_findLevels_68 : decode cX9_findLevels 68 = .ok (.iload_n 2, 1) := by decide +kernel
theorem dX9_findLevels_69 : decode cX9_findLevels 69 = .ok (.iaload, 1) := by decide +kernel
theorem dX9_findLevels_70 : decode cX9_findLevels 70 = .ok (.iastore, 1) := by decide +kernel
theorem dX9_findLevels_71 : decode cX9_findLevels 71 = .ok (.aload_n 0, 1) := by decide +kernel
theorem dX9_findLevels_72 : decode cX9_findLevels 72 = .ok (.getfield 53, 3) := by decide +kernel
theorem dX9_findLevels_75 : decode cX9_findLevels 75 = .ok (.iload_n 3, 1) := by decide +kernel
theorem dX9_findLevels_76 : decode cX9_findLevels 76 = .ok (.iconst 0, 1) := by decide +kernel
theorem dX9_findLevels_77 : decode cX9_findLevels 77 = .ok (.iastore, 1) := by decide +kernel
theorem dX9_findLevels_78 : decode cX9_findLevels 78 = .ok (.aload_n 0, 1) := by decide +kernel
theorem dX9_findLevels_79 : decode cX9_findLevels 79 = .ok (.dup, 1) := by decide +kernel
theorem dX9_findLevels_80 : decode cX9_findLevels 80 = .ok (.getfield 259, 3) := by decide +kernel
theorem dX9_findLevels_83 : decode cX9_findLevels 83 = .ok (.iconst 1, 1) := by decide +kernel
theorem dX9_findLevels_84 : decode cX9_findLevels 84 = .ok (.iadd, 1) := by decide +kernel
theorem dX9_findLevels_85 : decode cX9_findLevels 85 = .ok (.putfield 259, 3) := by decide +kernel
theorem dX9_findLevels_88 : decode cX9_findLevels 88 = .ok (.aload_n 0, 1) := by decide +kernel
theorem dX9_findLevels_89 : decode cX9_findLevels 89 = .ok (.getfield 53, 3) := by decide +kernel
theorem dX9_findLevels_92 : decode cX9_findLevels 92 = .ok (.iload_n 3, 1) := by decide +kernel
theorem dX9_findLevels_93 : decode cX9_findLevels 93 = .ok (.dup2, 1) := by decide +kernel
theorem dX9_findLevels_94 : decode cX9_findLevels 94 = .ok (.iaload, 1) := by decide +kernel
theorem dX9_findLevels_95 : decode cX9_findLevels 95 = .ok (.iconst 1, 1) := by decide +kernel
theorem dX9_findLevels_96 : decode cX9_findLevels 96 = .ok (.iadd, 1) := by decide +kernel
theorem dX9_findLevels_97 : decode cX9_findLevels 97 = .ok (.iastore, 1) := by decide +kernel
theorem dX9_findLevels_98 : decode cX9_findLevels 98 = .ok (.iinc 2 1, 3) := by decide +kernel
theorem dX9_findLevels_101 : decode cX9_findLevels 101 = .ok (.goto (-89), 3) := by decide +kernel
theorem dX9_findLevels_104 : decode cX9_findLevels 104 = .ok (.return_, 1) := by decide +kernel
set_option maxRecDepth 20000 in
theorem ggX9_levels_X9_isRow : GoodIn wsX9_levels wsX9_isRow := goodIn_r _ [6, 7, 8, 9, 5, 10] (by decide +kernel) (by decide +kernel)
set_option maxRecDepth 20000 in
theorem gX9_levels_X9_isRow : GoodIn wsX9_levels (va_wsS RX9 207 yX9_isRow wsX9_isRow) := goodIn_app (goodIn_of _ (by decide +kernel)) ggX9_levels_X9_isRow
set_option maxRecDepth 20000 in
theorem ggX9_levels_X9_findLevels : GoodIn wsX9_levels wsX9_findLevels := goodIn_r _ [14, 2, 15, 16, 17, 18, 19, 20, 21, 5, 22, 23, 24, 25, 26, 27, 28, 29, 30, 31, 32, 33, 34, 35, 36, 37, 38, 39, 40, 41, 42, 43, 44, 45, 46, 47, 48, 49, 50, 51, 52, 53, 54, 55, 56, 57, 58, 59, 60, 61, 62, 63, 64, 65, 66, 67, 68, 69, 8, 9, 10, 70, 71, 72, 73, 74, 75, 76, 77, 78, 79, 80, 81, 82, 83, 84, 85, 86, 87, 88, 89, 90, 91, 92, 93, 94, 95, 96, 97, 98, 99, 100, 101, 102, 103, 104, 105, 106, 107, 108, 109, 110, 111, 112, 113, 114, 115, 116, 117, 118, 119, 120, 121, 122, 123, 124, 125] (by decide +kernel) (by decide +kernel)
set_option maxRecDepth 20000 in
theorem gX9_levels_X9_findLevels : GoodIn wsX9_levels (wsV RX9 262 RX9 yX9_findLevels wsX9_findLevels) := goodIn_app (goodIn_of _ (by decide +kernel)) ggX9_levels_X9_findLevels
theorem dX9_levels_0 : decode cX9_levels 0 = .ok (.iload_n 1, 1) := by decide +kernel
theorem dX9_levels_1 : decode cX9_levels 1 = .ok (.invokestatic 207, 3) := by decide +kernel
theorem dX9_levels_4 : decode cX9_levels 4 = .ok (.ifCond .ne 5, 3) := by decide +kernel
theorem dX9_levels_7 : decode cX9_levels 7 = .ok (.iconst (-1), 1) := by decide +kernel
theorem dX9_levels_8 : decode cX9_levels 8 = .ok (.ireturn, 1) := by decide +kernel
theorem dX9_levels_9 : decode cX9_levels 9 = .ok (.aload_n 0, 1) := by decide +kernel
theorem dX9_levels_10 : decode cX9_levels 10 = .ok (.getfield 34, 3) := by decide +kernel
theorem dX9_levels_13 : decode cX9_levels 13 = .ok (.iload_n 1, 1) := by decide +kernel
theorem dX9_levels_14 : decode cX9_levels 14 = .ok (.iaload, 1) := by decide +kernel
theorem dX9_levels_15 : decode cX9_levels 15 = .ok (.ifCond .ge 6, 3) := by decide +kernel
theorem dX9_levels_18 : decode cX9_levels 18 = .ok (.bipush (-11), 2) := by decide +kernel
theorem dX9_levels_20 : decode cX9_levels 20 = .ok (.ireturn, 1) := by decide +kernel
theorem dX9_levels_21 : decode cX9_levels 21 = .ok (.aload_n 0, 1) := by decide +kernel
theorem dX9_levels_22 : decode cX9_levels 22 = .ok (.iload_n 1, 1) := by decide +kernel
theorem dX9_levels_23 : decode cX9_levels 23 = .ok (.invokevirtual 262, 3) := by decide +kernel
theorem dX9_levels_26 : decode cX9_levels 26 = .ok (.aload_n 0, 1) := by decide +kernel
theorem dX9_levels_27 : decode cX9_levels 27 = .ok (.getfield 259, 3) := by decide +kernel
theorem dX9_levels_30 : decode cX9_levels 30 = .ok (.ireturn, 1) := by decide +kernel
set_option maxRecDepth 20000 in
theorem ggX9_level_X9_isThere : GoodIn wsX9_level wsX9_isThere := goodIn_r _ [11, 12, 13, 14, 10, 15, 16, 17, 18, 19, 92, 93, 94, 95, 96, 97, 98, 99, 100, 101, 102, 103, 104, 105, 106, 107, 108, 109, 110, 111, 112, 113, 114, 115, 116, 117, 118, 119, 120, 121, 122, 123, 124, 125, 126, 127, 128, 129, 130, 131, 132, 133, 134, 135, 136, 137, 138, 139, 140] (by decide +kernel) (by decide +kernel)
set_option maxRecDepth 20000 in
theorem gX9_level_X9_isThere : GoodIn wsX9_level (wsV RX9 250 RX9 yX9_isThere wsX9_isThere) := goodIn_app (goodIn_of _ (by decide +kernel)) ggX9_level_X9_isThere
set_option maxRecDepth 20000 in
theorem ggX9_level_X9_in : GoodIn wsX9_level wsX9_in := goodIn_r _ [19] (by decide +kernel) (by decide +kernel)
set_option maxRecDepth 20000 in
theorem gX9_level_X9_in : GoodIn wsX9_level (va_wsS RX9 100 yX9_in wsX9_in) := goodIn_app (goodIn_of _ (by decide +kernel)) ggX9_level_X9_in
set_option maxRecDepth 20000 in
theorem ggX9_level_X9_findLevels : GoodIn wsX9_level wsX9_findLevels := goodIn_r _ [23, 3, 24, 5, 25, 4, 26, 27, 28, 10, 29, 30, 31, 32, 33, 34, 35, 36, 37, 38, 39, 40, 41, 42, 43, 44, 45, 46, 47, 48, 49, 50, 6, 51, 52, 53, 54, 55, 56, 57, 58, 59, 60, 61, 62, 63, 64, 65, 66, 67, 68, 69, 70, 71, 72, 73, 74, 75, 17, 18, 19, 76, 77, 78, 79, 80, 81, 82, 92, 93, 94, 95, 96, 97, 98, 99, 100, 101, 102, 103, 104, 105, 106, 107, 108, 109, 110, 111, 112, 113, 114, 115, 116, 117, 118, 119, 120, 121, 122, 123, 124, 125, 126, 127, 128, 129, 130, 131, 132, 133, 134, 135, 136, 137, 138, 139, 140] (by decide +kernel) (by decide +kernel)
set_option maxRecDepth 20000 in
theorem gX9_level_X9_findLevels : GoodIn wsX9_level (wsV RX9 262 RX9 yX9_findLevels wsX9_findLevels) := goodIn_app (goodIn_of _ (by decide +kernel)) ggX9_level_X9_findLevels
set_option maxRecDepth 20000 in
theorem ggX9_level_X9_lowest : GoodIn wsX9_level wsX9_lowest := goodIn_r _ [85, 86, 87, 10, 88, 89, 90, 38, 91] (by decide +kernel) (by decide +kernel)
set_option maxRecDepth 20000 in
theorem gX9_level_X9_lowest : GoodIn wsX9_level (va_wsS RX9 255 yX9_lowest wsX9_lowest) := goodIn_app (goodIn_of _ (by decide +kernel)) ggX9_level_X9_lowest
theorem dX9_level_0 : decode cX9_level 0 = .ok (.aload_n 0, 1) := by decide +kernel
theorem dX9_level_1 : decode cX9_level 1 = .ok (.iload_n 1, 1) := by decide +kernel
theorem dX9_level_2 : decode cX9_level 2 = .ok (.invokevirtual 250, 3) := by decide +kernel
theorem dX9_level_5 : decode cX9_level 5 = .ok (.ifCond .eq 15, 3) := by decide +kernel
theorem dX9_level_8 : decode cX9_level 8 = .ok (.iload_n 3, 1) := by decide +kernel
theorem dX9_level_9 : decode cX9_level 9 = .ok (.i2l, 1) := by decide +kernel
theorem dX9_level_10 : decode cX9_level 10 = .ok (.lconst 0, 1) := by decide +kernel
theorem dX9_level_11 : decode cX9_level 11 = .ok (.ldc2_w 212, 3) := by decide +kernel
theorem dX9_level_14 : decode cX9_level 14 = .ok (.invokestatic 100, 3) := by decide +kernel
theorem dX9_level_17 : decode cX9_level 17 = .ok (.ifCond .ne 6, 3) := by decide +kernel
theorem dX9_level_20 : decode cX9_level 20 = .ok (.ldc 166, 2) := by decide +kernel
theorem dX9_level_22 : decode cX9_level 22 = .ok (.ireturn, 1) := by decide +kernel
theorem dX9_level_23 : decode cX9_level 23 = .ok (.aload_n 0, 1) := by decide +kernel
theorem dX9_level_24 : decode cX9_level 24 = .ok (.iload_n 1, 1) := by decide +kernel
theorem dX9_level_25 : decode cX9_level 25 = .ok (.invokevirtual 262, 3) := by decide +kernel
theorem dX9_level_28 : decode cX9_level 28 = .ok (.iload_n 2, 1) := by decide +kernel
theorem dX9_level_29 : decode cX9_level 29 = .ok (.i2l, 1) := by decide +kernel
theorem dX9_level_30 : decode cX9_level 30 = .ok (.lconst 0, 1) := by decide +kernel
theorem dX9_level_31 : decode cX9_level 31 = .ok (.aload_n 0, 1) := by decide +kernel
theorem dX9_level_32 : decode cX9_level 32 = .ok (.getfield 259, 3) := by decide +kernel
theorem dX9_level_35 : decode cX9_level 35 = .ok (.iconst 1, 1) := by decide +kernel
theorem dX9_level_36 : decode cX9_level 36 = .ok (.isub, 1) := by decide +kernel
theorem dX9_level_37 : decode cX9_level 37 = .ok (.i2l, 1) := by decide +kernel
theorem dX9_level_38 : decode cX9_level 38 = .ok (.invokestatic 100, 3) := by decide +kernel
theorem dX9_level_41 : decode cX9_level 41 = .ok (.ifCond .ne 6, 3) := by decide +kernel
theorem dX9_level_44 : decode cX9_level 44 = .ok (.ldc 166, 2) := by decide +kernel
theorem dX9_level_46 : decode cX9_level 46 = .ok (.ireturn, 1) := by decide +kernel
theorem dX9_level_47 : decode cX9_level 47 = .ok (.iload_n 3, 1) := by decide +kernel
theorem dX9_level_48 : decode cX9_level 48 = .ok (.iconst 2, 1) := by decide +kernel
theorem dX9_level_49 : decode cX9_level 49 = .ok (.if_icmp .ne 12, 3) := by decide +kernel
theorem dX9_level_52 : decode cX9_level 52 = .ok (.aload_n 0, 1) := by decide +kernel
theorem dX9_level_53 : decode cX9_level 53 = .ok (.getfield 53, 3) := by decide +kernel
theorem dX9_level_56 : decode cX9_level 56 = .ok (.iload_n 2, 1) := by decide +kernel
theorem dX9_level_57 : decode cX9_level 57 = .ok (.iaload, 1) := by decide +kernel
theorem dX9_level_58 : decode cX9_level 58 = .ok (.goto 24, 3) := by decide +kernel
theorem dX9_level_61 : decode cX9_level 61 = .ok (.aload_n 0, 1) := by decide +kernel
theorem dX9_level_62 : decode cX9_level 62 = .ok (.getfield 50, 3) := by decide +kernel
theorem dX9_level_65 : decode cX9_level 65 = .ok (.iload_n 2, 1) := by decide +kernel
theorem dX9_level_66 : decode cX9_level 66 = .ok (.iaload, 1) := by decide +kernel
theorem dX9_level_67 : decode cX9_level 67 = .ok (.i2l, 1) := by decide +kernel
theorem dX9_level_68 : decode cX9_level 68 = .ok (.lconst 1, 1) := by decide +kernel
theorem dX9_level_69 : decode cX9_level 69 = .ok (.aload_n 0, 1) := by decide +kernel
theorem dX9_level_70 : decode cX9_level 70 = .ok (.getfield 11, 3) := by decide +kernel
theorem dX9_level_73 : decode cX9_level 73 = .ok (.bipush 6, 2) := by decide +kernel
theorem dX9_level_75 : decode cX9_level 75 = .ok (.iaload, 1) := by decide +kernel
theorem dX9_level_76 : decode cX9_level 76 = .ok (.lshl, 1) := by decide +kernel
theorem dX9_level_77 : decode cX9_level 77 = .ok (.iload_n 3, 1) := by decide +kernel
theorem dX9_level_78 : decode cX9_level 78 = .ok (.invokestatic 255, 3) := by decide +kernel
theorem dX9_level_81 : decode cX9_level 81 = .ok (.l2i, 1) := by decide +kernel
theorem dX9_level_82 : decode cX9_level 82 = .ok (.ireturn, 1) := by decide +kernel
set_option maxRecDepth 20000 in
theorem ggX9_measure_X9_isThere : GoodIn wsX9_measure wsX9_isThere := goodIn_r _ [13, 14, 15, 16, 12, 17, 18, 19, 20, 21, 84, 85, 86, 87, 88, 89, 90, 91, 92, 93, 94, 95, 96, 97, 98, 99, 100, 101, 102, 103, 104, 105, 106, 107, 108, 109, 110, 111, 112, 113, 114, 115, 116, 117, 118, 119, 120, 121, 122, 123, 124, 125, 126, 127, 128, 129, 130, 131, 132] (by decide +kernel) (by decide +kernel)
set_option maxRecDepth 20000 in
theorem gX9_measure_X9_isThere : GoodIn wsX9_measure (wsV RX9 250 RX9 yX9_isThere wsX9_isThere) := goodIn_app (goodIn_of _ (by decide +kernel)) ggX9_measure_X9_isThere
set_option maxRecDepth 20000 in
theorem ggX9_measure_X9_in : GoodIn wsX9_measure wsX9_in := goodIn_r _ [21] (by decide +kernel) (by decide +kernel)
set_option maxRecDepth 20000 in
theorem gX9_measure_X9_in : GoodIn wsX9_measure (va_wsS RX9 100 yX9_in wsX9_in) := goodIn_app (goodIn_of _ (by decide +kernel)) ggX9_measure_X9_in
set_option maxRecDepth 20000 in
theorem ggX9_measure_X9_runs : GoodIn wsX9_measure wsX9_runs := goodIn_r _ [25, 3, 26, 7, 27, 28, 29, 30, 31, 32, 33, 34, 35, 36, 37, 38, 4, 39, 40, 41, 42, 43, 12, 44, 45, 46, 47, 48, 49, 50, 51, 8, 52, 53, 54, 55, 56, 57, 58, 59, 60, 61, 62, 63, 64, 65, 66, 67, 68, 69, 70, 19, 20, 21, 71, 72, 73, 74, 75, 76, 77, 84, 85, 86, 87, 88, 89, 90, 91, 92, 93, 94, 95, 96, 97, 98, 99, 100, 101, 102, 103, 104, 105, 106, 107, 108, 109, 110, 111, 112, 113, 114, 115, 116, 117, 118, 119, 120, 121, 122, 123, 124, 125, 126, 127, 128, 129, 130, 131, 132] (by decide +kernel) (by decide +kernel)
set_option maxRecDepth 20000 in
theorem gX9_measure_X9_runs : GoodIn wsX9_measure (wsV RX9 236 RX9 yX9_runs wsX9_runs) := goodIn_app (goodIn_of _ (by decide +kernel)) ggX9_measure_X9_runs
set_option maxRecDepth 20000 in
theorem ggX9_measure_X9_causes : GoodIn wsX9_measure wsX9_causes := goodIn_r _ [81, 82, 83, 84, 85, 86, 87, 88, 89, 90, 91, 92, 93, 94, 95, 96, 97, 98, 99, 100, 101, 102, 103, 104, 105, 106, 107, 108, 109, 110, 111, 112, 113, 114, 115, 116, 117, 118, 119, 120, 121, 122, 123, 124, 125, 126, 127, 128, 129, 130, 131, 132] (by decide +kernel) (by decide +kernel)
set_option maxRecDepth 20000 in
theorem gX9_measure_X9_causes : GoodIn wsX9_measure (wsV RX9 199 RX9 yX9_causes wsX9_causes) := goodIn_app (goodIn_of _ (by decide +kernel)) ggX9_measure_X9_causes
theorem dX9_measure_0 : decode cX9_measure 0 = .ok (.aload_n 0, 1) := by decide +kernel
theorem dX9_measure_1 : decode cX9_measure 1 = .ok (.iload_n 1, 1) := by decide +kernel
theorem dX9_measure_2 : decode cX9_measure 2 = .ok (.invokevirtual 250, 3) := by decide +kernel
theorem dX9_measure_5 : decode cX9_measure 5 = .ok (.ifCond .eq 15, 3) := by decide +kernel
theorem dX9_measure_8 : decode cX9_measure 8 = .ok (.iload_n 2, 1) := by decide +kernel
theorem dX9_measure_9 : decode cX9_measure 9 = .ok (.i2l, 1) := by decide +kernel
theorem dX9_measure_10 : decode cX9_measure 10 = .ok (.lconst 1, 1) := by decide +kernel
theorem dX9_measure_11 : decode cX9_measure 11 = .ok (.ldc2_w 265, 3) := by decide +kernel
theorem dX9_measure_14 : decode cX9_measure 14 = .ok (.invokestatic 100, 3) := by decide +kernel
theorem dX9_measure_17 : decode cX9_measure 17 = .ok (.ifCond .ne 7, 3) := by decide +kernel
theorem dX9_measure_20 : decode cX9_measure 20 = .ok (.ldc2_w 218, 3) := by decide +kernel
theorem dX9_measure_23 : decode cX9_measure 23 = .ok (.lreturn, 1) := by decide +kernel
theorem dX9_measure_24 : decode cX9_measure 24 = .ok (.aload_n 0, 1) := by decide +kernel
theorem dX9_measure_25 : decode cX9_measure 25 = .ok (.iload_n 1, 1) := by decide +kernel
theorem dX9_measure_26 : decode cX9_measure 26 = .ok (.invokevirtual 236, 3) := by decide +kernel
theorem dX9_measure_29 : decode cX9_measure 29 = .ok (.lconst 0, 1) := by decide +kernel
theorem dX9_measure_30 : decode cX9_measure 30 = .ok (.lstore_n 3, 1) := by decide +kernel
theorem dX9_measure_31 : decode cX9_measure 31 = .ok (.iconst 0, 1) := by decide +kernel
theorem dX9_measure_32 : decode cX9_measure 32 = .ok (.istore 5, 2) := by decide +kernel
theorem dX9_measure_34 : decode cX9_measure 34 = .ok (.iload 5, 2) := by decide +kernel
theorem dX9_measure_36 : decode cX9_measure 36 = .ok (.aload_n 0, 1) := by decide +kernel
theorem dX9_measure_37 : decode cX9_measure 37 = .ok (.getfield 220, 3) := by decide +kernel
theorem dX9_measure_40 : decode cX9_measure 40 = .ok (.if_icmp .ge 85, 3) := by decide +kernel
theorem dX9_measure_43 : decode cX9_measure 43 = .ok (.aload_n 0, 1) := by decide +kernel
theorem dX9_measure_44 : decode cX9_measure 44 = .ok (.getfield 44, 3) := by decide +kernel
theorem dX9_measure_47 : decode cX9_measure 47 = .ok (.iload 5, 2) := by decide +kernel
theorem dX9_measure_49 : decode cX9_measure 49 = .ok (.iaload, 1) := by decide +kernel
theorem dX9_measure_50 : decode cX9_measure 50 = .ok (.i2l, 1) := by decide +kernel
theorem dX9_measure_51 : decode cX9_measure 51 = .ok (.aload_n 0, 1) := by decide +kernel
theorem dX9_measure_52 : decode cX9_measure 52 = .ok (.getfield 44, 3) := by decide +kernel
theorem dX9_measure_55 : decode cX9_measure 55 = .ok (.iload 5, 2) := by decide +kernel
theorem dX9_measure_57 : decode cX9_measure 57 = .ok (.iaload, 1) := by decide +kernel
theorem dX9_measure_58 : decode cX9_measure 58 = .ok (.i2l, 1) := by decide +kernel
theorem dX9_measure_59 : decode cX9_measure 59 = .ok (.lmul, 1) := by decide +kernel
theorem dX9_measure_60 : decode cX9_measure 60 = .ok (.iload_n 2, 1) := by decide +kernel
theorem dX9_measure_61 : decode cX9_measure 61 = .ok (.i2l, 1) := by decide +kernel
theorem dX9_measure_62 : decode cX9_measure 62 = .ok (.lmul, 1) := by decide +kernel
theorem dX9_measure_63 : decode cX9_measure 63 = .ok (.lstore 6, 2) := by decide +kernel
theorem dX9_measure_65 : decode cX9_measure 65 = .ok (.lload 6, 2) := by decide +kernel
theorem dX9_measure_67 : decode cX9_measure 67 = .ok (.ldc2_w 269, 3) := by decide +kernel
theorem dX9_measure_70 : decode cX9_measure 70 = .ok (.lcmp, 1) := by decide +kernel
theorem dX9_measure_71 : decode cX9_measure 71 = .ok (.ifCond .le 21, 3) := by decide +kernel
theorem dX9_measure_74 : decode cX9_measure 74 = .ok (.aload_n 0, 1) := by decide +kernel
theorem dX9_measure_75 : decode cX9_measure 75 = .ok (.iload 5, 2) := by decide +kernel
theorem dX9_measure_77 : decode cX9_measure 77 = .ok (.iconst 1, 1) := by decide +kernel
theorem dX9_measure_78 : decode cX9_measure 78 = .ok (.aload_n 0, 1) := by decide +kernel
theorem dX9_measure_79 : decode cX9_measure 79 = .ok (.getfield 44, 3) := by decide +kernel
theorem dX9_measure_82 : decode cX9_measure 82 = .ok (.iload 5, 2) := by decide +kernel
theorem dX9_measure_84 : decode cX9_measure 84 = .ok (.iaload, 1) := by decide +kernel
theorem dX9_measure_85 : decode cX9_measure 85 = .ok (.invokevirtual 199, 3) := by decide +kernel
theorem dX9_measure_88 : decode cX9_measure 88 = .ok (.ldc2_w 271, 3) := by decide +kernel
theorem dX9_measure_91 : decode cX9_measure 91 = .ok (.lreturn, 1) := by decide +kernel
theorem dX9_measure_92 : decode cX9_measure 92 = .ok (.lload_n 3, 1) := by decide +kernel
theorem dX9_measure_93 : decode cX9_measure 93 = .ok (.lload 6, 2) := by decide +kernel
theorem dX9_measure_95 : decode cX9_measure 95 = .ok (.ladd, 1) := by decide +kernel
theorem dX9_measure_96 : decode cX9_measure 96 = .ok (.lstore_n 3, 1) := by decide +kernel
theorem dX9_measure_97 : decode cX9_measure 97 = .ok (.lload_n 3, 1) := by decide +kernel
theorem dX9_measure_98 : decode cX9_measure 98 = .ok (.ldc2_w 269, 3) := by decide +kernel
theorem dX9_measure_101 : decode cX9_measure 101 = .ok (.lcmp, 1) := by decide +kernel
theorem dX9_measure_102 : decode cX9_measure 102 = .ok (.ifCond .le 17, 3) := by decide +kernel
theorem dX9_measure_105 : decode cX9_measure 105 = .ok (.aload_n 0, 1) := by decide +kernel
theorem dX9_measure_106 : decode cX9_measure 106 = .ok (.iload 5, 2) := by decide +kernel
theorem dX9_measure_108 : decode cX9_measure 108 = .ok (.iconst 2, 1) := by decide +kernel
theorem dX9_measure_109 : decode cX9_measure 109 = .ok (.lload 6, 2) := by decide +kernel
theorem dX9_measure_111 : decode cX9_measure 111 = .ok (.l2i, 1) := by decide +kernel
theorem dX9_measure_112 : decode cX9_measure 112 = .ok (.invokevirtual 199, 3) := by decide +kernel
theorem dX9_measure_115 : decode cX9_measure 115 = .ok (.ldc2_w 271, 3) := by decide +kernel
theorem dX9_measure_118 : decode cX9_measure 118 = .ok (.lreturn, 1) := by decide +kernel
theorem dX9_measure_119 : decode cX9_measure 119 = .ok (.iinc 5 1, 3) := by decide +kernel
theorem dX9_measure_122 : decode cX9_measure 122 = .ok (.goto (-88), 3) := by decide +kernel
theorem dX9_measure_125 : decode cX9_measure 125 = .ok (.aload_n 0, 1) := by decide +kernel
theorem dX9_measure_126 : decode cX9_measure 126 = .ok (.getfield 226, 3) := by decide +kernel
theorem dX9_measure_129 : decode cX9_measure 129 = .ok (.ifCond .eq 20, 3) := by decide +kernel
theorem dX9_measure_132 : decode cX9_measure 132 = .ok (.aload_n 0, 1) := by decide +kernel
theorem dX9_measure_133 : decode cX9_measure 133 = .ok (.aload_n 0, 1) := by decide +kernel
theorem dX9_measure_134 : decode cX9_measure 134 = .ok (.getfield 220, 3) := by decide +kernel
theorem dX9_measure_137 : decode cX9_measure 137 = .ok (.iconst 0, 1) := by decide +kernel
theorem dX9_measure_138 : decode cX9_measure 138 = .ok (.aload_n 0, 1) := by decide +kernel
theorem dX9_measure_139 : decode cX9_measure 139 = .ok (.getfield 176, 3) := by decide +kernel
theorem dX9_measure_142 : decode cX9_measure 142 = .ok (.invokevirtual 199, 3) := by decide +kernel
theorem dX9_measure_145 : decode cX9_measure 145 = .ok (.ldc2_w 271, 3) := by decide +kernel
theorem dX9_measure_148 : decode cX9_measure 148 = .ok (.lreturn, 1) := by decide +kernel
theorem dX9_measure_149 : decode cX9_measure 149 = .ok (.lload_n 3, 1) := by decide +kernel
theorem dX9_measure_150 : decode cX9_measure 150 = .ok (.lreturn, 1) := by decide +kernel
set_option maxRecDepth 20000 in
theorem ggX9_cause_X9_in : GoodIn wsX9_cause wsX9_in := goodIn_r _ [8] (by decide +kernel) (by decide +kernel)
set_option maxRecDepth 20000 in
theorem gX9_cause_X9_in : GoodIn wsX9_cause (va_wsS RX9 100 yX9_in wsX9_in) := goodIn_app (goodIn_of _ (by decide +kernel)) ggX9_cause_X9_in
theorem dX9_cause_0 : decode cX9_cause 0 = .ok (.iload_n 1, 1) := by decide +kernel
theorem dX9_cause_1 : decode cX9_cause 1 = .ok (.i2l, 1) := by decide +kernel
theorem dX9_cause_2 : decode cX9_cause 2 = .ok (.lconst 0, 1) := by decide +kernel
theorem dX9_cause_3 : decode cX9_cause 3 = .ok (.ldc2_w 212, 3) := by decide +kernel
theorem dX9_cause_6 : decode cX9_cause 6 = .ok (.invokestatic 100, 3) := by decide +kernel
theorem dX9_cause_9 : decode cX9_cause 9 = .ok (.ifCond .ne 8, 3) := by decide +kernel
theorem dX9_cause_12 : decode cX9_cause 12 = .ok (.ldc 166, 2) := by decide +kernel
theorem dX9_cause_14 : decode cX9_cause 14 = .ok (.goto 22, 3) := by decide +kernel
theorem dX9_cause_17 : decode cX9_cause 17 = .ok (.aload_n 0, 1) := by decide +kernel
theorem dX9_cause_18 : decode cX9_cause 18 = .ok (.getfield 186, 3) := by decide +kernel
theorem dX9_cause_21 : decode cX9_cause 21 = .ok (.ifCond .eq 12, 3) := by decide +kernel
theorem dX9_cause_24 : decode cX9_cause 24 = .ok (.aload_n 0, 1) := by decide +kernel
theorem dX9_cause_25 : decode cX9_cause 25 = .ok (.getfield 26, 3) := by decide +kernel
theorem dX9_cause_28 : decode cX9_cause 28 = .ok (.iload_n 1, 1) := by decide +kernel
theorem dX9_cause_29 : decode cX9_cause 29 = .ok (.iaload, 1) := by decide +kernel
theorem dX9_cause_30 : decode cX9_cause 30 = .ok (.goto 6, 3) := by decide +kernel
theorem dX9_cause_33 : decode cX9_cause 33 = .ok (.sipush (-1002), 3) := by decide +kernel
theorem dX9_cause_36 : decode cX9_cause 36 = .ok (.ireturn, 1) := by decide +kernel
theorem dX9_starts_0 : decode cX9_starts 0 = .ok (.iconst 1, 1) := by decide +kernel
theorem dX9_starts_1 : decode cX9_starts 1 = .ok (.aload_n 0, 1) := by decide +kernel
theorem dX9_starts_2 : decode cX9_starts 2 = .ok (.getfield 11, 3) := by decide +kernel
theorem dX9_starts_5 : decode cX9_starts 5 = .ok (.iconst 0, 1) := by decide +kernel
theorem dX9_starts_6 : decode cX9_starts 6 = .ok (.iaload, 1) := by decide +kernel
theorem dX9_starts_7 : decode cX9_starts 7 = .ok (.aload_n 0, 1) := by decide +kernel
theorem dX9_starts_8 : decode cX9_starts 8 = .ok (.getfield 11, 3) := by decide +kernel
theorem dX9_starts_11 : decode cX9_starts 11 = .ok (.iconst 1, 1) := by decide +kernel
theorem dX9_starts_12 : decode cX9_starts 12 = .ok (.iaload, 1) := by decide +kernel
theorem dX9_starts_13 : decode cX9_starts 13 = .ok (.imul, 1) := by decide +kernel
theorem dX9_starts_14 : decode cX9_starts 14 = .ok (.ishl, 1) := by decide +kernel
theorem dX9_starts_15 : decode cX9_starts 15 = .ok (.ireturn, 1) := by decide +kernel
set_option maxRecDepth 20000 in
theorem ggX9_codeOfPast_X9_half : GoodIn wsX9_codeOfPast wsX9_half := goodIn_r _ [7, 1, 8, 9, 10, 11, 12, 13, 14, 15, 16, 17, 18, 19, 20, 21, 22, 23, 24, 25, 26, 27, 28, 29, 30, 31, 32, 33, 34, 35, 36, 37, 38, 39, 40, 41, 42, 43, 44, 45, 46, 47, 48, 49, 50, 51, 52, 53, 54, 55, 56] (by decide +kernel) (by decide +kernel)
set_option maxRecDepth 20000 in
theorem gX9_codeOfPast_X9_half : GoodIn wsX9_codeOfPast (wsV RX9 104 RX9 yX9_half wsX9_half) := goodIn_app (goodIn_of _ (by decide +kernel)) ggX9_codeOfPast_X9_half
theorem dX9_codeOfPast_0 : decode cX9_codeOfPast 0 = .ok (.iconst 0, 1) := by decide +kernel
theorem dX9_codeOfPast_1 : decode cX9_codeOfPast 1 = .ok (.istore_n 1, 1) := by decide +kernel
theorem dX9_codeOfPast_2 : decode cX9_codeOfPast 2 = .ok (.iconst 0, 1) := by decide +kernel
theorem dX9_codeOfPast_3 : decode cX9_codeOfPast 3 = .ok (.istore_n 2, 1) := by decide +kernel
theorem dX9_codeOfPast_4 : decode cX9_codeOfPast 4 = .ok (.iload_n 2, 1) := by decide +kernel
theorem dX9_codeOfPast_5 : decode cX9_codeOfPast 5 = .ok (.aload_n 0, 1) := by decide +kernel
theorem dX9_codeOfPast_6 : decode cX9_codeOfPast 6 = .ok (.getfield 11, 3) := by decide +kernel
theorem dX9_codeOfPast_9 : decode cX9_codeOfPast 9 = .ok (.iconst 0, 1) := by decide +kernel
theorem dX9_codeOfPast_10 : decode cX9_codeOfPast 10 = .ok (.iaload, 1) := by decide +kernel
theorem dX9_codeOfPast_11 : decode cX9_codeOfPast 11 = .ok (.if_icmp .ge 30, 3) := by decide +kernel
theorem dX9_codeOfPast_14 : decode cX9_codeOfPast 14 = .ok (.iload_n 1, 1) := by decide +kernel
theorem dX9_codeOfPast_15 : decode cX9_codeOfPast 15 = .ok (.aload_n 0, 1) := by decide +kernel
theorem dX9_codeOfPast_16 : decode cX9_codeOfPast 16 = .ok (.getfield 11, 3) := by decide +kernel
theorem dX9_codeOfPast_19 : decode cX9_codeOfPast 19 = .ok (.iconst 1, 1) := by decide +kernel
theorem dX9_codeOfPast_20 : decode cX9_codeOfPast 20 = .ok (.iaload, 1) := by decide +kernel
theorem dX9_codeOfPast_21 : decode cX9_codeOfPast 21 = .ok (.ishl, 1) := by decide +kernel
theorem dX9_codeOfPast_22 : decode cX9_codeOfPast 22 = .ok (.aload_n 0, 1) := by decide +kernel
theorem dX9_codeOfPast_23 : decode cX9_codeOfPast 23 = .ok (.getfield 23, 3) := by decide +kernel
theorem dX9_codeOfPast_26 : decode cX9_codeOfPast 26 = .ok (.iload_n 2, 1) := by decide +kernel
theorem dX9_codeOfPast_27 : decode cX9_codeOfPast 27 = .ok (.iaload, 1) := by decide +kernel
theorem dX9_codeOfPast_28 : decode cX9_codeOfPast 28 = .ok (.iadd, 1) := by decide +kernel
theorem dX9_codeOfPast_29 : decode cX9_codeOfPast 29 = .ok (.aload_n 0, 1) := by decide +kernel
theorem dX9_codeOfPast_30 : decode cX9_codeOfPast 30 = .ok (.invokevirtual 104, 3) := by decide +kernel
theorem dX9_codeOfPast_33 : decode cX9_codeOfPast 33 = .ok (.iadd, 1) := by decide +kernel
theorem dX9_codeOfPast_34 : decode cX9_codeOfPast 34 = .ok (.istore_n 1, 1) := by decide +kernel
theorem dX9_codeOfPast_35 : decode cX9_codeOfPast 35 = .ok (.iinc 2 1, 3) := by decide +kernel
theorem dX9_codeOfPast_38 : decode cX9_codeOfPast 38 = .ok (.goto (-34), 3) := by decide +kernel
theorem dX9_codeOfPast_41 : decode cX9_codeOfPast 41 = .ok (.iload_n 1, 1) := by decide +kernel
theorem dX9_codeOfPast_42 : decode cX9_codeOfPast 42 = .ok (.ireturn, 1) := by decide +kernel
set_option maxRecDepth 20000 in
theorem ggX9_takes_X9_half : GoodIn wsX9_takes wsX9_half := goodIn_r _ [7, 2, 8, 9, 10, 11, 12, 13, 14, 15, 16, 17, 18, 19, 20, 21, 22, 23, 24, 25, 26, 27, 28, 29, 30, 31, 32, 33, 34, 35, 36, 37, 38, 39, 40, 41, 42, 43, 44, 45, 46, 47, 48, 49, 50, 51, 52, 53, 54, 55, 56] (by decide +kernel) (by decide +kernel)
set_option maxRecDepth 20000 in
theorem gX9_takes_X9_half : GoodIn wsX9_takes (wsV RX9 104 RX9 yX9_half wsX9_half) := goodIn_app (goodIn_of _ (by decide +kernel)) ggX9_takes_X9_half
theorem dX9_takes_0 : decode cX9_takes 0 = .ok (.iload_n 1, 1) := by decide +kernel
theorem dX9_takes_1 : decode cX9_takes 1 = .ok (.istore_n 2, 1) := by decide +kernel
theorem dX9_takes_2 : decode cX9_takes 2 = .ok (.iconst 2, 1) := by decide +kernel
theorem dX9_takes_3 : decode cX9_takes 3 = .ok (.istore_n 3, 1) := by decide +kernel
theorem dX9_takes_4 : decode cX9_takes 4 = .ok (.iload_n 3, 1) := by decide +kernel
theorem dX9_takes_5 : decode cX9_takes 5 = .ok (.ifCond .lt 56, 3) := by decide +kernel
theorem dX9_takes_8 : decode cX9_takes 8 = .ok (.aload_n 0, 1) := by decide +kernel
theorem dX9_takes_9 : decode cX9_takes 9 = .ok (.getfield 23, 3) := by decide +kernel
theorem dX9_takes_12 : decode cX9_takes 12 = .ok (.iload_n 3, 1) := by decide +kernel
theorem dX9_takes_13 : decode cX9_takes 13 = .ok (.iconst 0, 1) := by decide +kernel
theorem dX9_takes_14 : decode cX9_takes 14 = .ok (.iastore, 1) := by decide +kernel
theorem dX9_takes_15 : decode cX9_takes 15 = .ok (.iload_n 3, 1) := by decide +kernel
theorem dX9_takes_16 : decode cX9_takes 16 = .ok (.aload_n 0, 1) := by decide +kernel
theorem dX9_takes_17 : decode cX9_takes 17 = .ok (.getfield 11, 3) := by decide +kernel
theorem dX9_takes_20 : decode cX9_takes 20 = .ok (.iconst 0, 1) := by decide +kernel
theorem dX9_takes_21 : decode cX9_takes 21 = .ok (.iaload, 1) := by decide +kernel
theorem dX9_takes_22 : decode cX9_takes 22 = .ok (.if_icmp .ge 33, 3) := by decide +kernel
theorem dX9_takes_25 : decode cX9_takes 25 = .ok (.aload_n 0, 1) := by decide +kernel
theorem dX9_takes_26 : decode cX9_takes 26 = .ok (.getfield 23, 3) := by decide +kernel
theorem dX9_takes_29 : decode cX9_takes 29 = .ok (.iload_n 3, 1) := by decide +kernel
theorem dX9_takes_30 : decode cX9_takes 30 = .ok (.iload_n 2, 1) := by decide +kernel
theorem dX9_takes_31 : decode cX9_takes 31 = .ok (.iconst 2, 1) := by decide +kernel
theorem dX9_takes_32 : decode cX9_takes 32 = .ok (.aload_n 0, 1) := by decide +kernel
theorem dX9_takes_33 : decode cX9_takes 33 = .ok (.invokevirtual 104, 3) := by decide +kernel
theorem dX9_takes_36 : decode cX9_takes 36 = .ok (.imul, 1) := by decide +kernel
theorem dX9_takes_37 : decode cX9_takes 37 = .ok (.iconst 1, 1) := by decide +kernel
theorem dX9_takes_38 : decode cX9_takes 38 = .ok (.isub, 1) := by decide +kernel
theorem dX9_takes_39 : decode cX9_takes 39 = .ok (.iand, 1) := by decide +kernel
theorem dX9_takes_40 : decode cX9_takes 40 = .ok (.aload_n 0, 1) := by decide +kernel
theorem dX9_takes_41 : decode cX9_takes 41 = .ok (.invokevirtual 104, 3) := by decide +kernel
theorem dX9_takes_44 : decode cX9_takes 44 = .ok (.isub, 1) := by decide +kernel
theorem dX9_takes_45 : decode cX9_takes 45 = .ok (.iastore, 1) := by decide +kernel
theorem dX9_takes_46 : decode cX9_takes 46 = .ok (.iload_n 2, 1) := by decide +kernel
theorem dX9_takes_47 : decode cX9_takes 47 = .ok (.aload_n 0, 1) := by decide +kernel
theorem dX9_takes_48 : decode cX9_takes 48 = .ok (.getfield 11, 3) := by decide +kernel
theorem dX9_takes_51 : decode cX9_takes 51 = .ok (.iconst 1, 1) := by decide +kernel
theorem dX9_takes_52 : decode cX9_takes 52 = .ok (.iaload, 1) := by decide +kernel
theorem dX9_takes_53 : decode cX9_takes 53 = .ok (.ishr, 1) := by decide +kernel
theorem dX9_takes_54 : decode cX9_takes 54 = .ok (.istore_n 2, 1) := by decide +kernel
theorem dX9_takes_55 : decode cX9_takes 55 = .ok (.iinc 3 (-1), 3) := by decide +kernel
theorem dX9_takes_58 : decode cX9_takes 58 = .ok (.goto (-54), 3) := by decide +kernel
theorem dX9_takes_61 : decode cX9_takes 61 = .ok (.return_, 1) := by decide +kernel
set_option maxRecDepth 20000 in
theorem ggX9_code_X9_begins : GoodIn wsX9_code wsX9_begins := goodIn_r _ [5, 6, 7, 16, 17, 18, 19, 20, 21, 22, 23, 24, 25, 26, 27, 28, 29, 30, 31, 32, 33, 34, 35, 36, 37, 38, 39, 40, 41, 42, 43, 44, 45, 46, 47, 48, 49, 50, 51, 52, 53, 54, 55, 56, 57, 58, 59, 60, 61, 62, 63, 64] (by decide +kernel) (by decide +kernel)
set_option maxRecDepth 20000 in
theorem gX9_code_X9_begins : GoodIn wsX9_code (wsV RX9 193 RX9 yX9_begins wsX9_begins) := goodIn_app (goodIn_of _ (by decide +kernel)) ggX9_code_X9_begins
set_option maxRecDepth 20000 in
theorem ggX9_code_X9_codeOfPast : GoodIn wsX9_code wsX9_codeOfPast := goodIn_r _ [11, 7, 6, 12, 13, 14, 4, 15, 16, 17, 18, 19, 20, 21, 22, 23, 24, 25, 26, 27, 28, 29, 30, 31, 32, 33, 34, 35, 36, 37, 38, 39, 40, 41, 42, 43, 44, 45, 46, 47, 48, 49, 50, 51, 52, 53, 54, 55, 56, 57, 58, 59, 60, 61, 62, 63, 64] (by decide +kernel) (by decide +kernel)
set_option maxRecDepth 20000 in
theorem gX9_code_X9_codeOfPast : GoodIn wsX9_code (wsV RX9 273 RX9 yX9_codeOfPast wsX9_codeOfPast) := goodIn_app (goodIn_of _ (by decide +kernel)) ggX9_code_X9_codeOfPast
theorem dX9_code_0 : decode cX9_code 0 = .ok (.aload_n 0, 1) := by decide +kernel
theorem dX9_code_1 : decode cX9_code 1 = .ok (.invokevirtual 193, 3) := by decide +kernel
theorem dX9_code_4 : decode cX9_code 4 = .ok (.aload_n 0, 1) := by decide +kernel
theorem dX9_code_5 : decode cX9_code 5 = .ok (.invokevirtual 273, 3) := by decide +kernel
theorem dX9_code_8 : decode cX9_code 8 = .ok (.ireturn, 1) := by decide +kernel
set_option maxRecDepth 20000 in
theorem ggX9_behind_X9_takes : GoodIn wsX9_behind wsX9_takes := goodIn_r _ [5, 6, 7, 8, 9, 10, 4, 11, 49, 50, 51, 52, 53, 54, 55, 56, 57, 58, 59, 60, 61, 62, 63, 64, 65, 66, 67, 68, 69, 70, 71, 72, 73, 74, 75, 76, 77, 78, 79, 80, 81, 82, 83, 84, 85, 86, 87, 88, 89, 90, 91, 92, 93, 94, 95, 96, 97] (by decide +kernel) (by decide +kernel)
set_option maxRecDepth 20000 in
theorem gX9_behind_X9_takes : GoodIn wsX9_behind (wsV RX9 276 RX9 yX9_takes wsX9_takes) := goodIn_app (goodIn_of _ (by decide +kernel)) ggX9_behind_X9_takes
set_option maxRecDepth 20000 in
theorem ggX9_behind_X9_steps : GoodIn wsX9_behind wsX9_steps := goodIn_r _ [15, 16, 7, 17, 18, 19, 6, 20, 21, 22, 4, 23, 24, 25, 26, 27, 28, 29, 30, 31, 32, 33, 34, 8, 9, 10, 11, 35, 36, 37, 38, 39, 40, 41, 42, 43, 44, 49, 50, 51, 52, 53, 54, 55, 56, 57, 58, 59, 60, 61, 62, 63, 64, 65, 66, 67, 68, 69, 70, 71, 72, 73, 74, 75, 76, 77, 78, 79, 80, 81, 82, 83, 84, 85, 86, 87, 88, 89, 90, 91, 92, 93, 94, 95, 96, 97] (by decide +kernel) (by decide +kernel)
set_option maxRecDepth 20000 in
theorem gX9_behind_X9_steps : GoodIn wsX9_behind (wsV RX9 196 RX9 yX9_steps wsX9_steps) := goodIn_app (goodIn_of _ (by decide +kernel)) ggX9_behind_X9_steps
set_option maxRecDepth 20000 in
theorem ggX9_behind_X9_codeOfPast : GoodIn wsX9_behind wsX9_codeOfPast := goodIn_r _ [48, 7, 6, 8, 9, 10, 4, 11, 49, 50, 51, 52, 53, 54, 55, 56, 57, 58, 59, 60, 61, 62, 63, 64, 65, 66, 67, 68, 69, 70, 71, 72, 73, 74, 75, 76, 77, 78, 79, 80, 81, 82, 83, 84, 85, 86, 87, 88, 89, 90, 91, 92, 93, 94, 95, 96, 97] (by decide +kernel) (by decide +kernel)
set_option maxRecDepth 20000 in
theorem gX9_behind_X9_codeOfPast : GoodIn wsX9_behind (wsV RX9 273 RX9 yX9_codeOfPast wsX9_codeOfPast) := goodIn_app (goodIn_of _ (by decide +kernel)) ggX9_behind_X9_codeOfPast
theorem dX9_behind_0 : decode cX9_behind 0 = .ok (.aload_n 0, 1) := by decide +kernel
theorem dX9_behind_1 : decode cX9_behind 1 = .ok (.iload_n 1, 1) := by decide +kernel
theorem dX9_behind_2 : decode cX9_behind 2 = .ok (.invokevirtual 276, 3) := by decide +kernel
theorem dX9_behind_5 : decode cX9_behind 5 = .ok (.aload_n 0, 1) := by decide +kernel
theorem dX9_behind_6 : decode cX9_behind 6 = .ok (.iload_n 2, 1) := by decide +kernel
theorem dX9_behind_7 : decode cX9_behind 7 = .ok (.invokevirtual 196, 3) := by decide +kernel
theorem dX9_behind_10 : decode cX9_behind 10 = .ok (.sipush (-1005), 3) := by decide +kernel
theorem dX9_behind_13 : decode cX9_behind 13 = .ok (.if_icmp .ne 7, 3) := by decide +kernel
theorem dX9_behind_16 : decode cX9_behind 16 = .ok (.iconst (-1), 1) := by decide +kernel
theorem dX9_behind_17 : decode cX9_behind 17 = .ok (.goto 7, 3) := by decide +kernel
theorem dX9_behind_20 : decode cX9_behind 20 = .ok (.aload_n 0, 1) := by decide +kernel
theorem dX9_behind_21 : decode cX9_behind 21 = .ok (.invokevirtual 273, 3) := by decide +kernel
theorem dX9_behind_24 : decode cX9_behind 24 = .ok (.ireturn, 1) := by decide +kernel
set_option maxRecDepth 20000 in
theorem ggX9_isCode_X9_starts : GoodIn wsX9_isCode wsX9_starts := goodIn_r _ [5, 6, 10, 11, 12, 13, 14, 15, 16, 17, 18, 19, 20, 21, 22, 23, 24, 25, 26, 27, 28, 29, 30, 31, 32, 33, 34, 35, 36, 37, 38, 39, 40, 41, 42, 43, 44, 45, 46, 47, 48, 49, 50, 51, 52, 53, 54, 55, 56, 57, 58] (by decide +kernel) (by decide +kernel)
set_option maxRecDepth 20000 in
theorem gX9_isCode_X9_starts : GoodIn wsX9_isCode (wsV RX9 279 RX9 yX9_starts wsX9_starts) := goodIn_app (goodIn_of _ (by decide +kernel)) ggX9_isCode_X9_starts
set_option maxRecDepth 20000 in
theorem ggX9_isCode_X9_in : GoodIn wsX9_isCode wsX9_in := goodIn_r _ [9] (by decide +kernel) (by decide +kernel)
set_option maxRecDepth 20000 in
theorem gX9_isCode_X9_in : GoodIn wsX9_isCode (va_wsS RX9 100 yX9_in wsX9_in) := goodIn_app (goodIn_of _ (by decide +kernel)) ggX9_isCode_X9_in
theorem dX9_isCode_0 : decode cX9_isCode 0 = .ok (.iload_n 1, 1) := by decide +kernel
theorem dX9_isCode_1 : decode cX9_isCode 1 = .ok (.i2l, 1) := by decide +kernel
theorem dX9_isCode_2 : decode cX9_isCode 2 = .ok (.lconst 0, 1) := by decide +kernel
theorem dX9_isCode_3 : decode cX9_isCode 3 = .ok (.aload_n 0, 1) := by decide +kernel
theorem dX9_isCode_4 : decode cX9_isCode 4 = .ok (.invokevirtual 279, 3) := by decide +kernel
theorem dX9_isCode_7 : decode cX9_isCode 7 = .ok (.iconst 1, 1) := by decide +kernel
theorem dX9_isCode_8 : decode cX9_isCode 8 = .ok (.isub, 1) := by decide +kernel
theorem dX9_isCode_9 : decode cX9_isCode 9 = .ok (.i2l, 1) := by decide +kernel
theorem dX9_isCode_10 : decode cX9_isCode 10 = .ok (.invokestatic 100, 3) := by decide +kernel
theorem dX9_isCode_13 : decode cX9_isCode 13 = .ok (.ireturn, 1) := by decide +kernel
set_option maxRecDepth 20000 in
theorem ggX9_next_X9_isCode : GoodIn wsX9_next wsX9_isCode := goodIn_r _ [5, 6, 7, 8, 4, 9, 10, 11, 12, 13, 66, 67, 68, 69, 70, 71, 72, 73, 74, 75, 76, 77, 78, 79, 80, 81, 82, 83, 84, 85, 86, 87, 88, 89, 90, 91, 92, 93, 94, 95, 96, 97, 98, 99, 100, 101, 102, 103, 104, 105, 106, 107, 108, 109, 110, 111, 112, 113, 114] (by decide +kernel) (by decide +kernel)
set_option maxRecDepth 20000 in
theorem gX9_next_X9_isCode : GoodIn wsX9_next (wsV RX9 282 RX9 yX9_isCode wsX9_isCode) := goodIn_app (goodIn_of _ (by decide +kernel)) ggX9_next_X9_isCode
set_option maxRecDepth 20000 in
theorem ggX9_next_X9_isInput : GoodIn wsX9_next wsX9_isInput := goodIn_r _ [16, 17, 18, 11, 12, 4, 13] (by decide +kernel) (by decide +kernel)
set_option maxRecDepth 20000 in
theorem gX9_next_X9_isInput : GoodIn wsX9_next (va_wsS RX9 189 yX9_isInput wsX9_isInput) := goodIn_app (goodIn_of _ (by decide +kernel)) ggX9_next_X9_isInput
set_option maxRecDepth 20000 in
theorem ggX9_next_X9_behind : GoodIn wsX9_next wsX9_behind := goodIn_r _ [22, 23, 24, 25, 4, 26, 27, 10, 28, 29, 30, 31, 32, 33, 34, 35, 36, 37, 38, 39, 40, 41, 42, 43, 44, 45, 46, 47, 48, 49, 50, 51, 52, 53, 54, 11, 12, 13, 55, 56, 57, 58, 59, 60, 61, 62, 63, 64, 65, 66, 67, 68, 69, 70, 71, 72, 73, 74, 75, 76, 77, 78, 79, 80, 81, 82, 83, 84, 85, 86, 87, 88, 89, 90, 91, 92, 93, 94, 95, 96, 97, 98, 99, 100, 101, 102, 103, 104, 105, 106, 107, 108, 109, 110, 111, 112, 113, 114] (by decide +kernel) (by decide +kernel)
set_option maxRecDepth 20000 in
theorem gX9_next_X9_behind : GoodIn wsX9_next (wsV RX9 285 RX9 yX9_behind wsX9_behind) := goodIn_app (goodIn_of _ (by decide +kernel)) ggX9_next_X9_behind
theorem dX9_next_0 : decode cX9_next 0 = .ok (.aload_n 0, 1) := by decide +kernel
theorem dX9_next_1 : decode cX9_next 1 = .ok (.iload_n 1, 1) := by decide +kernel
theorem dX9_next_2 : decode cX9_next 2 = .ok (.invokevirtual 282, 3) := by decide +kernel
theorem dX9_next_5 : decode cX9_next 5 = .ok (.ifCond .eq 10, 3) := by decide +kernel
theorem dX9_next_8 : decode cX9_next 8 = .ok (.iload_n 2, 1) := by decide +kernel
theorem dX9_next_9 : decode cX9_next 9 = .ok (.invokestatic 189, 3) := by decide +kernel
theorem dX9_next_12 : decode cX9_next 12 = .ok (.ifCond .ne 5, 3) := by decide +kernel
theorem dX9_next_15 : decode cX9_next 15 = .ok (.iconst (-1), 1) := by decide +kernel
theorem dX9_next_16 : decode cX9_next 16 = .ok (.ireturn, 1) := by decide +kernel
theorem dX9_next_17 : decode cX9_next 17 = .ok (.aload_n 0, 1) := by decide +kernel
theorem dX9_next_18 : decode cX9_next 18 = .ok (.iload_n 1, 1) := by decide +kernel
theorem dX9_next_19 : decode cX9_next 19 = .ok (.iload_n 2, 1) := by decide +kernel
theorem dX9_next_20 : decode cX9_next 20 = .ok (.invokevirtual 285, 3) := by decide +kernel
theorem dX9_next_23 : decode cX9_next 23 = .ok (.istore_n 3, 1) := by decide +kernel
theorem dX9_next_24 : decode cX9_next 24 = .ok (.iload_n 3, 1) := by decide +kernel
theorem dX9_next_25 : decode cX9_next 25 = .ok (.ifCond .ge 8, 3) := by decide +kernel
theorem dX9_next_28 : decode cX9_next 28 = .ok (.bipush (-5), 2) := by decide +kernel
theorem dX9_next_30 : decode cX9_next 30 = .ok (.goto 4, 3) := by decide +kernel
theorem dX9_next_33 : decode cX9_next 33 = .ok (.iload_n 3, 1) := by decide +kernel
theorem dX9_next_34 : decode cX9_next 34 = .ok (.ireturn, 1) := by decide +kernel
set_option maxRecDepth 20000 in
theorem ggX9_wordOne_X9_takes : GoodIn wsX9_wordOne wsX9_takes := goodIn_r _ [10, 1, 11, 12, 13, 14, 9, 15, 16, 17, 18, 19, 20, 21, 22, 23, 24, 25, 26, 27, 28, 29, 30, 31, 32, 33, 34, 35, 36, 37, 38, 39, 40, 41, 42, 43, 44, 45, 46, 47, 48, 49, 50, 51, 52, 53, 54, 55, 56, 57, 58, 59, 60, 61, 62, 63, 64] (by decide +kernel) (by decide +kernel)
set_option maxRecDepth 20000 in
theorem gX9_wordOne_X9_takes : GoodIn wsX9_wordOne (wsV RX9 276 RX9 yX9_takes wsX9_takes) := goodIn_app (goodIn_of _ (by decide +kernel)) ggX9_wordOne_X9_takes
theorem dX9_wordOne_0 : decode cX9_wordOne 0 = .ok (.aload_n 0, 1) := by decide +kernel
theorem dX9_wordOne_1 : decode cX9_wordOne 1 = .ok (.iload_n 1, 1) := by decide +kernel
theorem dX9_wordOne_2 : decode cX9_wordOne 2 = .ok (.invokevirtual 276, 3) := by decide +kernel
theorem dX9_wordOne_5 : decode cX9_wordOne 5 = .ok (.aload_n 0, 1) := by decide +kernel
theorem dX9_wordOne_6 : decode cX9_wordOne 6 = .ok (.getfield 23, 3) := by decide +kernel
theorem dX9_wordOne_9 : decode cX9_wordOne 9 = .ok (.iconst 0, 1) := by decide +kernel
theorem dX9_wordOne_10 : decode cX9_wordOne 10 = .ok (.iaload, 1) := by decide +kernel
theorem dX9_wordOne_11 : decode cX9_wordOne 11 = .ok (.invokestatic 253, 3) := by decide +kernel
theorem dX9_wordOne_14 : decode cX9_wordOne 14 = .ok (.ireturn, 1) := by decide +kernel
set_option maxRecDepth 20000 in
theorem ggX9_findsRound_X9_wordOne : GoodIn wsX9_findsRound wsX9_wordOne := goodIn_r _ [20, 21, 22, 23, 9, 24, 25, 26, 27, 19, 28, 29, 30, 31, 32, 33, 34, 35, 36, 37, 38, 39, 40, 41, 42, 43, 44, 45, 46, 47, 48, 49, 50, 51, 52, 53, 54, 55, 56, 57, 58, 59, 60, 61, 62, 63, 64, 65, 66, 67, 68, 69, 70, 71, 72, 73, 74, 75, 76, 77, 78, 79, 80, 81, 82] (by decide +kernel) (by decide +kernel)
set_option maxRecDepth 20000 in
theorem gX9_findsRound_X9_wordOne : GoodIn wsX9_findsRound (wsV RX9 293 RX9 yX9_wordOne wsX9_wordOne) := goodIn_app (goodIn_of _ (by decide +kernel)) ggX9_findsRound_X9_wordOne
theorem dX9_findsRound_0 : decode cX9_findsRound 0 = .ok (.aload_n 0, 1) := by decide +kernel
theorem dX9_findsRound_1 : decode cX9_findsRound 1 = .ok (.getfield 68, 3) := by decide +kernel
theorem dX9_findsRound_4 : decode cX9_findsRound 4 = .ok (.aload_n 0, 1) := by decide +kernel
theorem dX9_findsRound_5 : decode cX9_findsRound 5 = .ok (.getfield 288, 3) := by decide +kernel
theorem dX9_findsRound_8 : decode cX9_findsRound 8 = .ok (.aload_n 0, 1) := by decide +kernel
theorem dX9_findsRound_9 : decode cX9_findsRound 9 = .ok (.getfield 65, 3) := by decide +kernel
theorem dX9_findsRound_12 : decode cX9_findsRound 12 = .ok (.iload_n 1, 1) := by decide +kernel
theorem dX9_findsRound_13 : decode cX9_findsRound 13 = .ok (.iaload, 1) := by decide +kernel
theorem dX9_findsRound_14 : decode cX9_findsRound 14 = .ok (.iastore, 1) := by decide +kernel
theorem dX9_findsRound_15 : decode cX9_findsRound 15 = .ok (.aload_n 0, 1) := by decide +kernel
theorem dX9_findsRound_16 : decode cX9_findsRound 16 = .ok (.getfield 71, 3) := by decide +kernel
theorem dX9_findsRound_19 : decode cX9_findsRound 19 = .ok (.aload_n 0, 1) := by decide +kernel
theorem dX9_findsRound_20 : decode cX9_findsRound 20 = .ok (.getfield 288, 3) := by decide +kernel
theorem dX9_findsRound_23 : decode cX9_findsRound 23 = .ok (.iload_n 2, 1) := by decide +kernel
theorem dX9_findsRound_24 : decode cX9_findsRound 24 = .ok (.iload_n 1, 1) := by decide +kernel
theorem dX9_findsRound_25 : decode cX9_findsRound 25 = .ok (.isub, 1) := by decide +kernel
theorem dX9_findsRound_26 : decode cX9_findsRound 26 = .ok (.iastore, 1) := by decide +kernel
theorem dX9_findsRound_27 : decode cX9_findsRound 27 = .ok (.aload_n 0, 1) := by decide +kernel
theorem dX9_findsRound_28 : decode cX9_findsRound 28 = .ok (.getfield 74, 3) := by decide +kernel
theorem dX9_findsRound_31 : decode cX9_findsRound 31 = .ok (.aload_n 0, 1) := by decide +kernel
theorem dX9_findsRound_32 : decode cX9_findsRound 32 = .ok (.getfield 288, 3) := by decide +kernel
theorem dX9_findsRound_35 : decode cX9_findsRound 35 = .ok (.iconst 0, 1) := by decide +kernel
theorem dX9_findsRound_36 : decode cX9_findsRound 36 = .ok (.iastore, 1) := by decide +kernel
theorem dX9_findsRound_37 : decode cX9_findsRound 37 = .ok (.aload_n 0, 1) := by decide +kernel
theorem dX9_findsRound_38 : decode cX9_findsRound 38 = .ok (.getfield 77, 3) := by decide +kernel
theorem dX9_findsRound_41 : decode cX9_findsRound 41 = .ok (.aload_n 0, 1) := by decide +kernel
theorem dX9_findsRound_42 : decode cX9_findsRound 42 = .ok (.getfield 288, 3) := by decide +kernel
theorem dX9_findsRound_45 : decode cX9_findsRound 45 = .ok (.iconst 0, 1) := by decide +kernel
theorem dX9_findsRound_46 : decode cX9_findsRound 46 = .ok (.iastore, 1) := by decide +kernel
theorem dX9_findsRound_47 : decode cX9_findsRound 47 = .ok (.iload_n 1, 1) := by decide +kernel
theorem dX9_findsRound_48 : decode cX9_findsRound 48 = .ok (.istore_n 3, 1) := by decide +kernel
theorem dX9_findsRound_49 : decode cX9_findsRound 49 = .ok (.iload_n 3, 1) := by decide +kernel
theorem dX9_findsRound_50 : decode cX9_findsRound 50 = .ok (.iload_n 2, 1) := by decide +kernel
theorem dX9_findsRound_51 : decode cX9_findsRound 51 = .ok (.if_icmp .ge 94, 3) := by decide +kernel
theorem dX9_findsRound_54 : decode cX9_findsRound 54 = .ok (.aload_n 0, 1) := by decide +kernel
theorem dX9_findsRound_55 : decode cX9_findsRound 55 = .ok (.getfield 68, 3) := by decide +kernel
theorem dX9_findsRound_58 : decode cX9_findsRound 58 = .ok (.aload_n 0, 1) := by decide +kernel
theorem dX9_findsRound_59 : decode cX9_findsRound 59 = .ok (.getfield 288, 3) := by decide +kernel
theorem dX9_findsRound_62 : decode cX9_findsRound 62 = .ok (.aload_n 0, 1) := by decide +kernel
theorem dX9_findsRound_63 : decode cX9_findsRound 63 = .ok (.getfield 68, 3) := by decide +kernel
theorem dX9_findsRound_66 : decode cX9_findsRound 66 = .ok (.aload_n 0, 1) := by decide +kernel
theorem dX9_findsRound_67 : decode cX9_findsRound 67 = .ok (.getfield 288, 3) := by decide +kernel
theorem dX9_findsRound_70 : decode cX9_findsRound 70 = .ok (.iaload, 1) := by decide +kernel
theorem dX9_findsRound_71 : decode cX9_findsRound 71 = .ok (.aload_n 0, 1) := by decide +kernel
theorem dX9_findsRound_72 : decode cX9_findsRound 72 = .ok (.getfield 65, 3) := by decide +kernel
theorem dX9_findsRound_75 : decode cX9_findsRound 75 = .ok (.iload_n 3, 1) := by decide +kernel
theorem dX9_findsRound_76 : decode cX9_findsRound 76 = .ok (.iaload, 1) := by decide +kernel
theorem dX9_findsRound_77 : decode cX9_findsRound 77 = .ok (.invokestatic 291, 3) := by decide +kernel
theorem dX9_findsRound_80 : decode cX9_findsRound 80 = .ok (.iastore, 1) := by decide +kernel
theorem dX9_findsRound_81 : decode cX9_findsRound 81 = .ok (.aload_n 0, 1) := by decide +kernel
theorem dX9_findsRound_82 : decode cX9_findsRound 82 = .ok (.getfield 74, 3) := by decide +kernel
theorem dX9_findsRound_85 : decode cX9_findsRound 85 = .ok (.aload_n 0, 1) := by decide +kernel
theorem dX9_findsRound_86 : decode cX9_findsRound 86 = .ok (.getfield 288, 3) := by decide +kernel
theorem dX9_findsRound_89 : decode cX9_findsRound 89 = .ok (.aload_n 0, 1) := by decide +kernel
theorem dX9_findsRound_90 : decode cX9_findsRound 90 = .ok (.getfield 74, 3) := by decide +kernel
theorem dX9_findsRound_93 : decode cX9_findsRound 93 = .ok (.aload_n 0, 1) := by decide +kernel
theorem dX9_findsRound_94 : decode cX9_findsRound 94 = .ok (.getfield 288, 3) := by decide +kernel
theorem dX9_findsRound_97 : decode cX9_findsRound 97 = .ok (.iaload, 1) := by decide +kernel
theorem dX9_findsRound_98 : decode cX9_findsRound 98 = .ok (.aload_n 0, 1) := by decide +kernel
theorem dX9_findsRound_99 : decode cX9_findsRound 99 = .ok (.aload_n 0, 1) := by decide +kernel
theorem dX9_findsRound_100 : decode cX9_findsRound 100 = .ok (.getfield 65, 3) := by decide +kernel
theorem dX9_findsRound_103 : decode cX9_findsRound 103 = .ok (.iload_n 3, 1) := by decide +kernel
theorem dX9_findsRound_104 : decode cX9_findsRound 104 = .ok (.iaload, 1) := by decide +kernel
theorem dX9_findsRound_105 : decode cX9_findsRound 105 = .ok (.invokevirtual 293, 3) := by decide +kernel
theorem dX9_findsRound_108 : decode cX9_findsRound 108 = .ok (.invokestatic 296, 3) := by decide +kernel
theorem dX9_findsRound_111 : decode cX9_findsRound 111 = .ok (.iastore, 1) := by decide +kernel
theorem dX9_findsRound_112 : decode cX9_findsRound 112 = .ok (.aload_n 0, 1) := by decide +kernel
theorem dX9_findsRound_113 : decode cX9_findsRound 113 = .ok (.getfield 59, 3) := by decide +kernel
theorem dX9_findsRound_116 : decode cX9_findsRound 116 = .ok (.aload_n 0, 1) := by decide +kernel
theorem dX9_findsRound_117 : decode cX9_findsRound 117 = .ok (.getfield 65, 3) := by decide +kernel
theorem dX9_findsRound_120 : decode cX9_findsRound 120 = .ok (.iload_n 3, 1) := by decide +kernel
theorem dX9_findsRound_121 : decode cX9_findsRound 121 = .ok (.iaload, 1) := by decide +kernel
theorem dX9_findsRound_122 : decode cX9_findsRound 122 = .ok (.aload_n 0, 1) := by decide +kernel
theorem dX9_findsRound_123 : decode cX9_findsRound 123 = .ok (.getfield 288, 3) := by decide +kernel
theorem dX9_findsRound_126 : decode cX9_findsRound 126 = .ok (.iastore, 1) := by decide +kernel
theorem dX9_findsRound_127 : decode cX9_findsRound 127 = .ok (.aload_n 0, 1) := by decide +kernel
theorem dX9_findsRound_128 : decode cX9_findsRound 128 = .ok (.getfield 62, 3) := by decide +kernel
theorem dX9_findsRound_131 : decode cX9_findsRound 131 = .ok (.aload_n 0, 1) := by decide +kernel
theorem dX9_findsRound_132 : decode cX9_findsRound 132 = .ok (.getfield 65, 3) := by decide +kernel
theorem dX9_findsRound_135 : decode cX9_findsRound 135 = .ok (.iload_n 3, 1) := by decide +kernel
theorem dX9_findsRound_136 : decode cX9_findsRound 136 = .ok (.iaload, 1) := by decide +kernel
theorem dX9_findsRound_137 : decode cX9_findsRound 137 = .ok (.iconst 0, 1) := by decide +kernel
theorem dX9_findsRound_138 : decode cX9_findsRound 138 = .ok (.iastore, 1) := by decide +kernel
theorem dX9_findsRound_139 : decode cX9_findsRound 139 = .ok (.iinc 3 1, 3) := by decide +kernel
theorem dX9_findsRound_142 : decode cX9_findsRound 142 = .ok (.goto (-93), 3) := by decide +kernel
theorem dX9_findsRound_145 : decode cX9_findsRound 145 = .ok (.aload_n 0, 1) := by decide +kernel
theorem dX9_findsRound_146 : decode cX9_findsRound 146 = .ok (.dup, 1) := by decide +kernel
theorem dX9_findsRound_147 : decode cX9_findsRound 147 = .ok (.getfield 288, 3) := by decide +kernel
theorem dX9_findsRound_150 : decode cX9_findsRound 150 = .ok (.iconst 1, 1) := by decide +kernel
theorem dX9_findsRound_151 : decode cX9_findsRound 151 = .ok (.iadd, 1) := by decide +kernel
theorem dX9_findsRound_152 : decode cX9_findsRound 152 = .ok (.putfield 288, 3) := by decide +kernel
theorem dX9_findsRound_155 : decode cX9_findsRound 155 = .ok (.return_, 1) := by decide +kernel
set_option maxRecDepth 20000 in
theorem ggX9_goesFrom_X9_findsRound : GoodIn wsX9_goesFrom wsX9_findsRound := goodIn_r _ [9, 10, 11, 2, 12, 13, 14, 15, 16, 17, 18, 19, 20, 21, 1, 4, 22, 23, 24, 8, 25, 26, 27, 28, 29, 30, 31, 32, 33, 34, 35, 36, 37, 38, 39, 40, 41, 42, 43, 44, 45, 46, 47, 48, 49, 50, 51, 52, 53, 54, 55, 56, 57, 58, 59, 60, 61, 62, 63, 64, 65, 66, 67, 68, 69, 70, 71, 72, 73, 74, 75, 76, 77, 78, 79, 80, 81, 82, 83, 84, 85, 86, 87] (by decide +kernel) (by decide +kernel)
set_option maxRecDepth 20000 in
theorem gX9_goesFrom_X9_findsRound : GoodIn wsX9_goesFrom (wsV RX9 298 RX9 yX9_findsRound wsX9_findsRound) := goodIn_app (goodIn_of _ (by decide +kernel)) ggX9_goesFrom_X9_findsRound
theorem dX9_goesFrom_0 : decode cX9_goesFrom 0 = .ok (.iconst 0, 1) := by decide +kernel
theorem dX9_goesFrom_1 : decode cX9_goesFrom 1 = .ok (.istore_n 2, 1) := by decide +kernel
theorem dX9_goesFrom_2 : decode cX9_goesFrom 2 = .ok (.iload_n 1, 1) := by decide +kernel
theorem dX9_goesFrom_3 : decode cX9_goesFrom 3 = .ok (.istore_n 3, 1) := by decide +kernel
theorem dX9_goesFrom_4 : decode cX9_goesFrom 4 = .ok (.iload_n 3, 1) := by decide +kernel
theorem dX9_goesFrom_5 : decode cX9_goesFrom 5 = .ok (.ifCond .lt 42, 3) := by decide +kernel
theorem dX9_goesFrom_8 : decode cX9_goesFrom 8 = .ok (.aload_n 0, 1) := by decide +kernel
theorem dX9_goesFrom_9 : decode cX9_goesFrom 9 = .ok (.getfield 59, 3) := by decide +kernel
theorem dX9_goesFrom_12 : decode cX9_goesFrom 12 = .ok (.iload_n 3, 1) := by decide +kernel
theorem dX9_goesFrom_13 : decode cX9_goesFrom 13 = .ok (.iaload, 1) := by decide +kernel
theorem dX9_goesFrom_14 : decode cX9_goesFrom 14 = .ok (.bipush (-3), 2) := by decide +kernel
theorem dX9_goesFrom_16 : decode cX9_goesFrom 16 = .ok (.if_icmp .ne 31, 3) := by decide +kernel
theorem dX9_goesFrom_19 : decode cX9_goesFrom 19 = .ok (.aload_n 0, 1) := by decide +kernel
theorem dX9_goesFrom_20 : decode cX9_goesFrom 20 = .ok (.getfield 59, 3) := by decide +kernel
theorem dX9_goesFrom_23 : decode cX9_goesFrom 23 = .ok (.iload_n 3, 1) := by decide +kernel
theorem dX9_goesFrom_24 : decode cX9_goesFrom 24 = .ok (.bipush (-2), 2) := by decide +kernel
theorem dX9_goesFrom_26 : decode cX9_goesFrom 26 = .ok (.iastore, 1) := by decide +kernel
theorem dX9_goesFrom_27 : decode cX9_goesFrom 27 = .ok (.aload_n 0, 1) := by decide +kernel
theorem dX9_goesFrom_28 : decode cX9_goesFrom 28 = .ok (.getfield 65, 3) := by decide +kernel
theorem dX9_goesFrom_31 : decode cX9_goesFrom 31 = .ok (.iload_n 2, 1) := by decide +kernel
theorem dX9_goesFrom_32 : decode cX9_goesFrom 32 = .ok (.iload_n 3, 1) := by decide +kernel
theorem dX9_goesFrom_33 : decode cX9_goesFrom 33 = .ok (.iastore, 1) := by decide +kernel
theorem dX9_goesFrom_34 : decode cX9_goesFrom 34 = .ok (.iinc 2 1, 3) := by decide +kernel
theorem dX9_goesFrom_37 : decode cX9_goesFrom 37 = .ok (.aload_n 0, 1) := by decide +kernel
theorem dX9_goesFrom_38 : decode cX9_goesFrom 38 = .ok (.getfield 56, 3) := by decide +kernel
theorem dX9_goesFrom_41 : decode cX9_goesFrom 41 = .ok (.iload_n 3, 1) := by decide +kernel
theorem dX9_goesFrom_42 : decode cX9_goesFrom 42 = .ok (.iaload, 1) := by decide +kernel
theorem dX9_goesFrom_43 : decode cX9_goesFrom 43 = .ok (.istore_n 3, 1) := by decide +kernel
theorem dX9_goesFrom_44 : decode cX9_goesFrom 44 = .ok (.goto (-40), 3) := by decide +kernel
theorem dX9_goesFrom_47 : decode cX9_goesFrom 47 = .ok (.iload_n 3, 1) := by decide +kernel
theorem dX9_goesFrom_48 : decode cX9_goesFrom 48 = .ok (.ifCond .lt 44, 3) := by decide +kernel
theorem dX9_goesFrom_51 : decode cX9_goesFrom 51 = .ok (.aload_n 0, 1) := by decide +kernel
theorem dX9_goesFrom_52 : decode cX9_goesFrom 52 = .ok (.getfield 59, 3) := by decide +kernel
theorem dX9_goesFrom_55 : decode cX9_goesFrom 55 = .ok (.iload_n 3, 1) := by decide +kernel
theorem dX9_goesFrom_56 : decode cX9_goesFrom 56 = .ok (.iaload, 1) := by decide +kernel
theorem dX9_goesFrom_57 : decode cX9_goesFrom 57 = .ok (.bipush (-2), 2) := by decide +kernel
theorem dX9_goesFrom_59 : decode cX9_goesFrom 59 = .ok (.if_icmp .ne 33, 3) := by decide +kernel
theorem dX9_goesFrom_62 : decode cX9_goesFrom 62 = .ok (.iconst 0, 1) := by decide +kernel
theorem dX9_goesFrom_63 : decode cX9_goesFrom 63 = .ok (.istore 4, 2) := by decide +kernel
theorem dX9_goesFrom_65 : decode cX9_goesFrom 65 = .ok (.aload_n 0, 1) := by decide +kernel
theorem dX9_goesFrom_66 : decode cX9_goesFrom 66 = .ok (.getfield 65, 3) := by decide +kernel
theorem dX9_goesFrom_69 : decode cX9_goesFrom 69 = .ok (.iload 4, 2) := by decide +kernel
theorem dX9_goesFrom_71 : decode cX9_goesFrom 71 = .ok (.iaload, 1) := by decide +kernel
theorem dX9_goesFrom_72 : decode cX9_goesFrom 72 = .ok (.iload_n 3, 1) := by decide +kernel
theorem dX9_goesFrom_73 : decode cX9_goesFrom 73 = .ok (.if_icmp .eq 9, 3) := by decide +kernel
theorem dX9_goesFrom_76 : decode cX9_goesFrom 76 = .ok (.iinc 4 1, 3) := by decide +kernel
theorem dX9_goesFrom_79 : decode cX9_goesFrom 79 = .ok (.goto (-14), 3) := by decide +kernel
theorem dX9_goesFrom_82 : decode cX9_goesFrom 82 = .ok (.aload_n 0, 1) := by decide +kernel
theorem dX9_goesFrom_83 : decode cX9_goesFrom 83 = .ok (.iload 4, 2) := by decide +kernel
theorem dX9_goesFrom_85 : decode cX9_goesFrom 85 = .ok (.iload_n 2, 1) := by decide +kernel
theorem dX9_goesFrom_86 : decode cX9_goesFrom 86 = .ok (.invokevirtual 298, 3) := by decide +kernel
theorem dX9_goesFrom_89 : decode cX9_goesFrom 89 = .ok (.iload 4, 2) := by decide +kernel
theorem dX9_goesFrom_91 : decode cX9_goesFrom 91 = .ok (.istore_n 2, 1) := by decide +kernel
theorem dX9_goesFrom_92 : decode cX9_goesFrom 92 = .ok (.iload_n 2, 1) := by decide +kernel
theorem dX9_goesFrom_93 : decode cX9_goesFrom 93 = .ok (.iconst 1, 1) := by decide +kernel
theorem dX9_goesFrom_94 : decode cX9_goesFrom 94 = .ok (.isub, 1) := by decide +kernel
theorem dX9_goesFrom_95 : decode cX9_goesFrom 95 = .ok (.istore 4, 2) := by decide +kernel
theorem dX9_goesFrom_97 : decode cX9_goesFrom 97 = .ok (.iload 4, 2) := by decide +kernel
theorem dX9_goesFrom_99 : decode cX9_goesFrom 99 = .ok (.ifCond .lt 92, 3) := by decide +kernel
theorem dX9_goesFrom_102 : decode cX9_goesFrom 102 = .ok (.aload_n 0, 1) := by decide +kernel
theorem dX9_goesFrom_103 : decode cX9_goesFrom 103 = .ok (.getfield 56, 3) := by decide +kernel
theorem dX9_goesFrom_106 : decode cX9_goesFrom 106 = .ok (.aload_n 0, 1) := by decide +kernel
theorem dX9_goesFrom_107 : decode cX9_goesFrom 107 = .ok (.getfield 65, 3) := by decide +kernel
theorem dX9_goesFrom_110 : decode cX9_goesFrom 110 = .ok (.iload 4, 2) := by decide +kernel
theorem dX9_goesFrom_112 : decode cX9_goesFrom 112 = .ok (.iaload, 1) := by decide +kernel
theorem dX9_goesFrom_113 : decode cX9_goesFrom 113 = .ok (.iaload, 1) := by decide +kernel
theorem dX9_goesFrom_114 : decode cX9_goesFrom 114 = .ok (.istore 5, 2) := by decide +kernel
theorem dX9_goesFrom_116 : decode cX9_goesFrom 116 = .ok (.aload_n 0, 1) := by decide +kernel
theorem dX9_goesFrom_117 : decode cX9_goesFrom 117 = .ok (.getfield 59, 3) := by decide +kernel
theorem dX9_goesFrom_120 : decode cX9_goesFrom 120 = .ok (.aload_n 0, 1) := by decide +kernel
theorem dX9_goesFrom_121 : decode cX9_goesFrom 121 = .ok (.getfield 65, 3) := by decide +kernel
theorem dX9_goesFrom_124 : decode cX9_goesFrom 124 = .ok (.iload 4, 2) := by decide +kernel
theorem dX9_goesFrom_126 : decode cX9_goesFrom 126 = .ok (.iaload, 1) := by decide +kernel
theorem dX9_goesFrom_127 : decode cX9_goesFrom 127 = .ok (.iload 5, 2) := by decide +kernel
theorem dX9_goesFrom_129 : decode cX9_goesFrom 129 = .ok (.ifCond .ge 7, 3) := by decide +kernel
theorem dX9_goesFrom_132 : decode cX9_goesFrom 132 = .ok (.iconst (-1), 1) := by decide +kernel
theorem dX9_goesFrom_133 : decode cX9_goesFrom 133 = .ok (.goto 10, 3) := by decide +kernel
theorem dX9_goesFrom_136 : decode cX9_goesFrom 136 = .ok (.aload_n 0, 1) := by decide +kernel
theorem dX9_goesFrom_137 : decode cX9_goesFrom 137 = .ok (.getfield 59, 3) := by decide +kernel
theorem dX9_goesFrom_140 : decode cX9_goesFrom 140 = .ok (.iload 5, 2) := by decide +kernel
theorem dX9_goesFrom_142 : decode cX9_goesFrom 142 = .ok (.iaload, 1) := by decide +kernel
theorem dX9_goesFrom_143 : decode cX9_goesFrom 143 = .ok (.iastore, 1) := by decide +kernel
theorem dX9_goesFrom_144 : decode cX9_goesFrom 144 = .ok (.aload_n 0, 1) := by decide +kernel
theorem dX9_goesFrom_145 : decode cX9_goesFrom 145 = .ok (.getfield 62, 3) := by decide +kernel
theorem dX9_goesFrom_148 : decode cX9_goesFrom 148 = .ok (.aload_n 0, 1) := by decide +kernel
theorem dX9_goesFrom_149 : decode cX9_goesFrom 149 = .ok (.getfield 65, 3) := by decide +kernel
theorem dX9_goesFrom_152 : decode cX9_goesFrom 152 = .ok (.iload 4, 2) := by decide +kernel
theorem dX9_goesFrom_154 : decode cX9_goesFrom 154 = .ok (.iaload, 1) := by decide +kernel
theorem dX9_goesFrom_155 : decode cX9_goesFrom 155 = .ok (.iload 5, 2) := by decide +kernel
theorem dX9_goesFrom_157 : decode cX9_goesFrom 157 = .ok (.ifCond .lt 14, 3) := by decide +kernel
theorem dX9_goesFrom_160 : decode cX9_goesFrom 160 = .ok (.aload_n 0, 1) := by decide +kernel
theorem dX9_goesFrom_161 : decode cX9_goesFrom 161 = .ok (.getfield 59, 3) := by decide +kernel
theorem dX9_goesFrom_164 : decode cX9_goesFrom 164 = .ok (.iload 5, 2) := by decide +kernel
theorem dX9_goesFrom_166 : decode cX9_goesFrom 166 = .ok (.iaload, 1) := by decide +kernel
theorem dX9_goesFrom_167 : decode cX9_goesFrom 167 = .ok (.iconst (-1), 1) := by decide +kernel
theorem dX9_goesFrom_168 : decode cX9_goesFrom 168 = .ok (.if_icmp .ne 7, 3) := by decide +kernel
theorem dX9_goesFrom_171 : decode cX9_goesFrom 171 = .ok (.iconst 0, 1) := by decide +kernel
theorem dX9_goesFrom_172 : decode cX9_goesFrom 172 = .ok (.goto 12, 3) := by decide +kernel
theorem dX9_goesFrom_175 : decode cX9_goesFrom 175 = .ok (.aload_n 0, 1) := by decide +kernel
theorem dX9_goesFrom_176 : decode cX9_goesFrom 176 = .ok (.getfield 62, 3) := by decide +kernel
theorem dX9_goesFrom_179 : decode cX9_goesFrom 179 = .ok (.iload 5, 2) := by decide +kernel
theorem dX9_goesFrom_181 : decode cX9_goesFrom 181 = .ok (.iaload, 1) := by decide +kernel
theorem dX9_goesFrom_182 : decode cX9_goesFrom 182 = .ok (.iconst 1, 1) := by decide +kernel
theorem dX9_goesFrom_183 : decode cX9_goesFrom 183 = .ok (.iadd, 1) := by decide +kernel
theorem dX9_goesFrom_184 : decode cX9_goesFrom 184 = .ok (.iastore, 1) := by decide +kernel
theorem dX9_goesFrom_185 : decode cX9_goesFrom 185 = .ok (.iinc 4 (-1), 3) := by decide +kernel
theorem dX9_goesFrom_188 : decode cX9_goesFrom 188 = .ok (.goto (-91), 3) := by decide +kernel
theorem dX9_goesFrom_191 : decode cX9_goesFrom 191 = .ok (.return_, 1) := by decide +kernel
set_option maxRecDepth 20000 in
theorem ggX9_findsAll_X9_starts : GoodIn wsX9_findsAll wsX9_starts := goodIn_r _ [21, 22, 93, 94, 95, 96, 97, 98, 99, 100, 101, 102, 103, 104, 105, 106, 107, 108, 109, 110, 111, 112, 113, 114, 115, 116, 117, 118, 119, 120, 121, 122, 123, 124, 125, 126, 127, 128, 129, 130, 131, 132, 133, 134, 135, 136, 137, 138, 139, 140, 141] (by decide +kernel) (by decide +kernel)
set_option maxRecDepth 20000 in
theorem gX9_findsAll_X9_starts : GoodIn wsX9_findsAll (wsV RX9 279 RX9 yX9_starts wsX9_starts) := goodIn_app (goodIn_of _ (by decide +kernel)) ggX9_findsAll_X9_starts
set_option maxRecDepth 20000 in
theorem ggX9_findsAll_X9_behind : GoodIn wsX9_findsAll wsX9_behind := goodIn_r _ [26, 27, 28, 29, 20, 30, 31, 22, 32, 33, 34, 35, 36, 37, 38, 39, 40, 41, 42, 43, 44, 45, 46, 47, 48, 49, 50, 51, 52, 53, 54, 55, 56, 57, 58, 59, 60, 61, 62, 63, 64, 65, 66, 67, 68, 69, 70, 71, 72, 93, 94, 95, 96, 97, 98, 99, 100, 101, 102, 103, 104, 105, 106, 107, 108, 109, 110, 111, 112, 113, 114, 115, 116, 117, 118, 119, 120, 121, 122, 123, 124, 125, 126, 127, 128, 129, 130, 131, 132, 133, 134, 135, 136, 137, 138, 139, 140, 141] (by decide +kernel) (by decide +kernel)
set_option maxRecDepth 20000 in
theorem gX9_findsAll_X9_behind : GoodIn wsX9_findsAll (wsV RX9 285 RX9 yX9_behind wsX9_behind) := goodIn_app (goodIn_of _ (by decide +kernel)) ggX9_findsAll_X9_behind
set_option maxRecDepth 20000 in
theorem ggX9_findsAll_X9_goesFrom : GoodIn wsX9_findsAll wsX9_goesFrom := goodIn_r _ [76, 7, 77, 6, 9, 78, 79, 80, 20, 81, 15, 1, 82, 14, 8, 83, 84, 12, 85, 10, 11, 13, 86, 87, 88, 89, 31, 90, 91, 92, 27, 28, 29, 30, 22, 32, 33, 34, 35, 93, 94, 95, 96, 97, 98, 99, 100, 101, 102, 103, 104, 105, 106, 107, 108, 109, 110, 111, 112, 113, 114, 115, 116, 117, 118, 119, 120, 121, 122, 123, 124, 125, 126, 127, 128, 129, 130, 131, 132, 133, 134, 135, 136, 137, 138, 139, 140, 141] (by decide +kernel) (by decide +kernel)
set_option maxRecDepth 20000 in
theorem gX9_findsAll_X9_goesFrom : GoodIn wsX9_findsAll (wsV RX9 313 RX9 yX9_goesFrom wsX9_goesFrom) := goodIn_app (goodIn_of _ (by decide +kernel)) ggX9_findsAll_X9_goesFrom
theorem dX9_findsAll_0 : decode cX9_findsAll 0 = .ok (.aload_n 0, 1) := by decide +kernel
theorem dX9_findsAll_1 : decode cX9_findsAll 1 = .ok (.invokevirtual 279, 3) := by decide +kernel
theorem dX9_findsAll_4 : decode cX9_findsAll 4 = .ok (.istore_n 2, 1) := by decide +kernel
theorem dX9_findsAll_5 : decode cX9_findsAll 5 = .ok (.aload_n 0, 1) := by decide +kernel
theorem dX9_findsAll_6 : decode cX9_findsAll 6 = .ok (.iconst 0, 1) := by decide +kernel
theorem dX9_findsAll_7 : decode cX9_findsAll 7 = .ok (.putfield 288, 3) := by decide +kernel
theorem dX9_findsAll_10 : decode cX9_findsAll 10 = .ok (.aload_n 0, 1) := by decide +kernel
theorem dX9_findsAll_11 : decode cX9_findsAll 11 = .ok (.iconst 0, 1) := by decide +kernel
theorem dX9_findsAll_12 : decode cX9_findsAll 12 = .ok (.putfield 301, 3) := by decide +kernel
theorem dX9_findsAll_15 : decode cX9_findsAll 15 = .ok (.aload_n 0, 1) := by decide +kernel
theorem dX9_findsAll_16 : decode cX9_findsAll 16 = .ok (.iconst 0, 1) := by decide +kernel
theorem dX9_findsAll_17 : decode cX9_findsAll 17 = .ok (.putfield 304, 3) := by decide +kernel
theorem dX9_findsAll_20 : decode cX9_findsAll 20 = .ok (.aload_n 0, 1) := by decide +kernel
theorem dX9_findsAll_21 : decode cX9_findsAll 21 = .ok (.iconst 0, 1) := by decide +kernel
theorem dX9_findsAll_22 : decode cX9_findsAll 22 = .ok (.putfield 307, 3) := by decide +kernel
theorem dX9_findsAll_25 : decode cX9_findsAll 25 = .ok (.aload_n 0, 1) := by decide +kernel
theorem dX9_findsAll_26 : decode cX9_findsAll 26 = .ok (.iconst 0, 1) := by decide +kernel
theorem dX9_findsAll_27 : decode cX9_findsAll 27 = .ok (.putfield 310, 3) := by decide +kernel
theorem dX9_findsAll_30 : decode cX9_findsAll 30 = .ok (.iconst 0, 1) := by decide +kernel
theorem dX9_findsAll_31 : decode cX9_findsAll 31 = .ok (.istore_n 3, 1) := by decide +kernel
theorem dX9_findsAll_32 : decode cX9_findsAll 32 = .ok (.iload_n 3, 1) := by decide +kernel
theorem dX9_findsAll_33 : decode cX9_findsAll 33 = .ok (.iload_n 2, 1) := by decide +kernel
theorem dX9_findsAll_34 : decode cX9_findsAll 34 = .ok (.if_icmp .ge 29, 3) := by decide +kernel
theorem dX9_findsAll_37 : decode cX9_findsAll 37 = .ok (.aload_n 0, 1) := by decide +kernel
theorem dX9_findsAll_38 : decode cX9_findsAll 38 = .ok (.getfield 56, 3) := by decide +kernel
theorem dX9_findsAll_41 : decode cX9_findsAll 41 = .ok (.iload_n 3, 1) := by decide +kernel
theorem dX9_findsAll_42 : decode cX9_findsAll 42 = .ok (.aload_n 0, 1) := by decide +kernel
theorem dX9_findsAll_43 : decode cX9_findsAll 43 = .ok (.iload_n 3, 1) := by decide +kernel
theorem dX9_findsAll_44 : decode cX9_findsAll 44 = .ok (.iload_n 1, 1) := by decide +kernel
theorem dX9_findsAll_45 : decode cX9_findsAll 45 = .ok (.invokevirtual 285, 3) := by decide +kernel
theorem dX9_findsAll_48 : decode cX9_findsAll 48 = .ok (.iastore, 1) := by decide +kernel
theorem dX9_findsAll_49 : decode cX9_findsAll 49 = .ok (.aload_n 0, 1) := by decide +kernel
theorem dX9_findsAll_50 : decode cX9_findsAll 50 = .ok (.getfield 59, 3) := by decide +kernel
theorem dX9_findsAll_53 : decode cX9_findsAll 53 = .ok (.iload_n 3, 1) := by decide +kernel
theorem dX9_findsAll_54 : decode cX9_findsAll 54 = .ok (.bipush (-3), 2) := by decide +kernel
theorem dX9_findsAll_56 : decode cX9_findsAll 56 = .ok (.iastore, 1) := by decide +kernel
theorem dX9_findsAll_57 : decode cX9_findsAll 57 = .ok (.iinc 3 1, 3) := by decide +kernel
theorem dX9_findsAll_60 : decode cX9_findsAll 60 = .ok (.goto (-28), 3) := by decide +kernel
theorem dX9_findsAll_63 : decode cX9_findsAll 63 = .ok (.iconst 0, 1) := by decide +kernel
theorem dX9_findsAll_64 : decode cX9_findsAll 64 = .ok (.istore_n 3, 1) := by decide +kernel
theorem dX9_findsAll_65 : decode cX9_findsAll 65 = .ok (.iload_n 3, 1) := by decide +kernel
theorem dX9_findsAll_66 : decode cX9_findsAll 66 = .ok (.iload_n 2, 1) := by decide +kernel
theorem dX9_findsAll_67 : decode cX9_findsAll 67 = .ok (.if_icmp .ge 25, 3) := by decide +kernel
theorem dX9_findsAll_70 : decode cX9_findsAll 70 = .ok (.aload_n 0, 1) := by decide +kernel
theorem dX9_findsAll_71 : decode cX9_findsAll 71 = .ok (.getfield 59, 3) := by decide +kernel
theorem dX9_findsAll_74 : decode cX9_findsAll 74 = .ok (.iload_n 3, 1) := by decide +kernel
theorem dX9_findsAll_75 : decode cX9_findsAll 75 = .ok (.iaload, 1) := by decide +kernel
theorem dX9_findsAll_76 : decode cX9_findsAll 76 = .ok (.bipush (-3), 2) := by decide +kernel
theorem dX9_findsAll_78 : decode cX9_findsAll 78 = .ok (.if_icmp .ne 8, 3) := by decide +kernel
theorem dX9_findsAll_81 : decode cX9_findsAll 81 = .ok (.aload_n 0, 1) := by decide +kernel
theorem dX9_findsAll_82 : decode cX9_findsAll 82 = .ok (.iload_n 3, 1) := by decide +kernel
theorem dX9_findsAll_83 : decode cX9_findsAll 83 = .ok (.invokevirtual 313, 3) := by decide +kernel
theorem dX9_findsAll_86 : decode cX9_findsAll 86 = .ok (.iinc 3 1, 3) := by decide +kernel
theorem dX9_findsAll_89 : decode cX9_findsAll 89 = .ok (.goto (-24), 3) := by decide +kernel
theorem dX9_findsAll_92 : decode cX9_findsAll 92 = .ok (.iconst 0, 1) := by decide +kernel
theorem dX9_findsAll_93 : decode cX9_findsAll 93 = .ok (.istore_n 3, 1) := by decide +kernel
theorem dX9_findsAll_94 : decode cX9_findsAll 94 = .ok (.iconst 0, 1) := by decide +kernel
theorem dX9_findsAll_95 : decode cX9_findsAll 95 = .ok (.istore 4, 2) := by decide +kernel
theorem dX9_findsAll_97 : decode cX9_findsAll 97 = .ok (.iload 4, 2) := by decide +kernel
theorem dX9_findsAll_99 : decode cX9_findsAll 99 = .ok (.iload_n 2, 1) := by decide +kernel
theorem dX9_findsAll_100 : decode cX9_findsAll 100 = .ok (.if_icmp .ge 131, 3) := by decide +kernel
theorem dX9_findsAll_103 : decode cX9_findsAll 103 = .ok (.aload_n 0, 1) := by decide +kernel
theorem dX9_findsAll_104 : decode cX9_findsAll 104 = .ok (.getfield 59, 3) := by decide +kernel
theorem dX9_findsAll_107 : decode cX9_findsAll 107 = .ok (.iload 4, 2) := by decide +kernel
theorem dX9_findsAll_109 : decode cX9_findsAll 109 = .ok (.iaload, 1) := by decide +kernel
theorem dX9_findsAll_110 : decode cX9_findsAll 110 = .ok (.istore 5, 2) := by decide +kernel
theorem dX9_findsAll_112 : decode cX9_findsAll 112 = .ok (.iload 5, 2) := by decide +kernel
theorem dX9_findsAll_114 : decode cX9_findsAll 114 = .ok (.iconst (-1), 1) := by decide +kernel
theorem dX9_findsAll_115 : decode cX9_findsAll 115 = .ok (.if_icmp .ne 16, 3) := by decide +kernel
theorem dX9_findsAll_118 : decode cX9_findsAll 118 = .ok (.aload_n 0, 1) := by decide +kernel
theorem dX9_findsAll_119 : decode cX9_findsAll 119 = .ok (.dup, 1) := by decide +kernel
theorem dX9_findsAll_120 : decode cX9_findsAll 120 = .ok (.getfield 301, 3) := by decide +kernel
theorem dX9_findsAll_123 : decode cX9_findsAll 123 = .ok (.iconst 1, 1) := by decide +kernel
theorem dX9_findsAll_124 : decode cX9_findsAll 124 = .ok (.iadd, 1) := by decide +kernel
theorem dX9_findsAll_125 : decode cX9_findsAll 125 = .ok (.putfield 301, 3) := by decide +kernel
theorem dX9_findsAll_128 : decode cX9_findsAll 128 = .ok (.goto 97, 3) := by decide +kernel
theorem dX9_findsAll_131 : decode cX9_findsAll 131 = .ok (.aload_n 0, 1) := by decide +kernel
theorem dX9_findsAll_132 : decode cX9_findsAll 132 = .ok (.getfield 77, 3) := by decide +kernel
theorem dX9_findsAll_135 : decode cX9_findsAll 135 = .ok (.iload 5, 2) := by decide +kernel
theorem dX9_findsAll_137 : decode cX9_findsAll 137 = .ok (.dup2, 1) := by decide +kernel
theorem dX9_findsAll_138 : decode cX9_findsAll 138 = .ok (.iaload, 1) := by decide +kernel
theorem dX9_findsAll_139 : decode cX9_findsAll 139 = .ok (.iconst 1, 1) := by decide +kernel
theorem dX9_findsAll_140 : decode cX9_findsAll 140 = .ok (.iadd, 1) := by decide +kernel
theorem dX9_findsAll_141 : decode cX9_findsAll 141 = .ok (.iastore, 1) := by decide +kernel
theorem dX9_findsAll_142 : decode cX9_findsAll 142 = .ok (.aload_n 0, 1) := by decide +kernel
theorem dX9_findsAll_143 : decode cX9_findsAll 143 = .ok (.aload_n 0, 1) := by decide +kernel
theorem dX9_findsAll_144 : decode cX9_findsAll 144 = .ok (.getfield 307, 3) := by decide +kernel
theorem dX9_findsAll_147 : decode cX9_findsAll 147 = .ok (.aload_n 0, 1) := by decide +kernel
theorem dX9_findsAll_148 : decode cX9_findsAll 148 = .ok (.getfield 62, 3) := by decide +kernel
theorem dX9_findsAll_151 : decode cX9_findsAll 151 = .ok (.iload 4, 2) := by decide +kernel
theorem dX9_findsAll_153 : decode cX9_findsAll 153 = .ok (.iaload, 1) := by decide +kernel
theorem dX9_findsAll_154 : decode cX9_findsAll 154 = .ok (.invokestatic 296, 3) := by decide +kernel
theorem dX9_findsAll_157 : decode cX9_findsAll 157 = .ok (.putfield 307, 3) := by decide +kernel
theorem dX9_findsAll_160 : decode cX9_findsAll 160 = .ok (.aload_n 0, 1) := by decide +kernel
theorem dX9_findsAll_161 : decode cX9_findsAll 161 = .ok (.aload_n 0, 1) := by decide +kernel
theorem dX9_findsAll_162 : decode cX9_findsAll 162 = .ok (.getfield 310, 3) := by decide +kernel
theorem dX9_findsAll_165 : decode cX9_findsAll 165 = .ok (.aload_n 0, 1) := by decide +kernel
theorem dX9_findsAll_166 : decode cX9_findsAll 166 = .ok (.getfield 74, 3) := by decide +kernel
theorem dX9_findsAll_169 : decode cX9_findsAll 169 = .ok (.iload 5, 2) := by decide +kernel
theorem dX9_findsAll_171 : decode cX9_findsAll 171 = .ok (.iaload, 1) := by decide +kernel
theorem dX9_findsAll_172 : decode cX9_findsAll 172 = .ok (.invokestatic 296, 3) := by decide +kernel
theorem dX9_findsAll_175 : decode cX9_findsAll 175 = .ok (.putfield 310, 3) := by decide +kernel
theorem dX9_findsAll_178 : decode cX9_findsAll 178 = .ok (.aload_n 0, 1) := by decide +kernel
theorem dX9_findsAll_179 : decode cX9_findsAll 179 = .ok (.dup, 1) := by decide +kernel
theorem dX9_findsAll_180 : decode cX9_findsAll 180 = .ok (.getfield 304, 3) := by decide +kernel
theorem dX9_findsAll_183 : decode cX9_findsAll 183 = .ok (.aload_n 0, 1) := by decide +kernel
theorem dX9_findsAll_184 : decode cX9_findsAll 184 = .ok (.getfield 62, 3) := by decide +kernel
theorem dX9_findsAll_187 : decode cX9_findsAll 187 = .ok (.iload 4, 2) := by decide +kernel
theorem dX9_findsAll_189 : decode cX9_findsAll 189 = .ok (.iaload, 1) := by decide +kernel
theorem dX9_findsAll_190 : decode cX9_findsAll 190 = .ok (.ifCond .ne 7, 3) := by decide +kernel
theorem dX9_findsAll_193 : decode cX9_findsAll 193 = .ok (.iconst 1, 1) := by decide +kernel
theorem dX9_findsAll_194 : decode cX9_findsAll 194 = .ok (.goto 4, 3) := by decide +kernel
theorem dX9_findsAll_197 : decode cX9_findsAll 197 = .ok (.iconst 0, 1) := by decide +kernel
theorem dX9_findsAll_198 : decode cX9_findsAll 198 = .ok (.iadd, 1) := by decide +kernel
theorem dX9_findsAll_199 : decode cX9_findsAll 199 = .ok (.putfield 304, 3) := by decide +kernel
theorem dX9_findsAll_202 : decode cX9_findsAll 202 = .ok (.aload_n 0, 1) := by decide +kernel
theorem dX9_findsAll_203 : decode cX9_findsAll 203 = .ok (.getfield 68, 3) := by decide +kernel
theorem dX9_findsAll_206 : decode cX9_findsAll 206 = .ok (.iload 5, 2) := by decide +kernel
theorem dX9_findsAll_208 : decode cX9_findsAll 208 = .ok (.iaload, 1) := by decide +kernel
theorem dX9_findsAll_209 : decode cX9_findsAll 209 = .ok (.iload 4, 2) := by decide +kernel
theorem dX9_findsAll_211 : decode cX9_findsAll 211 = .ok (.if_icmp .ne 14, 3) := by decide +kernel
theorem dX9_findsAll_214 : decode cX9_findsAll 214 = .ok (.aload_n 0, 1) := by decide +kernel
theorem dX9_findsAll_215 : decode cX9_findsAll 215 = .ok (.getfield 80, 3) := by decide +kernel
theorem dX9_findsAll_218 : decode cX9_findsAll 218 = .ok (.iload_n 3, 1) := by decide +kernel
theorem dX9_findsAll_219 : decode cX9_findsAll 219 = .ok (.iload 5, 2) := by decide +kernel
theorem dX9_findsAll_221 : decode cX9_findsAll 221 = .ok (.iastore, 1) := by decide +kernel
theorem dX9_findsAll_222 : decode cX9_findsAll 222 = .ok (.iinc 3 1, 3) := by decide +kernel
theorem dX9_findsAll_225 : decode cX9_findsAll 225 = .ok (.iinc 4 1, 3) := by decide +kernel
theorem dX9_findsAll_228 : decode cX9_findsAll 228 = .ok (.goto (-131), 3) := by decide +kernel
theorem dX9_findsAll_231 : decode cX9_findsAll 231 = .ok (.aload_n 0, 1) := by decide +kernel
theorem dX9_findsAll_232 : decode cX9_findsAll 232 = .ok (.aload_n 0, 1) := by decide +kernel
theorem dX9_findsAll_233 : decode cX9_findsAll 233 = .ok (.getfield 288, 3) := by decide +kernel
theorem dX9_findsAll_236 : decode cX9_findsAll 236 = .ok (.ifCond .ne 8, 3) := by decide +kernel
theorem dX9_findsAll_239 : decode cX9_findsAll 239 = .ok (.bipush 99, 2) := by decide +kernel
theorem dX9_findsAll_241 : decode cX9_findsAll 241 = .ok (.goto 7, 3) := by decide +kernel
theorem dX9_findsAll_244 : decode cX9_findsAll 244 = .ok (.aload_n 0, 1) := by decide +kernel
theorem dX9_findsAll_245 : decode cX9_findsAll 245 = .ok (.getfield 310, 3) := by decide +kernel
theorem dX9_findsAll_248 : decode cX9_findsAll 248 = .ok (.putfield 310, 3) := by decide +kernel
theorem dX9_findsAll_251 : decode cX9_findsAll 251 = .ok (.return_, 1) := by decide +kernel
theorem dX9_numberOf_0 : decode cX9_numberOf 0 = .ok (.iconst 0, 1) := by decide +kernel
theorem dX9_numberOf_1 : decode cX9_numberOf 1 = .ok (.istore_n 2, 1) := by decide +kernel
theorem dX9_numberOf_2 : decode cX9_numberOf 2 = .ok (.aload_n 0, 1) := by decide +kernel
theorem dX9_numberOf_3 : decode cX9_numberOf 3 = .ok (.getfield 80, 3) := by decide +kernel
theorem dX9_numberOf_6 : decode cX9_numberOf 6 = .ok (.iload_n 2, 1) := by decide +kernel
theorem dX9_numberOf_7 : decode cX9_numberOf 7 = .ok (.iaload, 1) := by decide +kernel
theorem dX9_numberOf_8 : decode cX9_numberOf 8 = .ok (.iload_n 1, 1) := by decide +kernel
theorem dX9_numberOf_9 : decode cX9_numberOf 9 = .ok (.if_icmp .eq 9, 3) := by decide +kernel
theorem dX9_numberOf_12 : decode cX9_numberOf 12 = .ok (.iinc 2 1, 3) := by decide +kernel
theorem dX9_numberOf_15 : decode cX9_numberOf 15 = .ok (.goto (-13), 3) := by decide +kernel
theorem dX9_numberOf_18 : decode cX9_numberOf 18 = .ok (.iload_n 2, 1) := by decide +kernel
theorem dX9_numberOf_19 : decode cX9_numberOf 19 = .ok (.ireturn, 1) := by decide +kernel
set_option maxRecDepth 20000 in
theorem ggX9_leads_X9_isCode : GoodIn wsX9_leads wsX9_isCode := goodIn_r _ [9, 10, 11, 12, 8, 13, 14, 15, 16, 17, 111, 112, 113, 114, 115, 116, 117, 118, 119, 120, 121, 122, 123, 124, 125, 126, 127, 128, 129, 130, 131, 132, 133, 134, 135, 136, 137, 138, 139, 140, 141, 142, 143, 144, 145, 146, 147, 148, 149, 150, 151, 152, 153, 154, 155, 156, 157, 158, 159] (by decide +kernel) (by decide +kernel)
set_option maxRecDepth 20000 in
theorem gX9_leads_X9_isCode : GoodIn wsX9_leads (wsV RX9 282 RX9 yX9_isCode wsX9_isCode) := goodIn_app (goodIn_of _ (by decide +kernel)) ggX9_leads_X9_isCode
set_option maxRecDepth 20000 in
theorem ggX9_leads_X9_isInput : GoodIn wsX9_leads wsX9_isInput := goodIn_r _ [20, 21, 22, 15, 16, 8, 17] (by decide +kernel) (by decide +kernel)
set_option maxRecDepth 20000 in
theorem gX9_leads_X9_isInput : GoodIn wsX9_leads (va_wsS RX9 189 yX9_isInput wsX9_isInput) := goodIn_app (goodIn_of _ (by decide +kernel)) ggX9_leads_X9_isInput
set_option maxRecDepth 20000 in
theorem ggX9_leads_X9_in : GoodIn wsX9_leads wsX9_in := goodIn_r _ [17] (by decide +kernel) (by decide +kernel)
set_option maxRecDepth 20000 in
theorem gX9_leads_X9_in : GoodIn wsX9_leads (va_wsS RX9 100 yX9_in wsX9_in) := goodIn_app (goodIn_of _ (by decide +kernel)) ggX9_leads_X9_in
set_option maxRecDepth 20000 in
theorem ggX9_leads_X9_findsAll : GoodIn wsX9_leads wsX9_findsAll := goodIn_r _ [26, 27, 28, 29, 30, 31, 32, 2, 33, 3, 34, 35, 36, 37, 38, 39, 40, 10, 11, 12, 8, 13, 14, 41, 42, 43, 44, 45, 46, 47, 48, 49, 50, 51, 52, 53, 54, 55, 56, 57, 58, 59, 60, 61, 62, 63, 64, 65, 66, 67, 68, 69, 70, 71, 72, 73, 74, 75, 76, 15, 16, 17, 77, 78, 79, 80, 81, 82, 83, 84, 85, 86, 87, 88, 89, 90, 91, 92, 93, 94, 95, 96, 4, 97, 98, 99, 100, 101, 102, 103, 104, 105, 106, 111, 112, 113, 114, 115, 116, 117, 118, 119, 120, 121, 122, 123, 124, 125, 126, 127, 128, 129, 130, 131, 132, 133, 134, 135, 136, 137, 138, 139, 140, 141, 142, 143, 144, 145, 146, 147, 148, 149, 150, 151, 152, 153, 154, 155, 156, 157, 158, 159] (by decide +kernel) (by decide +kernel)
set_option maxRecDepth 20000 in
theorem gX9_leads_X9_findsAll : GoodIn wsX9_leads (wsV RX9 316 RX9 yX9_findsAll wsX9_findsAll) := goodIn_app (goodIn_of _ (by decide +kernel)) ggX9_leads_X9_findsAll
set_option maxRecDepth 20000 in
theorem ggX9_leads_X9_numberOf : GoodIn wsX9_leads wsX9_numberOf := goodIn_r _ [110, 40, 111, 112, 113, 114, 115, 116, 117, 118, 119, 120, 121, 122, 123, 124, 125, 126, 127, 128, 129, 130, 131, 132, 133, 134, 135, 136, 137, 138, 139, 140, 141, 142, 143, 144, 145, 146, 147, 148, 149, 150, 151, 152, 153, 154, 155, 156, 157, 158, 159] (by decide +kernel) (by decide +kernel)
set_option maxRecDepth 20000 in
theorem gX9_leads_X9_numberOf : GoodIn wsX9_leads (wsV RX9 319 RX9 yX9_numberOf wsX9_numberOf) := goodIn_app (goodIn_of _ (by decide +kernel)) ggX9_leads_X9_numberOf
theorem dX9_leads_0 : decode cX9_leads 0 = .ok (.aload_n 0, 1) := by decide +kernel
theorem dX9_leads_1 : decode cX9_leads 1 = .ok (.iload_n 1, 1) := by decide +kernel
theorem dX9_leads_2 : decode cX9_leads 2 = .ok (.invokevirtual 282, 3) := by decide +kernel
theorem dX9_leads_5 : decode cX9_leads 5 = .ok (.ifCond .eq 22, 3) := by decide +kernel
theorem dX9_leads_8 : decode cX9_leads 8 = .ok (.iload_n 2, 1) := by decide +kernel
theorem dX9_leads_9 : decode cX9_leads 9 = .ok (.invokestatic 189, 3) := by decide +kernel
theorem dX9_leads_12 : decode cX9_leads 12 = .ok (.ifCond .eq 15, 3) := by decide +kernel
theorem dX9_leads_15 : decode cX9_leads 15 = .ok (.iload_n 3, 1) := by decide +kernel
theorem dX9_leads_16 : decode cX9_leads 16 = .ok (.i2l, 1) := by decide +kernel
theorem dX9_leads_17 : decode cX9_leads 17 = .ok (.lconst 0, 1) := by decide +kernel
theorem dX9_leads_18 : decode cX9_leads 18 = .ok (.ldc2_w 212, 3) := by decide +kernel
theorem dX9_leads_21 : decode cX9_leads 21 = .ok (.invokestatic 100, 3) := by decide +kernel
theorem dX9_leads_24 : decode cX9_leads 24 = .ok (.ifCond .ne 5, 3) := by decide +kernel
theorem dX9_leads_27 : decode cX9_leads 27 = .ok (.iconst (-1), 1) := by decide +kernel
theorem dX9_leads_28 : decode cX9_leads 28 = .ok (.ireturn, 1) := by decide +kernel
theorem dX9_leads_29 : decode cX9_leads 29 = .ok (.aload_n 0, 1) := by decide +kernel
theorem dX9_leads_30 : decode cX9_leads 30 = .ok (.iload_n 2, 1) := by decide +kernel
theorem dX9_leads_31 : decode cX9_leads 31 = .ok (.invokevirtual 316, 3) := by decide +kernel
theorem dX9_leads_34 : decode cX9_leads 34 = .ok (.aload_n 0, 1) := by decide +kernel
theorem dX9_leads_35 : decode cX9_leads 35 = .ok (.getfield 59, 3) := by decide +kernel
theorem dX9_leads_38 : decode cX9_leads 38 = .ok (.iload_n 1, 1) := by decide +kernel
theorem dX9_leads_39 : decode cX9_leads 39 = .ok (.iaload, 1) := by decide +kernel
theorem dX9_leads_40 : decode cX9_leads 40 = .ok (.istore 4, 2) := by decide +kernel
theorem dX9_leads_42 : decode cX9_leads 42 = .ok (.iload 4, 2) := by decide +kernel
theorem dX9_leads_44 : decode cX9_leads 44 = .ok (.iconst (-1), 1) := by decide +kernel
theorem dX9_leads_45 : decode cX9_leads 45 = .ok (.if_icmp .ne 8, 3) := by decide +kernel
theorem dX9_leads_48 : decode cX9_leads 48 = .ok (.bipush (-5), 2) := by decide +kernel
theorem dX9_leads_50 : decode cX9_leads 50 = .ok (.goto 37, 3) := by decide +kernel
theorem dX9_leads_53 : decode cX9_leads 53 = .ok (.iload_n 3, 1) := by decide +kernel
theorem dX9_leads_54 : decode cX9_leads 54 = .ok (.ifCond .ne 12, 3) := by decide +kernel
theorem dX9_leads_57 : decode cX9_leads 57 = .ok (.aload_n 0, 1) := by decide +kernel
theorem dX9_leads_58 : decode cX9_leads 58 = .ok (.getfield 62, 3) := by decide +kernel
theorem dX9_leads_61 : decode cX9_leads 61 = .ok (.iload_n 1, 1) := by decide +kernel
theorem dX9_leads_62 : decode cX9_leads 62 = .ok (.iaload, 1) := by decide +kernel
theorem dX9_leads_63 : decode cX9_leads 63 = .ok (.goto 24, 3) := by decide +kernel
theorem dX9_leads_66 : decode cX9_leads 66 = .ok (.iload_n 3, 1) := by decide +kernel
theorem dX9_leads_67 : decode cX9_leads 67 = .ok (.iconst 1, 1) := by decide +kernel
theorem dX9_leads_68 : decode cX9_leads 68 = .ok (.if_icmp .ne 13, 3) := by decide +kernel
theorem dX9_leads_71 : decode cX9_leads 71 = .ok (.aload_n 0, 1) := by decide +kernel
theorem dX9_leads_72 : decode cX9_leads 72 = .ok (.getfield 71, 3) := by decide +kernel
theorem dX9_leads_75 : decode cX9_leads 75 = .ok (.iload 4, 2) := by decide +kernel
theorem dX9_leads_77 : decode cX9_leads 77 = .ok (.iaload, 1) := by decide +kernel
theorem dX9_leads_78 : decode cX9_leads 78 = .ok (.goto 9, 3) := by decide +kernel
theorem dX9_leads_81 : decode cX9_leads 81 = .ok (.aload_n 0, 1) := by decide +kernel
theorem dX9_leads_82 : decode cX9_leads 82 = .ok (.iload 4, 2) := by decide +kernel
theorem dX9_leads_84 : decode cX9_leads 84 = .ok (.invokevirtual 319, 3) := by decide +kernel
theorem dX9_leads_87 : decode cX9_leads 87 = .ok (.ireturn, 1) := by decide +kernel
set_option maxRecDepth 20000 in
theorem ggX9_cycles_X9_isInput : GoodIn wsX9_cycles wsX9_isInput := goodIn_r _ [10, 11, 12, 13, 14, 9, 15] (by decide +kernel) (by decide +kernel)
set_option maxRecDepth 20000 in
theorem gX9_cycles_X9_isInput : GoodIn wsX9_cycles (va_wsS RX9 189 yX9_isInput wsX9_isInput) := goodIn_app (goodIn_of _ (by decide +kernel)) ggX9_cycles_X9_isInput
set_option maxRecDepth 20000 in
theorem ggX9_cycles_X9_in : GoodIn wsX9_cycles wsX9_in := goodIn_r _ [15] (by decide +kernel) (by decide +kernel)
set_option maxRecDepth 20000 in
theorem gX9_cycles_X9_in : GoodIn wsX9_cycles (va_wsS RX9 100 yX9_in wsX9_in) := goodIn_app (goodIn_of _ (by decide +kernel)) ggX9_cycles_X9_in
set_option maxRecDepth 20000 in
theorem ggX9_cycles_X9_findsAll : GoodIn wsX9_cycles wsX9_findsAll := goodIn_r _ [19, 2, 3, 6, 4, 5, 20, 21, 22, 23, 24, 25, 26, 27, 28, 29, 30, 31, 32, 33, 9, 34, 35, 36, 37, 38, 39, 40, 41, 42, 43, 44, 45, 46, 47, 48, 49, 50, 51, 52, 53, 54, 55, 56, 57, 58, 59, 60, 61, 62, 63, 64, 65, 66, 67, 68, 69, 70, 71, 13, 14, 15, 72, 73, 74, 75, 76, 77, 78, 79, 80, 81, 82, 83, 84, 85, 86, 87, 88, 89, 90, 91, 92, 93, 94, 95, 96, 97, 98, 99, 100, 101, 102, 103, 104, 105, 106, 107, 108, 109, 110, 111, 112, 113, 114, 115, 116, 117, 118, 119, 120, 121, 122, 123, 124, 125, 126, 127, 128, 129, 130, 131, 132, 133, 134, 135, 136, 137, 138, 139, 140, 141, 142, 143, 144, 145, 146, 147, 148, 149, 150, 151] (by decide +kernel) (by decide +kernel)
set_option maxRecDepth 20000 in
theorem gX9_cycles_X9_findsAll : GoodIn wsX9_cycles (wsV RX9 316 RX9 yX9_findsAll wsX9_findsAll) := goodIn_app (goodIn_of _ (by decide +kernel)) ggX9_cycles_X9_findsAll
theorem dX9_cycles_0 : decode cX9_cycles 0 = .ok (.iload_n 1, 1) := by decide +kernel
theorem dX9_cycles_1 : decode cX9_cycles 1 = .ok (.invokestatic 189, 3) := by decide +kernel
theorem dX9_cycles_4 : decode cX9_cycles 4 = .ok (.ifCond .eq 15, 3) := by decide +kernel
theorem dX9_cycles_7 : decode cX9_cycles 7 = .ok (.iload_n 2, 1) := by decide +kernel
theorem dX9_cycles_8 : decode cX9_cycles 8 = .ok (.i2l, 1) := by decide +kernel
theorem dX9_cycles_9 : decode cX9_cycles 9 = .ok (.lconst 0, 1) := by decide +kernel
theorem dX9_cycles_10 : decode cX9_cycles 10 = .ok (.ldc2_w 154, 3) := by decide +kernel
theorem dX9_cycles_13 : decode cX9_cycles 13 = .ok (.invokestatic 100, 3) := by decide +kernel
theorem dX9_cycles_16 : decode cX9_cycles 16 = .ok (.ifCond .ne 5, 3) := by decide +kernel
theorem dX9_cycles_19 : decode cX9_cycles 19 = .ok (.iconst (-1), 1) := by decide +kernel
theorem dX9_cycles_20 : decode cX9_cycles 20 = .ok (.ireturn, 1) := by decide +kernel
theorem dX9_cycles_21 : decode cX9_cycles 21 = .ok (.aload_n 0, 1) := by decide +kernel
theorem dX9_cycles_22 : decode cX9_cycles 22 = .ok (.iload_n 1, 1) := by decide +kernel
theorem dX9_cycles_23 : decode cX9_cycles 23 = .ok (.invokevirtual 316, 3) := by decide +kernel
theorem dX9_cycles_26 : decode cX9_cycles 26 = .ok (.iload_n 2, 1) := by decide +kernel
theorem dX9_cycles_27 : decode cX9_cycles 27 = .ok (.tableswitch 49 0 3 #[29, 34, 39, 44], 29) := by decide +kernel
theorem dX9_cycles_56 : decode cX9_cycles 56 = .ok (.aload_n 0, 1) := by decide +kernel
theorem dX9_cycles_57 : decode cX9_cycles 57 = .ok (.getfield 288, 3) := by decide +kernel
theorem dX9_cycles_60 : decode cX9_cycles 60 = .ok (.ireturn, 1) := by decide +kernel
theorem dX9_cycles_61 : decode cX9_cycles 61 = .ok (.aload_n 0, 1) := by decide +kernel
theorem dX9_cycles_62 : decode cX9_cycles 62 = .ok (.getfield 301, 3) := by decide +kernel
theorem dX9_cycles_65 : decode cX9_cycles 65 = .ok (.ireturn, 1) := by decide +kernel
theorem dX9_cycles_66 : decode cX9_cycles 66 = .ok (.aload_n 0, 1) := by decide +kernel
theorem dX9_cycles_67 : decode cX9_cycles 67 = .ok (.getfield 307, 3) := by decide +kernel
theorem dX9_cycles_70 : decode cX9_cycles 70 = .ok (.ireturn, 1) := by decide +kernel
theorem dX9_cycles_71 : decode cX9_cycles 71 = .ok (.aload_n 0, 1) := by decide +kernel
theorem dX9_cycles_72 : decode cX9_cycles 72 = .ok (.getfield 310, 3) := by decide +kernel
theorem dX9_cycles_75 : decode cX9_cycles 75 = .ok (.ireturn, 1) := by decide +kernel
theorem dX9_cycles_76 : decode cX9_cycles 76 = .ok (.aload_n 0, 1) := by decide +kernel
theorem dX9_cycles_77 : decode cX9_cycles 77 = .ok (.getfield 304, 3) := by decide +kernel
theorem dX9_cycles_80 : decode cX9_cycles 80 = .ok (.ireturn, 1) := by decide +kernel
set_option maxRecDepth 20000 in
theorem ggX9_cycle_X9_isInput : GoodIn wsX9_cycle wsX9_isInput := goodIn_r _ [11, 12, 13, 14, 15, 10, 16] (by decide +kernel) (by decide +kernel)
set_option maxRecDepth 20000 in
theorem gX9_cycle_X9_isInput : GoodIn wsX9_cycle (va_wsS RX9 189 yX9_isInput wsX9_isInput) := goodIn_app (goodIn_of _ (by decide +kernel)) ggX9_cycle_X9_isInput
set_option maxRecDepth 20000 in
theorem ggX9_cycle_X9_in : GoodIn wsX9_cycle wsX9_in := goodIn_r _ [16] (by decide +kernel) (by decide +kernel)
set_option maxRecDepth 20000 in
theorem gX9_cycle_X9_in : GoodIn wsX9_cycle (va_wsS RX9 100 yX9_in wsX9_in) := goodIn_app (goodIn_of _ (by decide +kernel)) ggX9_cycle_X9_in
set_option maxRecDepth 20000 in
theorem ggX9_cycle_X9_findsAll : GoodIn wsX9_cycle wsX9_findsAll := goodIn_r _ [20, 2, 21, 22, 23, 24, 25, 26, 7, 27, 28, 29, 30, 31, 6, 4, 3, 32, 33, 34, 10, 35, 36, 37, 38, 39, 40, 41, 42, 43, 44, 45, 46, 47, 48, 49, 50, 51, 52, 53, 54, 55, 56, 57, 58, 59, 60, 61, 62, 63, 64, 65, 66, 67, 68, 69, 70, 71, 72, 14, 15, 16, 73, 74, 75, 76, 77, 78, 79, 80, 81, 82, 83, 84, 85, 86, 87, 88, 89, 90, 91, 92, 5, 93, 94, 95, 96, 97, 98, 99, 100, 101, 102, 103, 104, 105, 106, 107, 108, 109, 110, 111, 112, 113, 114, 115, 116, 117, 118, 119, 120, 121, 122, 123, 124, 125, 126, 127, 128, 129, 130, 131, 132, 133, 134, 135, 136, 137, 138, 139, 140, 141, 142, 143, 144, 145, 146, 147, 148, 149, 150, 151] (by decide +kernel) (by decide +kernel)
set_option maxRecDepth 20000 in
theorem gX9_cycle_X9_findsAll : GoodIn wsX9_cycle (wsV RX9 316 RX9 yX9_findsAll wsX9_findsAll) := goodIn_app (goodIn_of _ (by decide +kernel)) ggX9_cycle_X9_findsAll
theorem dX9_cycle_0 : decode cX9_cycle 0 = .ok (.iload_n 1, 1) := by decide +kernel
theorem dX9_cycle_1 : decode cX9_cycle 1 = .ok (.invokestatic 189, 3) := by decide +kernel
theorem dX9_cycle_4 : decode cX9_cycle 4 = .ok (.ifCond .eq 15, 3) := by decide +kernel
theorem dX9_cycle_7 : decode cX9_cycle 7 = .ok (.iload_n 3, 1) := by decide +kernel
theorem dX9_cycle_8 : decode cX9_cycle 8 = .ok (.i2l, 1) := by decide +kernel
theorem dX9_cycle_9 : decode cX9_cycle 9 = .ok (.lconst 0, 1) := by decide +kernel
theorem dX9_cycle_10 : decode cX9_cycle 10 = .ok (.ldc2_w 110, 3) := by decide +kernel
theorem dX9_cycle_13 : decode cX9_cycle 13 = .ok (.invokestatic 100, 3) := by decide +kernel
theorem dX9_cycle_16 : decode cX9_cycle 16 = .ok (.ifCond .ne 5, 3) := by decide +kernel
theorem dX9_cycle_19 : decode cX9_cycle 19 = .ok (.iconst (-1), 1) := by decide +kernel
theorem dX9_cycle_20 : decode cX9_cycle 20 = .ok (.ireturn, 1) := by decide +kernel
theorem dX9_cycle_21 : decode cX9_cycle 21 = .ok (.aload_n 0, 1) := by decide +kernel
theorem dX9_cycle_22 : decode cX9_cycle 22 = .ok (.iload_n 1, 1) := by decide +kernel
theorem dX9_cycle_23 : decode cX9_cycle 23 = .ok (.invokevirtual 316, 3) := by decide +kernel
theorem dX9_cycle_26 : decode cX9_cycle 26 = .ok (.iload_n 2, 1) := by decide +kernel
theorem dX9_cycle_27 : decode cX9_cycle 27 = .ok (.i2l, 1) := by decide +kernel
theorem dX9_cycle_28 : decode cX9_cycle 28 = .ok (.lconst 0, 1) := by decide +kernel
theorem dX9_cycle_29 : decode cX9_cycle 29 = .ok (.aload_n 0, 1) := by decide +kernel
theorem dX9_cycle_30 : decode cX9_cycle 30 = .ok (.getfield 288, 3) := by decide +kernel
theorem dX9_cycle_33 : decode cX9_cycle 33 = .ok (.iconst 1, 1) := by decide +kernel
theorem dX9_cycle_34 : decode cX9_cycle 34 = .ok (.isub, 1) := by decide +kernel
theorem dX9_cycle_35 : decode cX9_cycle 35 = .ok (.i2l, 1) := by decide +kernel
theorem dX9_cycle_36 : decode cX9_cycle 36 = .ok (.invokestatic 100, 3) := by decide +kernel
theorem dX9_cycle_39 : decode cX9_cycle 39 = .ok (.ifCond .ne 6, 3) := by decide +kernel
theorem dX9_cycle_42 : decode cX9_cycle 42 = .ok (.bipush (-2), 2) := by decide +kernel
theorem dX9_cycle_44 : decode cX9_cycle 44 = .ok (.ireturn, 1) := by decide +kernel
theorem dX9_cycle_45 : decode cX9_cycle 45 = .ok (.aload_n 0, 1) := by decide +kernel
theorem dX9_cycle_46 : decode cX9_cycle 46 = .ok (.getfield 80, 3) := by decide +kernel
theorem dX9_cycle_49 : decode cX9_cycle 49 = .ok (.iload_n 2, 1) := by decide +kernel
theorem dX9_cycle_50 : decode cX9_cycle 50 = .ok (.iaload, 1) := by decide +kernel
theorem dX9_cycle_51 : decode cX9_cycle 51 = .ok (.istore 4, 2) := by decide +kernel
theorem dX9_cycle_53 : decode cX9_cycle 53 = .ok (.iload_n 3, 1) := by decide +kernel
theorem dX9_cycle_54 : decode cX9_cycle 54 = .ok (.ifCond .ne 13, 3) := by decide +kernel
theorem dX9_cycle_57 : decode cX9_cycle 57 = .ok (.aload_n 0, 1) := by decide +kernel
theorem dX9_cycle_58 : decode cX9_cycle 58 = .ok (.getfield 68, 3) := by decide +kernel
theorem dX9_cycle_61 : decode cX9_cycle 61 = .ok (.iload 4, 2) := by decide +kernel
theorem dX9_cycle_63 : decode cX9_cycle 63 = .ok (.iaload, 1) := by decide +kernel
theorem dX9_cycle_64 : decode cX9_cycle 64 = .ok (.goto 40, 3) := by decide +kernel
theorem dX9_cycle_67 : decode cX9_cycle 67 = .ok (.iload_n 3, 1) := by decide +kernel
theorem dX9_cycle_68 : decode cX9_cycle 68 = .ok (.iconst 1, 1) := by decide +kernel
theorem dX9_cycle_69 : decode cX9_cycle 69 = .ok (.if_icmp .ne 13, 3) := by decide +kernel
theorem dX9_cycle_72 : decode cX9_cycle 72 = .ok (.aload_n 0, 1) := by decide +kernel
theorem dX9_cycle_73 : decode cX9_cycle 73 = .ok (.getfield 71, 3) := by decide +kernel
theorem dX9_cycle_76 : decode cX9_cycle 76 = .ok (.iload 4, 2) := by decide +kernel
theorem dX9_cycle_78 : decode cX9_cycle 78 = .ok (.iaload, 1) := by decide +kernel
theorem dX9_cycle_79 : decode cX9_cycle 79 = .ok (.goto 25, 3) := by decide +kernel
theorem dX9_cycle_82 : decode cX9_cycle 82 = .ok (.iload_n 3, 1) := by decide +kernel
theorem dX9_cycle_83 : decode cX9_cycle 83 = .ok (.iconst 2, 1) := by decide +kernel
theorem dX9_cycle_84 : decode cX9_cycle 84 = .ok (.if_icmp .ne 13, 3) := by decide +kernel
theorem dX9_cycle_87 : decode cX9_cycle 87 = .ok (.aload_n 0, 1) := by decide +kernel
theorem dX9_cycle_88 : decode cX9_cycle 88 = .ok (.getfield 74, 3) := by decide +kernel
theorem dX9_cycle_91 : decode cX9_cycle 91 = .ok (.iload 4, 2) := by decide +kernel
theorem dX9_cycle_93 : decode cX9_cycle 93 = .ok (.iaload, 1) := by decide +kernel
theorem dX9_cycle_94 : decode cX9_cycle 94 = .ok (.goto 10, 3) := by decide +kernel
theorem dX9_cycle_97 : decode cX9_cycle 97 = .ok (.aload_n 0, 1) := by decide +kernel
theorem dX9_cycle_98 : decode cX9_cycle 98 = .ok (.getfield 77, 3) := by decide +kernel
theorem dX9_cycle_101 : decode cX9_cycle 101 = .ok (.iload 4, 2) := by decide +kernel
theorem dX9_cycle_103 : decode cX9_cycle 103 = .ok (.iaload, 1) := by decide +kernel
theorem dX9_cycle_104 : decode cX9_cycle 104 = .ok (.ireturn, 1) := by decide +kernel
set_option maxRecDepth 20000 in
theorem ggX9_onCycle_X9_isInput : GoodIn wsX9_onCycle wsX9_isInput := goodIn_r _ [9, 10, 11, 12, 13, 8, 14] (by decide +kernel) (by decide +kernel)
set_option maxRecDepth 20000 in
theorem gX9_onCycle_X9_isInput : GoodIn wsX9_onCycle (va_wsS RX9 189 yX9_isInput wsX9_isInput) := goodIn_app (goodIn_of _ (by decide +kernel)) ggX9_onCycle_X9_isInput
set_option maxRecDepth 20000 in
theorem ggX9_onCycle_X9_findsAll : GoodIn wsX9_onCycle wsX9_findsAll := goodIn_r _ [18, 1, 19, 20, 21, 22, 5, 23, 24, 25, 26, 27, 28, 29, 30, 2, 3, 31, 32, 33, 8, 34, 35, 36, 37, 38, 39, 40, 41, 42, 43, 44, 45, 46, 47, 48, 49, 50, 51, 52, 53, 54, 55, 56, 57, 58, 59, 60, 61, 62, 63, 64, 65, 66, 67, 68, 69, 70, 71, 12, 13, 14, 72, 73, 74, 75, 76, 77, 78, 79, 80, 81, 82, 83, 84, 85, 86, 87, 88, 89, 90, 91, 4, 92, 93, 94, 95, 96, 97, 98, 99, 100, 101, 102, 103, 104, 105, 106, 107, 108, 109, 110, 111, 112, 113, 114, 115, 116, 117, 118, 119, 120, 121, 122, 123, 124, 125, 126, 127, 128, 129, 130, 131, 132, 133, 134, 135, 136, 137, 138, 139, 140, 141, 142, 143, 144, 145, 146, 147, 148, 149, 150] (by decide +kernel) (by decide +kernel)
set_option maxRecDepth 20000 in
theorem gX9_onCycle_X9_findsAll : GoodIn wsX9_onCycle (wsV RX9 316 RX9 yX9_findsAll wsX9_findsAll) := goodIn_app (goodIn_of _ (by decide +kernel)) ggX9_onCycle_X9_findsAll
set_option maxRecDepth 20000 in
theorem ggX9_onCycle_X9_in : GoodIn wsX9_onCycle wsX9_in := goodIn_r _ [14] (by decide +kernel) (by decide +kernel)
set_option maxRecDepth 20000 in
theorem gX9_onCycle_X9_in : GoodIn wsX9_onCycle (va_wsS RX9 100 yX9_in wsX9_in) := goodIn_app (goodIn_of _ (by decide +kernel)) ggX9_onCycle_X9_in
theorem dX9_onCycle_0 : decode cX9_onCycle 0 = .ok (.iload_n 1, 1) := by decide +kernel
theorem dX9_onCycle_1 : decode cX9_onCycle 1 = .ok (.invokestatic 189, 3) := by decide +kernel
theorem dX9_onCycle_4 : decode cX9_onCycle 4 = .ok (.ifCond .eq 7, 3) := by decide +kernel
theorem dX9_onCycle_7 : decode cX9_onCycle 7 = .ok (.iload_n 3, 1) := by decide +kernel
theorem dX9_onCycle_8 : decode cX9_onCycle 8 = .ok (.ifCond .ge 5, 3) := by decide +kernel
theorem dX9_onCycle_11 : decode cX9_onCycle 11 = .ok (.iconst (-1), 1) := by decide +kernel
theorem dX9_onCycle_12 : decode cX9_onCycle 12 = .ok (.ireturn, 1) := by decide +kernel
theorem dX9_onCycle_13 : decode cX9_onCycle 13 = .ok (.aload_n 0, 1) := by decide +kernel
theorem dX9_onCycle_14 : decode cX9_onCycle 14 = .ok (.iload_n 1, 1) := by decide +kernel
theorem dX9_onCycle_15 : decode cX9_onCycle 15 = .ok (.invokevirtual 316, 3) := by decide +kernel
theorem dX9_onCycle_18 : decode cX9_onCycle 18 = .ok (.iload_n 2, 1) := by decide +kernel
theorem dX9_onCycle_19 : decode cX9_onCycle 19 = .ok (.i2l, 1) := by decide +kernel
theorem dX9_onCycle_20 : decode cX9_onCycle 20 = .ok (.lconst 0, 1) := by decide +kernel
theorem dX9_onCycle_21 : decode cX9_onCycle 21 = .ok (.aload_n 0, 1) := by decide +kernel
theorem dX9_onCycle_22 : decode cX9_onCycle 22 = .ok (.getfield 288, 3) := by decide +kernel
theorem dX9_onCycle_25 : decode cX9_onCycle 25 = .ok (.iconst 1, 1) := by decide +kernel
theorem dX9_onCycle_26 : decode cX9_onCycle 26 = .ok (.isub, 1) := by decide +kernel
theorem dX9_onCycle_27 : decode cX9_onCycle 27 = .ok (.i2l, 1) := by decide +kernel
theorem dX9_onCycle_28 : decode cX9_onCycle 28 = .ok (.invokestatic 100, 3) := by decide +kernel
theorem dX9_onCycle_31 : decode cX9_onCycle 31 = .ok (.ifCond .ne 6, 3) := by decide +kernel
theorem dX9_onCycle_34 : decode cX9_onCycle 34 = .ok (.bipush (-2), 2) := by decide +kernel
theorem dX9_onCycle_36 : decode cX9_onCycle 36 = .ok (.ireturn, 1) := by decide +kernel
theorem dX9_onCycle_37 : decode cX9_onCycle 37 = .ok (.aload_n 0, 1) := by decide +kernel
theorem dX9_onCycle_38 : decode cX9_onCycle 38 = .ok (.getfield 68, 3) := by decide +kernel
theorem dX9_onCycle_41 : decode cX9_onCycle 41 = .ok (.aload_n 0, 1) := by decide +kernel
theorem dX9_onCycle_42 : decode cX9_onCycle 42 = .ok (.getfield 80, 3) := by decide +kernel
theorem dX9_onCycle_45 : decode cX9_onCycle 45 = .ok (.iload_n 2, 1) := by decide +kernel
theorem dX9_onCycle_46 : decode cX9_onCycle 46 = .ok (.iaload, 1) := by decide +kernel
theorem dX9_onCycle_47 : decode cX9_onCycle 47 = .ok (.iaload, 1) := by decide +kernel
theorem dX9_onCycle_48 : decode cX9_onCycle 48 = .ok (.istore 4, 2) := by decide +kernel
theorem dX9_onCycle_50 : decode cX9_onCycle 50 = .ok (.iload_n 3, 1) := by decide +kernel
theorem dX9_onCycle_51 : decode cX9_onCycle 51 = .ok (.aload_n 0, 1) := by decide +kernel
theorem dX9_onCycle_52 : decode cX9_onCycle 52 = .ok (.getfield 71, 3) := by decide +kernel
theorem dX9_onCycle_55 : decode cX9_onCycle 55 = .ok (.aload_n 0, 1) := by decide +kernel
theorem dX9_onCycle_56 : decode cX9_onCycle 56 = .ok (.getfield 80, 3) := by decide +kernel
theorem dX9_onCycle_59 : decode cX9_onCycle 59 = .ok (.iload_n 2, 1) := by decide +kernel
theorem dX9_onCycle_60 : decode cX9_onCycle 60 = .ok (.iaload, 1) := by decide +kernel
theorem dX9_onCycle_61 : decode cX9_onCycle 61 = .ok (.iaload, 1) := by decide +kernel
theorem dX9_onCycle_62 : decode cX9_onCycle 62 = .ok (.irem, 1) := by decide +kernel
theorem dX9_onCycle_63 : decode cX9_onCycle 63 = .ok (.istore 5, 2) := by decide +kernel
theorem dX9_onCycle_65 : decode cX9_onCycle 65 = .ok (.iload 5, 2) := by decide +kernel
theorem dX9_onCycle_67 : decode cX9_onCycle 67 = .ok (.ifCond .le 18, 3) := by decide +kernel
theorem dX9_onCycle_70 : decode cX9_onCycle 70 = .ok (.aload_n 0, 1) := by decide +kernel
theorem dX9_onCycle_71 : decode cX9_onCycle 71 = .ok (.getfield 56, 3) := by decide +kernel
theorem dX9_onCycle_74 : decode cX9_onCycle 74 = .ok (.iload 4, 2) := by decide +kernel
theorem dX9_onCycle_76 : decode cX9_onCycle 76 = .ok (.iaload, 1) := by decide +kernel
theorem dX9_onCycle_77 : decode cX9_onCycle 77 = .ok (.istore 4, 2) := by decide +kernel
theorem dX9_onCycle_79 : decode cX9_onCycle 79 = .ok (.iinc 5 (-1), 3) := by decide +kernel
theorem dX9_onCycle_82 : decode cX9_onCycle 82 = .ok (.goto (-17), 3) := by decide +kernel
theorem dX9_onCycle_85 : decode cX9_onCycle 85 = .ok (.iload 4, 2) := by decide +kernel
theorem dX9_onCycle_87 : decode cX9_onCycle 87 = .ok (.ireturn, 1) := by decide +kernel
set_option maxRecDepth 20000 in
theorem ggX9_reaches_X9_codeOfPast : GoodIn wsX9_reaches wsX9_codeOfPast := goodIn_r _ [11, 12, 2, 13, 14, 15, 10, 16, 57, 58, 59, 60, 61, 62, 63, 64, 65, 66, 67, 68, 69, 70, 71, 72, 73, 74, 75, 76, 77, 78, 79, 80, 81, 82, 83, 84, 85, 86, 87, 88, 89, 90, 91, 92, 93, 94, 95, 96, 97, 98, 99, 100, 101, 102, 103, 104, 105] (by decide +kernel) (by decide +kernel)
set_option maxRecDepth 20000 in
theorem gX9_reaches_X9_codeOfPast : GoodIn wsX9_reaches (wsV RX9 273 RX9 yX9_codeOfPast wsX9_codeOfPast) := goodIn_app (goodIn_of _ (by decide +kernel)) ggX9_reaches_X9_codeOfPast
set_option maxRecDepth 20000 in
theorem ggX9_reaches_X9_behind : GoodIn wsX9_reaches wsX9_behind := goodIn_r _ [20, 21, 22, 23, 10, 24, 2, 12, 13, 14, 15, 16, 25, 26, 27, 28, 29, 30, 31, 6, 32, 33, 34, 35, 36, 37, 38, 39, 40, 41, 42, 43, 44, 45, 46, 47, 48, 49, 50, 51, 52, 53, 54, 55, 56, 7, 8, 9, 11, 57, 58, 59, 60, 61, 62, 63, 64, 65, 66, 67, 68, 69, 70, 71, 72, 73, 74, 75, 76, 77, 78, 79, 80, 81, 82, 83, 84, 85, 86, 87, 88, 89, 90, 91, 92, 93, 94, 95, 96, 97, 98, 99, 100, 101, 102, 103, 104, 105] (by decide +kernel) (by decide +kernel)
set_option maxRecDepth 20000 in
theorem gX9_reaches_X9_behind : GoodIn wsX9_reaches (wsV RX9 285 RX9 yX9_behind wsX9_behind) := goodIn_app (goodIn_of _ (by decide +kernel)) ggX9_reaches_X9_behind
theorem dX9_reaches_0 : decode cX9_reaches 0 = .ok (.iconst 0, 1) := by decide +kernel
theorem dX9_reaches_1 : decode cX9_reaches 1 = .ok (.istore_n 2, 1) := by decide +kernel
theorem dX9_reaches_2 : decode cX9_reaches 2 = .ok (.iload_n 2, 1) := by decide +kernel
theorem dX9_reaches_3 : decode cX9_reaches 3 = .ok (.sipush 1024, 3) := by decide +kernel
theorem dX9_reaches_6 : decode cX9_reaches 6 = .ok (.if_icmp .ge 16, 3) := by decide +kernel
theorem dX9_reaches_9 : decode cX9_reaches 9 = .ok (.aload_n 0, 1) := by decide +kernel
theorem dX9_reaches_10 : decode cX9_reaches 10 = .ok (.getfield 83, 3) := by decide +kernel
theorem dX9_reaches_13 : decode cX9_reaches 13 = .ok (.iload_n 2, 1) := by decide +kernel
theorem dX9_reaches_14 : decode cX9_reaches 14 = .ok (.iconst 0, 1) := by decide +kernel
theorem dX9_reaches_15 : decode cX9_reaches 15 = .ok (.bastore, 1) := by decide +kernel
theorem dX9_reaches_16 : decode cX9_reaches 16 = .ok (.iinc 2 1, 3) := by decide +kernel
theorem dX9_reaches_19 : decode cX9_reaches 19 = .ok (.goto (-17), 3) := by decide +kernel
theorem dX9_reaches_22 : decode cX9_reaches 22 = .ok (.aload_n 0, 1) := by decide +kernel
theorem dX9_reaches_23 : decode cX9_reaches 23 = .ok (.getfield 23, 3) := by decide +kernel
theorem dX9_reaches_26 : decode cX9_reaches 26 = .ok (.iconst 0, 1) := by decide +kernel
theorem dX9_reaches_27 : decode cX9_reaches 27 = .ok (.iconst 0, 1) := by decide +kernel
theorem dX9_reaches_28 : decode cX9_reaches 28 = .ok (.iastore, 1) := by decide +kernel
theorem dX9_reaches_29 : decode cX9_reaches 29 = .ok (.aload_n 0, 1) := by decide +kernel
theorem dX9_reaches_30 : decode cX9_reaches 30 = .ok (.getfield 23, 3) := by decide +kernel
theorem dX9_reaches_33 : decode cX9_reaches 33 = .ok (.iconst 1, 1) := by decide +kernel
theorem dX9_reaches_34 : decode cX9_reaches 34 = .ok (.iconst 0, 1) := by decide +kernel
theorem dX9_reaches_35 : decode cX9_reaches 35 = .ok (.iastore, 1) := by decide +kernel
theorem dX9_reaches_36 : decode cX9_reaches 36 = .ok (.aload_n 0, 1) := by decide +kernel
theorem dX9_reaches_37 : decode cX9_reaches 37 = .ok (.getfield 23, 3) := by decide +kernel
theorem dX9_reaches_40 : decode cX9_reaches 40 = .ok (.iconst 2, 1) := by decide +kernel
theorem dX9_reaches_41 : decode cX9_reaches 41 = .ok (.iconst 0, 1) := by decide +kernel
theorem dX9_reaches_42 : decode cX9_reaches 42 = .ok (.iastore, 1) := by decide +kernel
theorem dX9_reaches_43 : decode cX9_reaches 43 = .ok (.aload_n 0, 1) := by decide +kernel
theorem dX9_reaches_44 : decode cX9_reaches 44 = .ok (.getfield 65, 3) := by decide +kernel
theorem dX9_reaches_47 : decode cX9_reaches 47 = .ok (.iconst 0, 1) := by decide +kernel
theorem dX9_reaches_48 : decode cX9_reaches 48 = .ok (.aload_n 0, 1) := by decide +kernel
theorem dX9_reaches_49 : decode cX9_reaches 49 = .ok (.invokevirtual 273, 3) := by decide +kernel
theorem dX9_reaches_52 : decode cX9_reaches 52 = .ok (.iastore, 1) := by decide +kernel
theorem dX9_reaches_53 : decode cX9_reaches 53 = .ok (.aload_n 0, 1) := by decide +kernel
theorem dX9_reaches_54 : decode cX9_reaches 54 = .ok (.getfield 83, 3) := by decide +kernel
theorem dX9_reaches_57 : decode cX9_reaches 57 = .ok (.aload_n 0, 1) := by decide +kernel
theorem dX9_reaches_58 : decode cX9_reaches 58 = .ok (.getfield 65, 3) := by decide +kernel
theorem dX9_reaches_61 : decode cX9_reaches 61 = .ok (.iconst 0, 1) := by decide +kernel
theorem dX9_reaches_62 : decode cX9_reaches 62 = .ok (.iaload, 1) := by decide +kernel
theorem dX9_reaches_63 : decode cX9_reaches 63 = .ok (.iconst 1, 1) := by decide +kernel
theorem dX9_reaches_64 : decode cX9_reaches 64 = .ok (.bastore, 1) := by decide +kernel
theorem dX9_reaches_65 : decode cX9_reaches 65 = .ok (.aload_n 0, 1) := by decide +kernel
theorem dX9_reaches_66 : decode cX9_reaches 66 = .ok (.iconst 1, 1) := by decide +kernel
theorem dX9_reaches_67 : decode cX9_reaches 67 = .ok (.putfield 322, 3) := by decide +kernel
theorem dX9_reaches_70 : decode cX9_reaches 70 = .ok (.aload_n 0, 1) := by decide +kernel
theorem dX9_reaches_71 : decode cX9_reaches 71 = .ok (.iconst 0, 1) := by decide +kernel
theorem dX9_reaches_72 : decode cX9_reaches 72 = .ok (.putfield 325, 3) := by decide +kernel
theorem dX9_reaches_75 : decode cX9_reaches 75 = .ok (.iconst 0, 1) := by decide +kernel
theorem dX9_reaches_76 : decode cX9_reaches 76 = .ok (.istore_n 2, 1) := by decide +kernel
theorem dX9_reaches_77 : decode cX9_reaches 77 = .ok (.iload_n 2, 1) := by decide +kernel
theorem dX9_reaches_78 : decode cX9_reaches 78 = .ok (.aload_n 0, 1) := by decide +kernel
theorem dX9_reaches_79 : decode cX9_reaches 79 = .ok (.getfield 322, 3) := by decide +kernel
theorem dX9_reaches_82 : decode cX9_reaches 82 = .ok (.if_icmp .ge 93, 3) := by decide +kernel
theorem dX9_reaches_85 : decode cX9_reaches 85 = .ok (.iload_n 1, 1) := by decide +kernel
theorem dX9_reaches_86 : decode cX9_reaches 86 = .ok (.ineg, 1) := by decide +kernel
theorem dX9_reaches_87 : decode cX9_reaches 87 = .ok (.istore_n 3, 1) := by decide +kernel
theorem dX9_reaches_88 : decode cX9_reaches 88 = .ok (.iload_n 3, 1) := by decide +kernel
theorem dX9_reaches_89 : decode cX9_reaches 89 = .ok (.iload_n 1, 1) := by decide +kernel
theorem dX9_reaches_90 : decode cX9_reaches 90 = .ok (.if_icmp .gt 79, 3) := by decide +kernel
theorem dX9_reaches_93 : decode cX9_reaches 93 = .ok (.aload_n 0, 1) := by decide +kernel
theorem dX9_reaches_94 : decode cX9_reaches 94 = .ok (.aload_n 0, 1) := by decide +kernel
theorem dX9_reaches_95 : decode cX9_reaches 95 = .ok (.getfield 65, 3) := by decide +kernel
theorem dX9_reaches_98 : decode cX9_reaches 98 = .ok (.iload_n 2, 1) := by decide +kernel
theorem dX9_reaches_99 : decode cX9_reaches 99 = .ok (.iaload, 1) := by decide +kernel
theorem dX9_reaches_100 : decode cX9_reaches 100 = .ok (.iload_n 3, 1) := by decide +kernel
theorem dX9_reaches_101 : decode cX9_reaches 101 = .ok (.invokevirtual 285, 3) := by decide +kernel
theorem dX9_reaches_104 : decode cX9_reaches 104 = .ok (.istore 4, 2) := by decide +kernel
theorem dX9_reaches_106 : decode cX9_reaches 106 = .ok (.aload_n 0, 1) := by decide +kernel
theorem dX9_reaches_107 : decode cX9_reaches 107 = .ok (.dup, 1) := by decide +kernel
theorem dX9_reaches_108 : decode cX9_reaches 108 = .ok (.getfield 325, 3) := by decide +kernel
theorem dX9_reaches_111 : decode cX9_reaches 111 = .ok (.aload_n 0, 1) := by decide +kernel
theorem dX9_reaches_112 : decode cX9_reaches 112 = .ok (.getfield 182, 3) := by decide +kernel
theorem dX9_reaches_115 : decode cX9_reaches 115 = .ok (.ior, 1) := by decide +kernel
theorem dX9_reaches_116 : decode cX9_reaches 116 = .ok (.putfield 325, 3) := by decide +kernel
theorem dX9_reaches_119 : decode cX9_reaches 119 = .ok (.iload 4, 2) := by decide +kernel
theorem dX9_reaches_121 : decode cX9_reaches 121 = .ok (.ifCond .lt 42, 3) := by decide +kernel
theorem dX9_reaches_124 : decode cX9_reaches 124 = .ok (.aload_n 0, 1) := by decide +kernel
theorem dX9_reaches_125 : decode cX9_reaches 125 = .ok (.getfield 83, 3) := by decide +kernel
theorem dX9_reaches_128 : decode cX9_reaches 128 = .ok (.iload 4, 2) := by decide +kernel
theorem dX9_reaches_130 : decode cX9_reaches 130 = .ok (.baload, 1) := by decide +kernel
theorem dX9_reaches_131 : decode cX9_reaches 131 = .ok (.ifCond .ne 32, 3) := by decide +kernel
theorem dX9_reaches_134 : decode cX9_reaches 134 = .ok (.aload_n 0, 1) := by decide +kernel
theorem dX9_reaches_135 : decode cX9_reaches 135 = .ok (.getfield 83, 3) := by decide +kernel
theorem dX9_reaches_138 : decode cX9_reaches 138 = .ok (.iload 4, 2) := by decide +kernel
theorem dX9_reaches_140 : decode cX9_reaches 140 = .ok (.iconst 1, 1) := by decide +kernel
theorem dX9_reaches_141 : decode cX9_reaches 141 = .ok (.bastore, 1) := by decide +kernel
theorem dX9_reaches_142 : decode cX9_reaches 142 = .ok (.aload_n 0, 1) := by decide +kernel
theorem dX9_reaches_143 : decode cX9_reaches 143 = .ok (.getfield 65, 3) := by decide +kernel
theorem dX9_reaches_146 : decode cX9_reaches 146 = .ok (.aload_n 0, 1) := by decide +kernel
theorem dX9_reaches_147 : decode cX9_reaches 147 = .ok (.getfield 322, 3) := by decide +kernel
theorem dX9_reaches_150 : decode cX9_reaches 150 = .ok (.iload 4, 2) := by decide +kernel
theorem dX9_reaches_152 : decode cX9_reaches 152 = .ok (.iastore, 1) := by decide +kernel
theorem dX9_reaches_153 : decode cX9_reaches 153 = .ok (.aload_n 0, 1) := by decide +kernel
theorem dX9_reaches_154 : decode cX9_reaches 154 = .ok (.dup, 1) := by decide +kernel
theorem dX9_reaches_155 : decode cX9_reaches 155 = .ok (.getfield 322, 3) := by decide +kernel
theorem dX9_reaches_158 : decode cX9_reaches 158 = .ok (.iconst 1, 1) := by decide +kernel
theorem dX9_reaches_159 : decode cX9_reaches 159 = .ok (.iadd, 1) := by decide +kernel
theorem dX9_reaches_160 : decode cX9_reaches 160 = .ok (.putfield 322, 3) := by decide +kernel
theorem dX9_reaches_163 : decode cX9_reaches 163 = .ok (.iinc 3 1, 3) := by decide +kernel
theorem dX9_reaches_166 : decode cX9_reaches 166 = .ok (.goto (-78), 3) := by decide +kernel
theorem dX9_reaches_169 : decode cX9_reaches 169 = .ok (.iinc 2 1, 3) := by decide +kernel
theorem dX9_reaches_172 : decode cX9_reaches 172 = .ok (.goto (-95), 3) := by decide +kernel
theorem dX9_reaches_175 : decode cX9_reaches 175 = .ok (.return_, 1) := by decide +kernel
set_option maxRecDepth 20000 in
theorem ggX9_reach_X9_in : GoodIn wsX9_reach wsX9_in := goodIn_r _ [7] (by decide +kernel) (by decide +kernel)
set_option maxRecDepth 20000 in
theorem gX9_reach_X9_in : GoodIn wsX9_reach (va_wsS RX9 100 yX9_in wsX9_in) := goodIn_app (goodIn_of _ (by decide +kernel)) ggX9_reach_X9_in
set_option maxRecDepth 20000 in
theorem ggX9_reach_X9_reaches : GoodIn wsX9_reach wsX9_reaches := goodIn_r _ [11, 12, 13, 14, 2, 3, 15, 16, 17, 18, 6, 19, 20, 21, 22, 23, 24, 25, 26, 27, 28, 29, 30, 31, 32, 33, 34, 35, 36, 37, 38, 39, 40, 41, 42, 43, 44, 45, 46, 47, 48, 49, 50, 51, 52, 53, 54, 4, 5, 7, 55, 56, 57, 58, 59, 60, 61, 62, 63, 64, 65, 66, 67, 68, 69, 70, 71, 72, 73, 74, 75, 76, 77, 78, 79, 80, 81, 82, 83, 84, 85, 86, 87, 88, 89, 90, 91, 92, 93, 94, 95, 96, 97, 98, 99, 100, 101, 102, 103, 104, 105, 106, 107, 108, 109, 110] (by decide +kernel) (by decide +kernel)
set_option maxRecDepth 20000 in
theorem gX9_reach_X9_reaches : GoodIn wsX9_reach (wsV RX9 330 RX9 yX9_reaches wsX9_reaches) := goodIn_app (goodIn_of _ (by decide +kernel)) ggX9_reach_X9_reaches
theorem dX9_reach_0 : decode cX9_reach 0 = .ok (.iload_n 1, 1) := by decide +kernel
theorem dX9_reach_1 : decode cX9_reach 1 = .ok (.i2l, 1) := by decide +kernel
theorem dX9_reach_2 : decode cX9_reach 2 = .ok (.lconst 0, 1) := by decide +kernel
theorem dX9_reach_3 : decode cX9_reach 3 = .ok (.ldc2_w 328, 3) := by decide +kernel
theorem dX9_reach_6 : decode cX9_reach 6 = .ok (.invokestatic 100, 3) := by decide +kernel
theorem dX9_reach_9 : decode cX9_reach 9 = .ok (.ifCond .eq 13, 3) := by decide +kernel
theorem dX9_reach_12 : decode cX9_reach 12 = .ok (.iload_n 2, 1) := by decide +kernel
theorem dX9_reach_13 : decode cX9_reach 13 = .ok (.i2l, 1) := by decide +kernel
theorem dX9_reach_14 : decode cX9_reach 14 = .ok (.lconst 0, 1) := by decide +kernel
theorem dX9_reach_15 : decode cX9_reach 15 = .ok (.lconst 1, 1) := by decide +kernel
theorem dX9_reach_16 : decode cX9_reach 16 = .ok (.invokestatic 100, 3) := by decide +kernel
theorem dX9_reach_19 : decode cX9_reach 19 = .ok (.ifCond .ne 5, 3) := by decide +kernel
theorem dX9_reach_22 : decode cX9_reach 22 = .ok (.iconst (-1), 1) := by decide +kernel
theorem dX9_reach_23 : decode cX9_reach 23 = .ok (.ireturn, 1) := by decide +kernel
theorem dX9_reach_24 : decode cX9_reach 24 = .ok (.aload_n 0, 1) := by decide +kernel
theorem dX9_reach_25 : decode cX9_reach 25 = .ok (.iload_n 1, 1) := by decide +kernel
theorem dX9_reach_26 : decode cX9_reach 26 = .ok (.invokevirtual 330, 3) := by decide +kernel
theorem dX9_reach_29 : decode cX9_reach 29 = .ok (.iload_n 2, 1) := by decide +kernel
theorem dX9_reach_30 : decode cX9_reach 30 = .ok (.ifCond .ne 10, 3) := by decide +kernel
theorem dX9_reach_33 : decode cX9_reach 33 = .ok (.aload_n 0, 1) := by decide +kernel
theorem dX9_reach_34 : decode cX9_reach 34 = .ok (.getfield 322, 3) := by decide +kernel
theorem dX9_reach_37 : decode cX9_reach 37 = .ok (.goto 15, 3) := by decide +kernel
theorem dX9_reach_40 : decode cX9_reach 40 = .ok (.aload_n 0, 1) := by decide +kernel
theorem dX9_reach_41 : decode cX9_reach 41 = .ok (.getfield 325, 3) := by decide +kernel
theorem dX9_reach_44 : decode cX9_reach 44 = .ok (.ifCond .eq 7, 3) := by decide +kernel
theorem dX9_reach_47 : decode cX9_reach 47 = .ok (.iconst 1, 1) := by decide +kernel
theorem dX9_reach_48 : decode cX9_reach 48 = .ok (.goto 4, 3) := by decide +kernel
theorem dX9_reach_51 : decode cX9_reach 51 = .ok (.iconst 0, 1) := by decide +kernel
theorem dX9_reach_52 : decode cX9_reach 52 = .ok (.ireturn, 1) := by decide +kernel
set_option maxRecDepth 20000 in
theorem ggX9_scale_X9_in : GoodIn wsX9_scale wsX9_in := goodIn_r _ [6] (by decide +kernel) (by decide +kernel)
set_option maxRecDepth 20000 in
theorem gX9_scale_X9_in : GoodIn wsX9_scale (va_wsS RX9 100 yX9_in wsX9_in) := goodIn_app (goodIn_of _ (by decide +kernel)) ggX9_scale_X9_in
set_option maxRecDepth 20000 in
theorem ggX9_scale_X9_reaches : GoodIn wsX9_scale wsX9_reaches := goodIn_r _ [10, 11, 12, 13, 14, 2, 15, 16, 17, 18, 5, 19, 20, 21, 22, 23, 24, 25, 26, 27, 28, 29, 30, 31, 32, 33, 34, 35, 36, 37, 38, 39, 40, 41, 42, 43, 44, 45, 46, 47, 48, 49, 50, 51, 52, 53, 54, 3, 4, 6, 55, 56, 57, 58, 59, 60, 61, 62, 63, 64, 65, 66, 67, 68, 69, 70, 71, 72, 73, 74, 75, 76, 77, 78, 79, 80, 81, 82, 83, 84, 85, 86, 87, 88, 89, 90, 91, 92, 93, 94, 95, 96, 97, 98, 99, 100, 101, 102, 103, 104, 105, 106, 107, 108, 109, 110] (by decide +kernel) (by decide +kernel)
set_option maxRecDepth 20000 in
theorem gX9_scale_X9_reaches : GoodIn wsX9_scale (wsV RX9 330 RX9 yX9_reaches wsX9_reaches) := goodIn_app (goodIn_of _ (by decide +kernel)) ggX9_scale_X9_reaches
theorem dX9_scale_0 : decode cX9_scale 0 = .ok (.iload_n 1, 1) := by decide +kernel
theorem dX9_scale_1 : decode cX9_scale 1 = .ok (.i2l, 1) := by decide +kernel
theorem dX9_scale_2 : decode cX9_scale 2 = .ok (.lconst 0, 1) := by decide +kernel
theorem dX9_scale_3 : decode cX9_scale 3 = .ok (.ldc2_w 328, 3) := by decide +kernel
theorem dX9_scale_6 : decode cX9_scale 6 = .ok (.invokestatic 100, 3) := by decide +kernel
theorem dX9_scale_9 : decode cX9_scale 9 = .ok (.ifCond .ne 5, 3) := by decide +kernel
theorem dX9_scale_12 : decode cX9_scale 12 = .ok (.iconst (-1), 1) := by decide +kernel
theorem dX9_scale_13 : decode cX9_scale 13 = .ok (.ireturn, 1) := by decide +kernel
theorem dX9_scale_14 : decode cX9_scale 14 = .ok (.iconst 0, 1) := by decide +kernel
theorem dX9_scale_15 : decode cX9_scale 15 = .ok (.istore_n 2, 1) := by decide +kernel
theorem dX9_scale_16 : decode cX9_scale 16 = .ok (.iload_n 2, 1) := by decide +kernel
theorem dX9_scale_17 : decode cX9_scale 17 = .ok (.bipush 6, 2) := by decide +kernel
theorem dX9_scale_19 : decode cX9_scale 19 = .ok (.if_icmp .gt 25, 3) := by decide +kernel
theorem dX9_scale_22 : decode cX9_scale 22 = .ok (.aload_n 0, 1) := by decide +kernel
theorem dX9_scale_23 : decode cX9_scale 23 = .ok (.iload_n 1, 1) := by decide +kernel
theorem dX9_scale_24 : decode cX9_scale 24 = .ok (.iload_n 2, 1) := by decide +kernel
theorem dX9_scale_25 : decode cX9_scale 25 = .ok (.ishr, 1) := by decide +kernel
theorem dX9_scale_26 : decode cX9_scale 26 = .ok (.invokevirtual 330, 3) := by decide +kernel
theorem dX9_scale_29 : decode cX9_scale 29 = .ok (.aload_n 0, 1) := by decide +kernel
theorem dX9_scale_30 : decode cX9_scale 30 = .ok (.getfield 325, 3) := by decide +kernel
theorem dX9_scale_33 : decode cX9_scale 33 = .ok (.ifCond .ne 5, 3) := by decide +kernel
theorem dX9_scale_36 : decode cX9_scale 36 = .ok (.iload_n 2, 1) := by decide +kernel
theorem dX9_scale_37 : decode cX9_scale 37 = .ok (.ireturn, 1) := by decide +kernel
theorem dX9_scale_38 : decode cX9_scale 38 = .ok (.iinc 2 1, 3) := by decide +kernel
theorem dX9_scale_41 : decode cX9_scale 41 = .ok (.goto (-25), 3) := by decide +kernel
theorem dX9_scale_44 : decode cX9_scale 44 = .ok (.bipush (-2), 2) := by decide +kernel
theorem dX9_scale_46 : decode cX9_scale 46 = .ok (.ireturn, 1) := by decide +kernel
set_option maxRecDepth 20000 in
theorem ggX9_quietest_X9_isInput : GoodIn wsX9_quietest wsX9_isInput := goodIn_r _ [6, 7, 8, 9, 10, 5, 11] (by decide +kernel) (by decide +kernel)
set_option maxRecDepth 20000 in
theorem gX9_quietest_X9_isInput : GoodIn wsX9_quietest (va_wsS RX9 189 yX9_isInput wsX9_isInput) := goodIn_app (goodIn_of _ (by decide +kernel)) ggX9_quietest_X9_isInput
set_option maxRecDepth 20000 in
theorem ggX9_quietest_X9_in : GoodIn wsX9_quietest wsX9_in := goodIn_r _ [11] (by decide +kernel) (by decide +kernel)
set_option maxRecDepth 20000 in
theorem gX9_quietest_X9_in : GoodIn wsX9_quietest (va_wsS RX9 100 yX9_in wsX9_in) := goodIn_app (goodIn_of _ (by decide +kernel)) ggX9_quietest_X9_in
set_option maxRecDepth 20000 in
theorem ggX9_quietest_X9_findsAll : GoodIn wsX9_quietest wsX9_findsAll := goodIn_r _ [15, 16, 17, 18, 19, 2, 20, 21, 22, 23, 24, 25, 26, 27, 28, 29, 30, 31, 32, 33, 5, 34, 1, 35, 36, 37, 38, 39, 40, 41, 42, 43, 44, 45, 46, 47, 48, 49, 50, 51, 52, 53, 54, 55, 56, 57, 58, 59, 60, 61, 62, 63, 64, 65, 66, 67, 68, 69, 70, 9, 10, 11, 71, 72, 73, 74, 75, 76, 77, 78, 79, 80, 81, 82, 83, 84, 85, 86, 87, 88, 89, 90, 91, 92, 93, 94, 95, 96, 97, 98, 99, 100, 101, 102, 103, 104, 105, 106, 107, 108, 109, 110, 111, 112, 113, 114, 115, 116, 117, 118, 119, 120, 121, 122, 123, 124, 125, 126, 127, 128, 129, 130, 131, 132, 133, 134, 135, 136, 137, 138, 139, 140, 141, 142, 143, 144, 145, 146, 147, 148, 149, 150] (by decide +kernel) (by decide +kernel)
set_option maxRecDepth 20000 in
theorem gX9_quietest_X9_findsAll : GoodIn wsX9_quietest (wsV RX9 316 RX9 yX9_findsAll wsX9_findsAll) := goodIn_app (goodIn_of _ (by decide +kernel)) ggX9_quietest_X9_findsAll
theorem dX9_quietest_0 : decode cX9_quietest 0 = .ok (.iload_n 1, 1) := by decide +kernel
theorem dX9_quietest_1 : decode cX9_quietest 1 = .ok (.invokestatic 189, 3) := by decide +kernel
theorem dX9_quietest_4 : decode cX9_quietest 4 = .ok (.ifCond .eq 13, 3) := by decide +kernel
theorem dX9_quietest_7 : decode cX9_quietest 7 = .ok (.iload_n 2, 1) := by decide +kernel
theorem dX9_quietest_8 : decode cX9_quietest 8 = .ok (.i2l, 1) := by decide +kernel
theorem dX9_quietest_9 : decode cX9_quietest 9 = .ok (.lconst 0, 1) := by decide +kernel
theorem dX9_quietest_10 : decode cX9_quietest 10 = .ok (.lconst 1, 1) := by decide +kernel
theorem dX9_quietest_11 : decode cX9_quietest 11 = .ok (.invokestatic 100, 3) := by decide +kernel
theorem dX9_quietest_14 : decode cX9_quietest 14 = .ok (.ifCond .ne 5, 3) := by decide +kernel
theorem dX9_quietest_17 : decode cX9_quietest 17 = .ok (.iconst (-1), 1) := by decide +kernel
theorem dX9_quietest_18 : decode cX9_quietest 18 = .ok (.ireturn, 1) := by decide +kernel
theorem dX9_quietest_19 : decode cX9_quietest 19 = .ok (.aload_n 0, 1) := by decide +kernel
theorem dX9_quietest_20 : decode cX9_quietest 20 = .ok (.getfield 11, 3) := by decide +kernel
theorem dX9_quietest_23 : decode cX9_quietest 23 = .ok (.bipush 7, 2) := by decide +kernel
theorem dX9_quietest_25 : decode cX9_quietest 25 = .ok (.iaload, 1) := by decide +kernel
theorem dX9_quietest_26 : decode cX9_quietest 26 = .ok (.istore_n 3, 1) := by decide +kernel
theorem dX9_quietest_27 : decode cX9_quietest 27 = .ok (.iconst (-1), 1) := by decide +kernel
theorem dX9_quietest_28 : decode cX9_quietest 28 = .ok (.istore 4, 2) := by decide +kernel
theorem dX9_quietest_30 : decode cX9_quietest 30 = .ok (.iconst 0, 1) := by decide +kernel
theorem dX9_quietest_31 : decode cX9_quietest 31 = .ok (.istore 5, 2) := by decide +kernel
theorem dX9_quietest_33 : decode cX9_quietest 33 = .ok (.iconst 0, 1) := by decide +kernel
theorem dX9_quietest_34 : decode cX9_quietest 34 = .ok (.istore 6, 2) := by decide +kernel
theorem dX9_quietest_36 : decode cX9_quietest 36 = .ok (.iload 6, 2) := by decide +kernel
theorem dX9_quietest_38 : decode cX9_quietest 38 = .ok (.iconst 5, 1) := by decide +kernel
theorem dX9_quietest_39 : decode cX9_quietest 39 = .ok (.if_icmp .ge 47, 3) := by decide +kernel
theorem dX9_quietest_42 : decode cX9_quietest 42 = .ok (.aload_n 0, 1) := by decide +kernel
theorem dX9_quietest_43 : decode cX9_quietest 43 = .ok (.getfield 11, 3) := by decide +kernel
theorem dX9_quietest_46 : decode cX9_quietest 46 = .ok (.bipush 7, 2) := by decide +kernel
theorem dX9_quietest_48 : decode cX9_quietest 48 = .ok (.iload 6, 2) := by decide +kernel
theorem dX9_quietest_50 : decode cX9_quietest 50 = .ok (.iastore, 1) := by decide +kernel
theorem dX9_quietest_51 : decode cX9_quietest 51 = .ok (.aload_n 0, 1) := by decide +kernel
theorem dX9_quietest_52 : decode cX9_quietest 52 = .ok (.iload_n 1, 1) := by decide +kernel
theorem dX9_quietest_53 : decode cX9_quietest 53 = .ok (.invokevirtual 316, 3) := by decide +kernel
theorem dX9_quietest_56 : decode cX9_quietest 56 = .ok (.iload 4, 2) := by decide +kernel
theorem dX9_quietest_58 : decode cX9_quietest 58 = .ok (.ifCond .lt 12, 3) := by decide +kernel
theorem dX9_quietest_61 : decode cX9_quietest 61 = .ok (.aload_n 0, 1) := by decide +kernel
theorem dX9_quietest_62 : decode cX9_quietest 62 = .ok (.getfield 310, 3) := by decide +kernel
theorem dX9_quietest_65 : decode cX9_quietest 65 = .ok (.iload 5, 2) := by decide +kernel
theorem dX9_quietest_67 : decode cX9_quietest 67 = .ok (.if_icmp .ge 13, 3) := by decide +kernel
theorem dX9_quietest_70 : decode cX9_quietest 70 = .ok (.iload 6, 2) := by decide +kernel
theorem dX9_quietest_72 : decode cX9_quietest 72 = .ok (.istore 4, 2) := by decide +kernel
theorem dX9_quietest_74 : decode cX9_quietest 74 = .ok (.aload_n 0, 1) := by decide +kernel
theorem dX9_quietest_75 : decode cX9_quietest 75 = .ok (.getfield 310, 3) := by decide +kernel
theorem dX9_quietest_78 : decode cX9_quietest 78 = .ok (.istore 5, 2) := by decide +kernel
theorem dX9_quietest_80 : decode cX9_quietest 80 = .ok (.iinc 6 1, 3) := by decide +kernel
theorem dX9_quietest_83 : decode cX9_quietest 83 = .ok (.goto (-47), 3) := by decide +kernel
theorem dX9_quietest_86 : decode cX9_quietest 86 = .ok (.aload_n 0, 1) := by decide +kernel
theorem dX9_quietest_87 : decode cX9_quietest 87 = .ok (.getfield 11, 3) := by decide +kernel
theorem dX9_quietest_90 : decode cX9_quietest 90 = .ok (.bipush 7, 2) := by decide +kernel
theorem dX9_quietest_92 : decode cX9_quietest 92 = .ok (.iload_n 3, 1) := by decide +kernel
theorem dX9_quietest_93 : decode cX9_quietest 93 = .ok (.iastore, 1) := by decide +kernel
theorem dX9_quietest_94 : decode cX9_quietest 94 = .ok (.iload_n 2, 1) := by decide +kernel
theorem dX9_quietest_95 : decode cX9_quietest 95 = .ok (.ifCond .ne 8, 3) := by decide +kernel
theorem dX9_quietest_98 : decode cX9_quietest 98 = .ok (.iload 4, 2) := by decide +kernel
theorem dX9_quietest_100 : decode cX9_quietest 100 = .ok (.goto 5, 3) := by decide +kernel
theorem dX9_quietest_103 : decode cX9_quietest 103 = .ok (.iload 5, 2) := by decide +kernel
theorem dX9_quietest_105 : decode cX9_quietest 105 = .ok (.ireturn, 1) := by decide +kernel
set_option maxRecDepth 20000 in
theorem ggX9_tamed_X9_isInput : GoodIn wsX9_tamed wsX9_isInput := goodIn_r _ [8, 9, 1, 10, 11, 7, 12] (by decide +kernel) (by decide +kernel)
set_option maxRecDepth 20000 in
theorem gX9_tamed_X9_isInput : GoodIn wsX9_tamed (va_wsS RX9 189 yX9_isInput wsX9_isInput) := goodIn_app (goodIn_of _ (by decide +kernel)) ggX9_tamed_X9_isInput
set_option maxRecDepth 20000 in
theorem ggX9_tamed_X9_in : GoodIn wsX9_tamed wsX9_in := goodIn_r _ [12] (by decide +kernel) (by decide +kernel)
set_option maxRecDepth 20000 in
theorem gX9_tamed_X9_in : GoodIn wsX9_tamed (va_wsS RX9 100 yX9_in wsX9_in) := goodIn_app (goodIn_of _ (by decide +kernel)) ggX9_tamed_X9_in
set_option maxRecDepth 20000 in
theorem ggX9_tamed_X9_findsAll : GoodIn wsX9_tamed wsX9_findsAll := goodIn_r _ [16, 17, 3, 18, 19, 4, 20, 21, 22, 23, 24, 25, 26, 27, 28, 29, 30, 31, 32, 33, 7, 34, 2, 35, 36, 37, 38, 39, 40, 41, 42, 43, 44, 45, 46, 47, 48, 49, 50, 51, 52, 53, 54, 55, 56, 57, 58, 59, 60, 61, 62, 63, 64, 65, 66, 67, 68, 69, 70, 10, 11, 12, 71, 72, 73, 74, 75, 76, 77, 78, 79, 80, 81, 82, 83, 84, 85, 86, 87, 88, 89, 90, 91, 92, 93, 94, 95, 96, 97, 98, 99, 100, 101, 102, 103, 104, 105, 106, 107, 108, 109, 110, 111, 112, 113, 114, 115, 116, 117, 118, 119, 120, 121, 122, 123, 124, 125, 126, 127, 128, 129, 130, 131, 132, 133, 134, 135, 136, 137, 138, 139, 140, 141, 142, 143, 144, 145, 146, 147, 148, 149, 150] (by decide +kernel) (by decide +kernel)
set_option maxRecDepth 20000 in
theorem gX9_tamed_X9_findsAll : GoodIn wsX9_tamed (wsV RX9 316 RX9 yX9_findsAll wsX9_findsAll) := goodIn_app (goodIn_of _ (by decide +kernel)) ggX9_tamed_X9_findsAll
theorem dX9_tamed_0 : decode cX9_tamed 0 = .ok (.iload_n 1, 1) := by decide +kernel
theorem dX9_tamed_1 : decode cX9_tamed 1 = .ok (.invokestatic 189, 3) := by decide +kernel
theorem dX9_tamed_4 : decode cX9_tamed 4 = .ok (.ifCond .eq 15, 3) := by decide +kernel
theorem dX9_tamed_7 : decode cX9_tamed 7 = .ok (.iload_n 2, 1) := by decide +kernel
theorem dX9_tamed_8 : decode cX9_tamed 8 = .ok (.i2l, 1) := by decide +kernel
theorem dX9_tamed_9 : decode cX9_tamed 9 = .ok (.lconst 0, 1) := by decide +kernel
theorem dX9_tamed_10 : decode cX9_tamed 10 = .ok (.ldc2_w 98, 3) := by decide +kernel
theorem dX9_tamed_13 : decode cX9_tamed 13 = .ok (.invokestatic 100, 3) := by decide +kernel
theorem dX9_tamed_16 : decode cX9_tamed 16 = .ok (.ifCond .ne 7, 3) := by decide +kernel
theorem dX9_tamed_19 : decode cX9_tamed 19 = .ok (.sipush (-1001), 3) := by decide +kernel
theorem dX9_tamed_22 : decode cX9_tamed 22 = .ok (.ireturn, 1) := by decide +kernel
theorem dX9_tamed_23 : decode cX9_tamed 23 = .ok (.aload_n 0, 1) := by decide +kernel
theorem dX9_tamed_24 : decode cX9_tamed 24 = .ok (.getfield 11, 3) := by decide +kernel
theorem dX9_tamed_27 : decode cX9_tamed 27 = .ok (.iconst 2, 1) := by decide +kernel
theorem dX9_tamed_28 : decode cX9_tamed 28 = .ok (.iaload, 1) := by decide +kernel
theorem dX9_tamed_29 : decode cX9_tamed 29 = .ok (.istore_n 3, 1) := by decide +kernel
theorem dX9_tamed_30 : decode cX9_tamed 30 = .ok (.sipush (-1002), 3) := by decide +kernel
theorem dX9_tamed_33 : decode cX9_tamed 33 = .ok (.istore 4, 2) := by decide +kernel
theorem dX9_tamed_35 : decode cX9_tamed 35 = .ok (.bipush 99, 2) := by decide +kernel
theorem dX9_tamed_37 : decode cX9_tamed 37 = .ok (.istore 5, 2) := by decide +kernel
theorem dX9_tamed_39 : decode cX9_tamed 39 = .ok (.iload 5, 2) := by decide +kernel
theorem dX9_tamed_41 : decode cX9_tamed 41 = .ok (.bipush (-99), 2) := by decide +kernel
theorem dX9_tamed_43 : decode cX9_tamed 43 = .ok (.if_icmp .lt 55, 3) := by decide +kernel
theorem dX9_tamed_46 : decode cX9_tamed 46 = .ok (.iload 4, 2) := by decide +kernel
theorem dX9_tamed_48 : decode cX9_tamed 48 = .ok (.sipush (-1002), 3) := by decide +kernel
theorem dX9_tamed_51 : decode cX9_tamed 51 = .ok (.if_icmp .ne 47, 3) := by decide +kernel
theorem dX9_tamed_54 : decode cX9_tamed 54 = .ok (.aload_n 0, 1) := by decide +kernel
theorem dX9_tamed_55 : decode cX9_tamed 55 = .ok (.getfield 11, 3) := by decide +kernel
theorem dX9_tamed_58 : decode cX9_tamed 58 = .ok (.iconst 2, 1) := by decide +kernel
theorem dX9_tamed_59 : decode cX9_tamed 59 = .ok (.iload 5, 2) := by decide +kernel
theorem dX9_tamed_61 : decode cX9_tamed 61 = .ok (.iastore, 1) := by decide +kernel
theorem dX9_tamed_62 : decode cX9_tamed 62 = .ok (.aload_n 0, 1) := by decide +kernel
theorem dX9_tamed_63 : decode cX9_tamed 63 = .ok (.iload_n 1, 1) := by decide +kernel
theorem dX9_tamed_64 : decode cX9_tamed 64 = .ok (.invokevirtual 316, 3) := by decide +kernel
theorem dX9_tamed_67 : decode cX9_tamed 67 = .ok (.aload_n 0, 1) := by decide +kernel
theorem dX9_tamed_68 : decode cX9_tamed 68 = .ok (.getfield 301, 3) := by decide +kernel
theorem dX9_tamed_71 : decode cX9_tamed 71 = .ok (.ifCond .ne 16, 3) := by decide +kernel
theorem dX9_tamed_74 : decode cX9_tamed 74 = .ok (.aload_n 0, 1) := by decide +kernel
theorem dX9_tamed_75 : decode cX9_tamed 75 = .ok (.getfield 310, 3) := by decide +kernel
theorem dX9_tamed_78 : decode cX9_tamed 78 = .ok (.iload_n 2, 1) := by decide +kernel
theorem dX9_tamed_79 : decode cX9_tamed 79 = .ok (.if_icmp .gt 8, 3) := by decide +kernel
theorem dX9_tamed_82 : decode cX9_tamed 82 = .ok (.iload 5, 2) := by decide +kernel
theorem dX9_tamed_84 : decode cX9_tamed 84 = .ok (.goto 6, 3) := by decide +kernel
theorem dX9_tamed_87 : decode cX9_tamed 87 = .ok (.sipush (-1002), 3) := by decide +kernel
theorem dX9_tamed_90 : decode cX9_tamed 90 = .ok (.istore 4, 2) := by decide +kernel
theorem dX9_tamed_92 : decode cX9_tamed 92 = .ok (.iinc 5 (-1), 3) := by decide +kernel
theorem dX9_tamed_95 : decode cX9_tamed 95 = .ok (.goto (-56), 3) := by decide +kernel
theorem dX9_tamed_98 : decode cX9_tamed 98 = .ok (.aload_n 0, 1) := by decide +kernel
theorem dX9_tamed_99 : decode cX9_tamed 99 = .ok (.getfield 11, 3) := by decide +kernel
theorem dX9_tamed_102 : decode cX9_tamed 102 = .ok (.iconst 2, 1) := by decide +kernel
theorem dX9_tamed_103 : decode cX9_tamed 103 = .ok (.iload_n 3, 1) := by decide +kernel
theorem dX9_tamed_104 : decode cX9_tamed 104 = .ok (.iastore, 1) := by decide +kernel
theorem dX9_tamed_105 : decode cX9_tamed 105 = .ok (.iload 4, 2) := by decide +kernel
theorem dX9_tamed_107 : decode cX9_tamed 107 = .ok (.ireturn, 1) := by decide +kernel
set_option maxRecDepth 20000 in
theorem ggX9_lost_X9_isInput : GoodIn wsX9_lost wsX9_isInput := goodIn_r _ [11, 12, 13, 14, 15, 10, 16] (by decide +kernel) (by decide +kernel)
set_option maxRecDepth 20000 in
theorem gX9_lost_X9_isInput : GoodIn wsX9_lost (va_wsS RX9 189 yX9_isInput wsX9_isInput) := goodIn_app (goodIn_of _ (by decide +kernel)) ggX9_lost_X9_isInput
set_option maxRecDepth 20000 in
theorem ggX9_lost_X9_in : GoodIn wsX9_lost wsX9_in := goodIn_r _ [16] (by decide +kernel) (by decide +kernel)
set_option maxRecDepth 20000 in
theorem gX9_lost_X9_in : GoodIn wsX9_lost (va_wsS RX9 100 yX9_in wsX9_in) := goodIn_app (goodIn_of _ (by decide +kernel)) ggX9_lost_X9_in
set_option maxRecDepth 20000 in
theorem ggX9_lost_X9_starts : GoodIn wsX9_lost wsX9_starts := goodIn_r _ [20, 7, 76, 77, 78, 79, 80, 81, 82, 83, 84, 85, 86, 87, 88, 89, 90, 91, 92, 93, 94, 95, 96, 97, 98, 99, 100, 101, 102, 103, 104, 105, 106, 107, 108, 109, 110, 111, 112, 113, 114, 115, 116, 117, 118, 119, 120, 121, 122, 123, 124] (by decide +kernel) (by decide +kernel)
set_option maxRecDepth 20000 in
theorem gX9_lost_X9_starts : GoodIn wsX9_lost (wsV RX9 279 RX9 yX9_starts wsX9_starts) := goodIn_app (goodIn_of _ (by decide +kernel)) ggX9_lost_X9_starts
set_option maxRecDepth 20000 in
theorem ggX9_lost_X9_behind : GoodIn wsX9_lost wsX9_behind := goodIn_r _ [24, 25, 26, 27, 10, 28, 29, 7, 30, 31, 32, 33, 34, 35, 36, 37, 38, 39, 2, 40, 41, 42, 43, 44, 45, 46, 47, 48, 49, 50, 51, 52, 53, 54, 55, 14, 15, 16, 56, 57, 58, 59, 60, 61, 62, 63, 64, 65, 66, 76, 77, 78, 79, 80, 81, 82, 83, 84, 85, 86, 87, 88, 89, 90, 91, 92, 93, 94, 95, 96, 97, 98, 99, 100, 101, 102, 103, 104, 105, 106, 107, 108, 109, 110, 111, 112, 113, 114, 115, 116, 117, 118, 119, 120, 121, 122, 123, 124] (by decide +kernel) (by decide +kernel)
set_option maxRecDepth 20000 in
theorem gX9_lost_X9_behind : GoodIn wsX9_lost (wsV RX9 285 RX9 yX9_behind wsX9_behind) := goodIn_app (goodIn_of _ (by decide +kernel)) ggX9_lost_X9_behind
set_option maxRecDepth 20000 in
theorem ggX9_lost_X9_lowest : GoodIn wsX9_lost wsX9_lowest := goodIn_r _ [69, 70, 71, 10, 72, 73, 74, 5, 75] (by decide +kernel) (by decide +kernel)
set_option maxRecDepth 20000 in
theorem gX9_lost_X9_lowest : GoodIn wsX9_lost (va_wsS RX9 255 yX9_lowest wsX9_lowest) := goodIn_app (goodIn_of _ (by decide +kernel)) ggX9_lost_X9_lowest
theorem dX9_lost_0 : decode cX9_lost 0 = .ok (.iload_n 1, 1) := by decide +kernel
theorem dX9_lost_1 : decode cX9_lost 1 = .ok (.invokestatic 189, 3) := by decide +kernel
theorem dX9_lost_4 : decode cX9_lost 4 = .ok (.ifCond .eq 13, 3) := by decide +kernel
theorem dX9_lost_7 : decode cX9_lost 7 = .ok (.iload_n 2, 1) := by decide +kernel
theorem dX9_lost_8 : decode cX9_lost 8 = .ok (.i2l, 1) := by decide +kernel
theorem dX9_lost_9 : decode cX9_lost 9 = .ok (.lconst 0, 1) := by decide +kernel
theorem dX9_lost_10 : decode cX9_lost 10 = .ok (.lconst 1, 1) := by decide +kernel
theorem dX9_lost_11 : decode cX9_lost 11 = .ok (.invokestatic 100, 3) := by decide +kernel
theorem dX9_lost_14 : decode cX9_lost 14 = .ok (.ifCond .ne 7, 3) := by decide +kernel
theorem dX9_lost_17 : decode cX9_lost 17 = .ok (.ldc2_w 218, 3) := by decide +kernel
theorem dX9_lost_20 : decode cX9_lost 20 = .ok (.lreturn, 1) := by decide +kernel
theorem dX9_lost_21 : decode cX9_lost 21 = .ok (.lconst 0, 1) := by decide +kernel
theorem dX9_lost_22 : decode cX9_lost 22 = .ok (.lstore_n 3, 1) := by decide +kernel
theorem dX9_lost_23 : decode cX9_lost 23 = .ok (.iconst 0, 1) := by decide +kernel
theorem dX9_lost_24 : decode cX9_lost 24 = .ok (.istore 5, 2) := by decide +kernel
theorem dX9_lost_26 : decode cX9_lost 26 = .ok (.iload 5, 2) := by decide +kernel
theorem dX9_lost_28 : decode cX9_lost 28 = .ok (.aload_n 0, 1) := by decide +kernel
theorem dX9_lost_29 : decode cX9_lost 29 = .ok (.invokevirtual 279, 3) := by decide +kernel
theorem dX9_lost_32 : decode cX9_lost 32 = .ok (.if_icmp .ge 28, 3) := by decide +kernel
theorem dX9_lost_35 : decode cX9_lost 35 = .ok (.aload_n 0, 1) := by decide +kernel
theorem dX9_lost_36 : decode cX9_lost 36 = .ok (.iload 5, 2) := by decide +kernel
theorem dX9_lost_38 : decode cX9_lost 38 = .ok (.iload_n 1, 1) := by decide +kernel
theorem dX9_lost_39 : decode cX9_lost 39 = .ok (.invokevirtual 285, 3) := by decide +kernel
theorem dX9_lost_42 : decode cX9_lost 42 = .ok (.pop, 1) := by decide +kernel
theorem dX9_lost_43 : decode cX9_lost 43 = .ok (.lload_n 3, 1) := by decide +kernel
theorem dX9_lost_44 : decode cX9_lost 44 = .ok (.aload_n 0, 1) := by decide +kernel
theorem dX9_lost_45 : decode cX9_lost 45 = .ok (.getfield 179, 3) := by decide +kernel
theorem dX9_lost_48 : decode cX9_lost 48 = .ok (.invokestatic 253, 3) := by decide +kernel
theorem dX9_lost_51 : decode cX9_lost 51 = .ok (.i2l, 1) := by decide +kernel
theorem dX9_lost_52 : decode cX9_lost 52 = .ok (.ladd, 1) := by decide +kernel
theorem dX9_lost_53 : decode cX9_lost 53 = .ok (.lstore_n 3, 1) := by decide +kernel
theorem dX9_lost_54 : decode cX9_lost 54 = .ok (.iinc 5 1, 3) := by decide +kernel
theorem dX9_lost_57 : decode cX9_lost 57 = .ok (.goto (-31), 3) := by decide +kernel
theorem dX9_lost_60 : decode cX9_lost 60 = .ok (.lload_n 3, 1) := by decide +kernel
theorem dX9_lost_61 : decode cX9_lost 61 = .ok (.aload_n 0, 1) := by decide +kernel
theorem dX9_lost_62 : decode cX9_lost 62 = .ok (.invokevirtual 279, 3) := by decide +kernel
theorem dX9_lost_65 : decode cX9_lost 65 = .ok (.i2l, 1) := by decide +kernel
theorem dX9_lost_66 : decode cX9_lost 66 = .ok (.aload_n 0, 1) := by decide +kernel
theorem dX9_lost_67 : decode cX9_lost 67 = .ok (.getfield 11, 3) := by decide +kernel
theorem dX9_lost_70 : decode cX9_lost 70 = .ok (.bipush 6, 2) := by decide +kernel
theorem dX9_lost_72 : decode cX9_lost 72 = .ok (.iaload, 1) := by decide +kernel
theorem dX9_lost_73 : decode cX9_lost 73 = .ok (.lshl, 1) := by decide +kernel
theorem dX9_lost_74 : decode cX9_lost 74 = .ok (.iload_n 2, 1) := by decide +kernel
theorem dX9_lost_75 : decode cX9_lost 75 = .ok (.invokestatic 255, 3) := by decide +kernel
theorem dX9_lost_78 : decode cX9_lost 78 = .ok (.lreturn, 1) := by decide +kernel
set_option maxRecDepth 20000 in
theorem ggX9_isSoBy_X9_runs : GoodIn wsX9_isSoBy wsX9_runs := goodIn_r _ [9, 1, 10, 11, 2, 12, 13, 3, 14, 15, 16, 17, 18, 19, 20, 21, 4, 22, 23, 24, 25, 26, 8, 27, 28, 29, 30, 31, 32, 33, 34, 35, 36, 37, 38, 39, 40, 41, 42, 43, 44, 45, 46, 47, 48, 49, 50, 51, 52, 53, 54, 55, 56, 57, 58, 59, 60, 61, 62, 63, 64, 65, 66, 67, 68, 69, 70, 71, 72, 73, 74, 75, 76, 77, 78, 79, 80, 81, 82, 83, 84, 85, 86, 87, 88, 89, 90, 91, 92, 93, 94, 95, 96, 97, 98, 99, 100, 101, 102, 103, 104, 105, 106, 107, 108, 109, 110, 111, 112, 113] (by decide +kernel) (by decide +kernel)
set_option maxRecDepth 20000 in
theorem gX9_isSoBy_X9_runs : GoodIn wsX9_isSoBy (wsV RX9 236 RX9 yX9_runs wsX9_runs) := goodIn_app (goodIn_of _ (by decide +kernel)) ggX9_isSoBy_X9_runs
theorem dX9_isSoBy_0 : decode cX9_isSoBy 0 = .ok (.aload_n 0, 1) := by decide +kernel
theorem dX9_isSoBy_1 : decode cX9_isSoBy 1 = .ok (.iload_n 1, 1) := by decide +kernel
theorem dX9_isSoBy_2 : decode cX9_isSoBy 2 = .ok (.invokevirtual 236, 3) := by decide +kernel
theorem dX9_isSoBy_5 : decode cX9_isSoBy 5 = .ok (.aload_n 0, 1) := by decide +kernel
theorem dX9_isSoBy_6 : decode cX9_isSoBy 6 = .ok (.getfield 220, 3) := by decide +kernel
theorem dX9_isSoBy_9 : decode cX9_isSoBy 9 = .ok (.aload_n 0, 1) := by decide +kernel
theorem dX9_isSoBy_10 : decode cX9_isSoBy 10 = .ok (.getfield 37, 3) := by decide +kernel
theorem dX9_isSoBy_13 : decode cX9_isSoBy 13 = .ok (.iload_n 2, 1) := by decide +kernel
theorem dX9_isSoBy_14 : decode cX9_isSoBy 14 = .ok (.iaload, 1) := by decide +kernel
theorem dX9_isSoBy_15 : decode cX9_isSoBy 15 = .ok (.if_icmp .ge 5, 3) := by decide +kernel
theorem dX9_isSoBy_18 : decode cX9_isSoBy 18 = .ok (.iconst 0, 1) := by decide +kernel
theorem dX9_isSoBy_19 : decode cX9_isSoBy 19 = .ok (.ireturn, 1) := by decide +kernel
theorem dX9_isSoBy_20 : decode cX9_isSoBy 20 = .ok (.iconst 0, 1) := by decide +kernel
theorem dX9_isSoBy_21 : decode cX9_isSoBy 21 = .ok (.istore_n 3, 1) := by decide +kernel
theorem dX9_isSoBy_22 : decode cX9_isSoBy 22 = .ok (.iload_n 3, 1) := by decide +kernel
theorem dX9_isSoBy_23 : decode cX9_isSoBy 23 = .ok (.aload_n 0, 1) := by decide +kernel
theorem dX9_isSoBy_24 : decode cX9_isSoBy 24 = .ok (.getfield 37, 3) := by decide +kernel
theorem dX9_isSoBy_27 : decode cX9_isSoBy 27 = .ok (.iload_n 2, 1) := by decide +kernel
theorem dX9_isSoBy_28 : decode cX9_isSoBy 28 = .ok (.iaload, 1) := by decide +kernel
theorem dX9_isSoBy_29 : decode cX9_isSoBy 29 = .ok (.if_icmp .ge 30, 3) := by decide +kernel
theorem dX9_isSoBy_32 : decode cX9_isSoBy 32 = .ok (.aload_n 0, 1) := by decide +kernel
theorem dX9_isSoBy_33 : decode cX9_isSoBy 33 = .ok (.getfield 31, 3) := by decide +kernel
theorem dX9_isSoBy_36 : decode cX9_isSoBy 36 = .ok (.iload_n 2, 1) := by decide +kernel
theorem dX9_isSoBy_37 : decode cX9_isSoBy 37 = .ok (.aaload, 1) := by decide +kernel
theorem dX9_isSoBy_38 : decode cX9_isSoBy 38 = .ok (.iload_n 3, 1) := by decide +kernel
theorem dX9_isSoBy_39 : decode cX9_isSoBy 39 = .ok (.laload, 1) := by decide +kernel
theorem dX9_isSoBy_40 : decode cX9_isSoBy 40 = .ok (.aload_n 0, 1) := by decide +kernel
theorem dX9_isSoBy_41 : decode cX9_isSoBy 41 = .ok (.getfield 44, 3) := by decide +kernel
theorem dX9_isSoBy_44 : decode cX9_isSoBy 44 = .ok (.iload_n 3, 1) := by decide +kernel
theorem dX9_isSoBy_45 : decode cX9_isSoBy 45 = .ok (.iaload, 1) := by decide +kernel
theorem dX9_isSoBy_46 : decode cX9_isSoBy 46 = .ok (.i2l, 1) := by decide +kernel
theorem dX9_isSoBy_47 : decode cX9_isSoBy 47 = .ok (.lcmp, 1) := by decide +kernel
theorem dX9_isSoBy_48 : decode cX9_isSoBy 48 = .ok (.ifCond .eq 5, 3) := by decide +kernel
theorem dX9_isSoBy_51 : decode cX9_isSoBy 51 = .ok (.iconst 0, 1) := by decide +kernel
theorem dX9_isSoBy_52 : decode cX9_isSoBy 52 = .ok (.ireturn, 1) := by decide +kernel
theorem dX9_isSoBy_53 : decode cX9_isSoBy 53 = .ok (.iinc 3 1, 3) := by decide +kernel
theorem dX9_isSoBy_56 : decode cX9_isSoBy 56 = .ok (.goto (-34), 3) := by decide +kernel
theorem dX9_isSoBy_59 : decode cX9_isSoBy 59 = .ok (.iconst 1, 1) := by decide +kernel
theorem dX9_isSoBy_60 : decode cX9_isSoBy 60 = .ok (.ireturn, 1) := by decide +kernel
set_option maxRecDepth 20000 in
theorem ggX9_setBy_X9_isSoBy : GoodIn wsX9_setBy wsX9_isSoBy := goodIn_r _ [6, 7, 8, 9, 10, 11, 12, 13, 5, 14, 15, 16, 17, 18, 19, 20, 21, 22, 23, 24, 25, 26, 27, 28, 29, 30, 31, 32, 33, 1, 34, 35, 36, 37, 38, 39, 40, 41, 42, 43, 44, 45, 46, 47, 48, 49, 50, 51, 52, 53, 54, 55, 56, 57, 58, 59, 60, 61, 62, 63, 64, 65, 66, 67, 68, 69, 70, 71, 72, 73, 74, 75, 76, 77, 78, 79, 80, 81, 82, 83, 84, 85, 86, 87, 88, 89, 90, 91, 92, 93, 94, 95, 96, 97, 98, 99, 100, 101, 102, 103, 104, 105, 106, 107, 108, 109, 110, 111, 112, 113, 114, 115, 116, 117] (by decide +kernel) (by decide +kernel)
set_option maxRecDepth 20000 in
theorem gX9_setBy_X9_isSoBy : GoodIn wsX9_setBy (wsV RX9 333 RX9 yX9_isSoBy wsX9_isSoBy) := goodIn_app (goodIn_of _ (by decide +kernel)) ggX9_setBy_X9_isSoBy
theorem dX9_setBy_0 : decode cX9_setBy 0 = .ok (.aload_n 0, 1) := by decide +kernel
theorem dX9_setBy_1 : decode cX9_setBy 1 = .ok (.getfield 11, 3) := by decide +kernel
theorem dX9_setBy_4 : decode cX9_setBy 4 = .ok (.iload_n 1, 1) := by decide +kernel
theorem dX9_setBy_5 : decode cX9_setBy 5 = .ok (.iaload, 1) := by decide +kernel
theorem dX9_setBy_6 : decode cX9_setBy 6 = .ok (.istore 5, 2) := by decide +kernel
theorem dX9_setBy_8 : decode cX9_setBy 8 = .ok (.iconst 0, 1) := by decide +kernel
theorem dX9_setBy_9 : decode cX9_setBy 9 = .ok (.istore 6, 2) := by decide +kernel
theorem dX9_setBy_11 : decode cX9_setBy 11 = .ok (.iconst 0, 1) := by decide +kernel
theorem dX9_setBy_12 : decode cX9_setBy 12 = .ok (.istore 7, 2) := by decide +kernel
theorem dX9_setBy_14 : decode cX9_setBy 14 = .ok (.iload 7, 2) := by decide +kernel
theorem dX9_setBy_16 : decode cX9_setBy 16 = .ok (.iload_n 2, 1) := by decide +kernel
theorem dX9_setBy_17 : decode cX9_setBy 17 = .ok (.if_icmp .gt 40, 3) := by decide +kernel
theorem dX9_setBy_20 : decode cX9_setBy 20 = .ok (.aload_n 0, 1) := by decide +kernel
theorem dX9_setBy_21 : decode cX9_setBy 21 = .ok (.getfield 11, 3) := by decide +kernel
theorem dX9_setBy_24 : decode cX9_setBy 24 = .ok (.iload_n 1, 1) := by decide +kernel
theorem dX9_setBy_25 : decode cX9_setBy 25 = .ok (.iload 7, 2) := by decide +kernel
theorem dX9_setBy_27 : decode cX9_setBy 27 = .ok (.iastore, 1) := by decide +kernel
theorem dX9_setBy_28 : decode cX9_setBy 28 = .ok (.iload 6, 2) := by decide +kernel
theorem dX9_setBy_30 : decode cX9_setBy 30 = .ok (.aload_n 0, 1) := by decide +kernel
theorem dX9_setBy_31 : decode cX9_setBy 31 = .ok (.iload_n 3, 1) := by decide +kernel
theorem dX9_setBy_32 : decode cX9_setBy 32 = .ok (.iload 4, 2) := by decide +kernel
theorem dX9_setBy_34 : decode cX9_setBy 34 = .ok (.invokevirtual 333, 3) := by decide +kernel
theorem dX9_setBy_37 : decode cX9_setBy 37 = .ok (.ifCond .eq 10, 3) := by decide +kernel
theorem dX9_setBy_40 : decode cX9_setBy 40 = .ok (.iconst 1, 1) := by decide +kernel
theorem dX9_setBy_41 : decode cX9_setBy 41 = .ok (.iload 7, 2) := by decide +kernel
theorem dX9_setBy_43 : decode cX9_setBy 43 = .ok (.ishl, 1) := by decide +kernel
theorem dX9_setBy_44 : decode cX9_setBy 44 = .ok (.goto 4, 3) := by decide +kernel
theorem dX9_setBy_47 : decode cX9_setBy 47 = .ok (.iconst 0, 1) := by decide +kernel
theorem dX9_setBy_48 : decode cX9_setBy 48 = .ok (.ior, 1) := by decide +kernel
theorem dX9_setBy_49 : decode cX9_setBy 49 = .ok (.istore 6, 2) := by decide +kernel
theorem dX9_setBy_51 : decode cX9_setBy 51 = .ok (.iinc 7 1, 3) := by decide +kernel
theorem dX9_setBy_54 : decode cX9_setBy 54 = .ok (.goto (-40), 3) := by decide +kernel
theorem dX9_setBy_57 : decode cX9_setBy 57 = .ok (.aload_n 0, 1) := by decide +kernel
theorem dX9_setBy_58 : decode cX9_setBy 58 = .ok (.getfield 11, 3) := by decide +kernel
theorem dX9_setBy_61 : decode cX9_setBy 61 = .ok (.iload_n 1, 1) := by decide +kernel
theorem dX9_setBy_62 : decode cX9_setBy 62 = .ok (.iload 5, 2) := by decide +kernel
theorem dX9_setBy_64 : decode cX9_setBy 64 = .ok (.iastore, 1) := by decide +kernel
theorem dX9_setBy_65 : decode cX9_setBy 65 = .ok (.iload 6, 2) := by decide +kernel
theorem dX9_setBy_67 : decode cX9_setBy 67 = .ok (.ireturn, 1) := by decide +kernel
set_option maxRecDepth 20000 in
theorem ggX9_coefficient_X9_isSoBy : GoodIn wsX9_coefficient wsX9_isSoBy := goodIn_r _ [6, 7, 8, 9, 10, 11, 12, 13, 5, 14, 15, 16, 17, 18, 19, 20, 21, 22, 23, 24, 25, 26, 27, 28, 29, 30, 31, 32, 33, 1, 34, 35, 36, 37, 38, 39, 40, 41, 42, 43, 44, 45, 46, 47, 48, 49, 50, 51, 52, 53, 54, 55, 56, 57, 58, 59, 60, 61, 62, 63, 64, 65, 66, 67, 68, 69, 70, 71, 72, 73, 74, 75, 76, 77, 78, 79, 80, 81, 82, 83, 84, 85, 86, 87, 88, 89, 90, 91, 92, 93, 94, 95, 96, 97, 98, 99, 100, 101, 102, 103, 104, 105, 106, 107, 108, 109, 110, 111, 112, 113, 114, 115, 116, 117] (by decide +kernel) (by decide +kernel)
set_option maxRecDepth 20000 in
theorem gX9_coefficient_X9_isSoBy : GoodIn wsX9_coefficient (wsV RX9 333 RX9 yX9_isSoBy wsX9_isSoBy) := goodIn_app (goodIn_of _ (by decide +kernel)) ggX9_coefficient_X9_isSoBy
theorem dX9_coefficient_0 : decode cX9_coefficient 0 = .ok (.aload_n 0, 1) := by decide +kernel
theorem dX9_coefficient_1 : decode cX9_coefficient 1 = .ok (.getfield 11, 3) := by decide +kernel
theorem dX9_coefficient_4 : decode cX9_coefficient 4 = .ok (.iconst 2, 1) := by decide +kernel
theorem dX9_coefficient_5 : decode cX9_coefficient 5 = .ok (.iaload, 1) := by decide +kernel
theorem dX9_coefficient_6 : decode cX9_coefficient 6 = .ok (.istore 4, 2) := by decide +kernel
theorem dX9_coefficient_8 : decode cX9_coefficient 8 = .ok (.iconst 0, 1) := by decide +kernel
theorem dX9_coefficient_9 : decode cX9_coefficient 9 = .ok (.istore 5, 2) := by decide +kernel
theorem dX9_coefficient_11 : decode cX9_coefficient 11 = .ok (.sipush (-1002), 3) := by decide +kernel
theorem dX9_coefficient_14 : decode cX9_coefficient 14 = .ok (.istore 6, 2) := by decide +kernel
theorem dX9_coefficient_16 : decode cX9_coefficient 16 = .ok (.bipush 99, 2) := by decide +kernel
theorem dX9_coefficient_18 : decode cX9_coefficient 18 = .ok (.istore 7, 2) := by decide +kernel
theorem dX9_coefficient_20 : decode cX9_coefficient 20 = .ok (.iload 7, 2) := by decide +kernel
theorem dX9_coefficient_22 : decode cX9_coefficient 22 = .ok (.bipush (-99), 2) := by decide +kernel
theorem dX9_coefficient_24 : decode cX9_coefficient 24 = .ok (.if_icmp .lt 33, 3) := by decide +kernel
theorem dX9_coefficient_27 : decode cX9_coefficient 27 = .ok (.aload_n 0, 1) := by decide +kernel
theorem dX9_coefficient_28 : decode cX9_coefficient 28 = .ok (.getfield 11, 3) := by decide +kernel
theorem dX9_coefficient_31 : decode cX9_coefficient 31 = .ok (.iconst 2, 1) := by decide +kernel
theorem dX9_coefficient_32 : decode cX9_coefficient 32 = .ok (.iload 7, 2) := by decide +kernel
theorem dX9_coefficient_34 : decode cX9_coefficient 34 = .ok (.iastore, 1) := by decide +kernel
theorem dX9_coefficient_35 : decode cX9_coefficient 35 = .ok (.aload_n 0, 1) := by decide +kernel
theorem dX9_coefficient_36 : decode cX9_coefficient 36 = .ok (.iload_n 1, 1) := by decide +kernel
theorem dX9_coefficient_37 : decode cX9_coefficient 37 = .ok (.iload_n 2, 1) := by decide +kernel
theorem dX9_coefficient_38 : decode cX9_coefficient 38 = .ok (.invokevirtual 333, 3) := by decide +kernel
theorem dX9_coefficient_41 : decode cX9_coefficient 41 = .ok (.ifCond .eq 10, 3) := by decide +kernel
theorem dX9_coefficient_44 : decode cX9_coefficient 44 = .ok (.iinc 5 1, 3) := by decide +kernel
theorem dX9_coefficient_47 : decode cX9_coefficient 47 = .ok (.iload 7, 2) := by decide +kernel
theorem dX9_coefficient_49 : decode cX9_coefficient 49 = .ok (.istore 6, 2) := by decide +kernel
theorem dX9_coefficient_51 : decode cX9_coefficient 51 = .ok (.iinc 7 (-1), 3) := by decide +kernel
theorem dX9_coefficient_54 : decode cX9_coefficient 54 = .ok (.goto (-34), 3) := by decide +kernel
theorem dX9_coefficient_57 : decode cX9_coefficient 57 = .ok (.aload_n 0, 1) := by decide +kernel
theorem dX9_coefficient_58 : decode cX9_coefficient 58 = .ok (.getfield 11, 3) := by decide +kernel
theorem dX9_coefficient_61 : decode cX9_coefficient 61 = .ok (.iconst 2, 1) := by decide +kernel
theorem dX9_coefficient_62 : decode cX9_coefficient 62 = .ok (.iload 4, 2) := by decide +kernel
theorem dX9_coefficient_64 : decode cX9_coefficient 64 = .ok (.iastore, 1) := by decide +kernel
theorem dX9_coefficient_65 : decode cX9_coefficient 65 = .ok (.iload_n 3, 1) := by decide +kernel
theorem dX9_coefficient_66 : decode cX9_coefficient 66 = .ok (.ifCond .eq 8, 3) := by decide +kernel
theorem dX9_coefficient_69 : decode cX9_coefficient 69 = .ok (.iload 6, 2) := by decide +kernel
theorem dX9_coefficient_71 : decode cX9_coefficient 71 = .ok (.goto 5, 3) := by decide +kernel
theorem dX9_coefficient_74 : decode cX9_coefficient 74 = .ok (.iload 5, 2) := by decide +kernel
theorem dX9_coefficient_76 : decode cX9_coefficient 76 = .ok (.ireturn, 1) := by decide +kernel
set_option maxRecDepth 20000 in
theorem ggX9_fits_X9_isRow : GoodIn wsX9_fits wsX9_isRow := goodIn_r _ [6, 7, 8, 9, 5, 10] (by decide +kernel) (by decide +kernel)
set_option maxRecDepth 20000 in
theorem gX9_fits_X9_isRow : GoodIn wsX9_fits (va_wsS RX9 207 yX9_isRow wsX9_isRow) := goodIn_app (goodIn_of _ (by decide +kernel)) ggX9_fits_X9_isRow
set_option maxRecDepth 20000 in
theorem ggX9_fits_X9_in : GoodIn wsX9_fits wsX9_in := goodIn_r _ [10] (by decide +kernel) (by decide +kernel)
set_option maxRecDepth 20000 in
theorem gX9_fits_X9_in : GoodIn wsX9_fits (va_wsS RX9 100 yX9_in wsX9_in) := goodIn_app (goodIn_of _ (by decide +kernel)) ggX9_fits_X9_in
set_option maxRecDepth 20000 in
theorem ggX9_fits_X9_setBy : GoodIn wsX9_fits wsX9_setBy := goodIn_r _ [14, 15, 16, 17, 18, 5, 19, 20, 21, 22, 23, 24, 25, 26, 27, 28, 29, 30, 31, 32, 33, 34, 35, 36, 37, 38, 39, 40, 41, 42, 43, 44, 45, 46, 47, 48, 49, 50, 51, 52, 53, 54, 55, 56, 57, 58, 59, 60, 61, 62, 63, 64, 65, 66, 67, 68, 69, 70, 71, 8, 9, 10, 72, 73, 74, 75, 76, 77, 78, 83, 84, 85, 86, 87, 88, 89, 90, 91, 92, 93, 94, 95, 96, 97, 98, 99, 100, 101, 102, 103, 104, 105, 106, 107, 108, 109, 110, 111, 112, 113, 114, 115, 116, 117, 118, 119, 120, 121, 122, 123, 124, 125, 126, 127, 128, 129, 130, 131] (by decide +kernel) (by decide +kernel)
set_option maxRecDepth 20000 in
theorem gX9_fits_X9_setBy : GoodIn wsX9_fits (wsV RX9 338 RX9 yX9_setBy wsX9_setBy) := goodIn_app (goodIn_of _ (by decide +kernel)) ggX9_fits_X9_setBy
set_option maxRecDepth 20000 in
theorem ggX9_fits_X9_coefficient : GoodIn wsX9_fits wsX9_coefficient := goodIn_r _ [82, 15, 16, 17, 18, 5, 19, 20, 21, 22, 23, 24, 25, 26, 27, 28, 29, 30, 31, 32, 33, 34, 35, 36, 37, 38, 39, 40, 41, 42, 43, 44, 45, 46, 47, 48, 49, 50, 51, 52, 53, 54, 55, 56, 57, 58, 59, 60, 61, 62, 63, 64, 65, 66, 67, 68, 69, 70, 71, 8, 9, 10, 72, 73, 74, 75, 76, 77, 78, 83, 84, 85, 86, 87, 88, 89, 90, 91, 92, 93, 94, 95, 96, 97, 98, 99, 100, 101, 102, 103, 104, 105, 106, 107, 108, 109, 110, 111, 112, 113, 114, 115, 116, 117, 118, 119, 120, 121, 122, 123, 124, 125, 126, 127, 128, 129, 130, 131] (by decide +kernel) (by decide +kernel)
set_option maxRecDepth 20000 in
theorem gX9_fits_X9_coefficient : GoodIn wsX9_fits (wsV RX9 342 RX9 yX9_coefficient wsX9_coefficient) := goodIn_app (goodIn_of _ (by decide +kernel)) ggX9_fits_X9_coefficient
theorem dX9_fits_0 : decode cX9_fits 0 = .ok (.iload_n 1, 1) := by decide +kernel
theorem dX9_fits_1 : decode cX9_fits 1 = .ok (.invokestatic 207, 3) := by decide +kernel
theorem dX9_fits_4 : decode cX9_fits 4 = .ok (.ifCond .eq 22, 3) := by decide +kernel
theorem dX9_fits_7 : decode cX9_fits 7 = .ok (.iload_n 2, 1) := by decide +kernel
theorem dX9_fits_8 : decode cX9_fits 8 = .ok (.invokestatic 207, 3) := by decide +kernel
theorem dX9_fits_11 : decode cX9_fits 11 = .ok (.ifCond .eq 15, 3) := by decide +kernel
theorem dX9_fits_14 : decode cX9_fits 14 = .ok (.iload_n 3, 1) := by decide +kernel
theorem dX9_fits_15 : decode cX9_fits 15 = .ok (.i2l, 1) := by decide +kernel
theorem dX9_fits_16 : decode cX9_fits 16 = .ok (.lconst 0, 1) := by decide +kernel
theorem dX9_fits_17 : decode cX9_fits 17 = .ok (.ldc2_w 336, 3) := by decide +kernel
theorem dX9_fits_20 : decode cX9_fits 20 = .ok (.invokestatic 100, 3) := by decide +kernel
theorem dX9_fits_23 : decode cX9_fits 23 = .ok (.ifCond .ne 7, 3) := by decide +kernel
theorem dX9_fits_26 : decode cX9_fits 26 = .ok (.sipush (-1001), 3) := by decide +kernel
theorem dX9_fits_29 : decode cX9_fits 29 = .ok (.ireturn, 1) := by decide +kernel
theorem dX9_fits_30 : decode cX9_fits 30 = .ok (.aload_n 0, 1) := by decide +kernel
theorem dX9_fits_31 : decode cX9_fits 31 = .ok (.getfield 34, 3) := by decide +kernel
theorem dX9_fits_34 : decode cX9_fits 34 = .ok (.iload_n 1, 1) := by decide +kernel
theorem dX9_fits_35 : decode cX9_fits 35 = .ok (.iaload, 1) := by decide +kernel
theorem dX9_fits_36 : decode cX9_fits 36 = .ok (.ifCond .lt 12, 3) := by decide +kernel
theorem dX9_fits_39 : decode cX9_fits 39 = .ok (.aload_n 0, 1) := by decide +kernel
theorem dX9_fits_40 : decode cX9_fits 40 = .ok (.getfield 34, 3) := by decide +kernel
theorem dX9_fits_43 : decode cX9_fits 43 = .ok (.iload_n 2, 1) := by decide +kernel
theorem dX9_fits_44 : decode cX9_fits 44 = .ok (.iaload, 1) := by decide +kernel
theorem dX9_fits_45 : decode cX9_fits 45 = .ok (.ifCond .ge 7, 3) := by decide +kernel
theorem dX9_fits_48 : decode cX9_fits 48 = .ok (.sipush (-1011), 3) := by decide +kernel
theorem dX9_fits_51 : decode cX9_fits 51 = .ok (.ireturn, 1) := by decide +kernel
theorem dX9_fits_52 : decode cX9_fits 52 = .ok (.iload_n 3, 1) := by decide +kernel
theorem dX9_fits_53 : decode cX9_fits 53 = .ok (.tableswitch 72 0 3 #[31, 41, 51, 62], 31) := by decide +kernel
