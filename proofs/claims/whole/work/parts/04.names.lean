theorem dX7_settle_88 : decode cX7_settle 88 = .ok (.aload_n 0, 1) := by decide +kernel
theorem dX7_settle_89 : decode cX7_settle 89 = .ok (.getfield 18, 3) := by decide +kernel
theorem dX7_settle_92 : decode cX7_settle 92 = .ok (.iload_n 2, 1) := by decide +kernel
theorem dX7_settle_93 : decode cX7_settle 93 = .ok (.iaload, 1) := by decide +kernel
theorem dX7_settle_94 : decode cX7_settle 94 = .ok (.istore_n 2, 1) := by decide +kernel
theorem dX7_settle_95 : decode cX7_settle 95 = .ok (.iinc 3 1, 3) := by decide +kernel
theorem dX7_settle_98 : decode cX7_settle 98 = .ok (.goto (-94), 3) := by decide +kernel
theorem dX7_settle_101 : decode cX7_settle 101 = .ok (.aload_n 0, 1) := by decide +kernel
theorem dX7_settle_102 : decode cX7_settle 102 = .ok (.iload_n 2, 1) := by decide +kernel
theorem dX7_settle_103 : decode cX7_settle 103 = .ok (.invokevirtual 71, 3) := by decide +kernel
theorem dX7_settle_106 : decode cX7_settle 106 = .ok (.ifCond .eq 19, 3) := by decide +kernel
theorem dX7_settle_109 : decode cX7_settle 109 = .ok (.aload_n 0, 1) := by decide +kernel
theorem dX7_settle_110 : decode cX7_settle 110 = .ok (.getfield 22, 3) := by decide +kernel
theorem dX7_settle_113 : decode cX7_settle 113 = .ok (.iload_n 2, 1) := by decide +kernel
theorem dX7_settle_114 : decode cX7_settle 114 = .ok (.iaload, 1) := by decide +kernel
theorem dX7_settle_115 : decode cX7_settle 115 = .ok (.bipush (-2), 2) := by decide +kernel
theorem dX7_settle_117 : decode cX7_settle 117 = .ok (.if_icmp .ne 8, 3) := by decide +kernel
theorem dX7_settle_120 : decode cX7_settle 120 = .ok (.aload_n 0, 1) := by decide +kernel
theorem dX7_settle_121 : decode cX7_settle 121 = .ok (.iload_n 2, 1) := by decide +kernel
theorem dX7_settle_122 : decode cX7_settle 122 = .ok (.invokevirtual 88, 3) := by decide +kernel
theorem dX7_settle_125 : decode cX7_settle 125 = .ok (.aload_n 0, 1) := by decide +kernel
theorem dX7_settle_126 : decode cX7_settle 126 = .ok (.iload_n 1, 1) := by decide +kernel
theorem dX7_settle_127 : decode cX7_settle 127 = .ok (.invokevirtual 91, 3) := by decide +kernel
theorem dX7_settle_130 : decode cX7_settle 130 = .ok (.return_, 1) := by decide +kernel
set_option maxRecDepth 20000 in
theorem ggX7_closeCycle_X7_is : GoodIn wsX7_closeCycle wsX7_is := goodIn_r _ [21, 1, 32, 33, 34, 35, 36, 37, 38, 39, 40] (by decide +kernel) (by decide +kernel)
set_option maxRecDepth 20000 in
theorem gX7_closeCycle_X7_is : GoodIn wsX7_closeCycle (wsV RX7 71 RX7 yX7_is wsX7_is) := goodIn_app (goodIn_of _ (by decide +kernel)) ggX7_closeCycle_X7_is
set_option maxRecDepth 20000 in
theorem ggX7_closeCycle_X3_latestIn : GoodIn wsX7_closeCycle wsX3_latestIn := goodIn_r _ [26, 27, 28, 29, 30, 25, 31, 41, 42, 43, 44, 45, 46, 47, 48, 49] (by decide +kernel) (by decide +kernel)
set_option maxRecDepth 20000 in
theorem gX7_closeCycle_X3_latestIn : GoodIn wsX7_closeCycle (wsV RX7 94 RX3 yX3_latestIn wsX3_latestIn) := goodIn_app (goodIn_of _ (by decide +kernel)) ggX7_closeCycle_X3_latestIn
theorem dX7_closeCycle_0 : decode cX7_closeCycle 0 = .ok (.iload_n 1, 1) := by decide +kernel
theorem dX7_closeCycle_1 : decode cX7_closeCycle 1 = .ok (.istore_n 2, 1) := by decide +kernel
theorem dX7_closeCycle_2 : decode cX7_closeCycle 2 = .ok (.iload_n 1, 1) := by decide +kernel
theorem dX7_closeCycle_3 : decode cX7_closeCycle 3 = .ok (.istore_n 3, 1) := by decide +kernel
theorem dX7_closeCycle_4 : decode cX7_closeCycle 4 = .ok (.iconst 0, 1) := by decide +kernel
theorem dX7_closeCycle_5 : decode cX7_closeCycle 5 = .ok (.istore 4, 2) := by decide +kernel
theorem dX7_closeCycle_7 : decode cX7_closeCycle 7 = .ok (.iload 4, 2) := by decide +kernel
theorem dX7_closeCycle_9 : decode cX7_closeCycle 9 = .ok (.aload_n 0, 1) := by decide +kernel
theorem dX7_closeCycle_10 : decode cX7_closeCycle 10 = .ok (.getfield 28, 3) := by decide +kernel
theorem dX7_closeCycle_13 : decode cX7_closeCycle 13 = .ok (.if_icmp .ge 62, 3) := by decide +kernel
theorem dX7_closeCycle_16 : decode cX7_closeCycle 16 = .ok (.aload_n 0, 1) := by decide +kernel
theorem dX7_closeCycle_17 : decode cX7_closeCycle 17 = .ok (.iload_n 3, 1) := by decide +kernel
theorem dX7_closeCycle_18 : decode cX7_closeCycle 18 = .ok (.invokevirtual 71, 3) := by decide +kernel
theorem dX7_closeCycle_21 : decode cX7_closeCycle 21 = .ok (.ifCond .eq 54, 3) := by decide +kernel
theorem dX7_closeCycle_24 : decode cX7_closeCycle 24 = .ok (.iload 4, 2) := by decide +kernel
theorem dX7_closeCycle_26 : decode cX7_closeCycle 26 = .ok (.ifCond .eq 8, 3) := by decide +kernel
theorem dX7_closeCycle_29 : decode cX7_closeCycle 29 = .ok (.iload_n 3, 1) := by decide +kernel
theorem dX7_closeCycle_30 : decode cX7_closeCycle 30 = .ok (.iload_n 1, 1) := by decide +kernel
theorem dX7_closeCycle_31 : decode cX7_closeCycle 31 = .ok (.if_icmp .eq 44, 3) := by decide +kernel
theorem dX7_closeCycle_34 : decode cX7_closeCycle 34 = .ok (.iload_n 2, 1) := by decide +kernel
theorem dX7_closeCycle_35 : decode cX7_closeCycle 35 = .ok (.iload_n 3, 1) := by decide +kernel
theorem dX7_closeCycle_36 : decode cX7_closeCycle 36 = .ok (.invokestatic 65, 3) := by decide +kernel
theorem dX7_closeCycle_39 : decode cX7_closeCycle 39 = .ok (.istore_n 2, 1) := by decide +kernel
theorem dX7_closeCycle_40 : decode cX7_closeCycle 40 = .ok (.aload_n 0, 1) := by decide +kernel
theorem dX7_closeCycle_41 : decode cX7_closeCycle 41 = .ok (.aload_n 0, 1) := by decide +kernel
theorem dX7_closeCycle_42 : decode cX7_closeCycle 42 = .ok (.getfield 42, 3) := by decide +kernel
theorem dX7_closeCycle_45 : decode cX7_closeCycle 45 = .ok (.aload_n 0, 1) := by decide +kernel
theorem dX7_closeCycle_46 : decode cX7_closeCycle 46 = .ok (.getfield 12, 3) := by decide +kernel
theorem dX7_closeCycle_49 : decode cX7_closeCycle 49 = .ok (.iload_n 3, 1) := by decide +kernel
theorem dX7_closeCycle_50 : decode cX7_closeCycle 50 = .ok (.invokevirtual 94, 3) := by decide +kernel
theorem dX7_closeCycle_53 : decode cX7_closeCycle 53 = .ok (.invokestatic 97, 3) := by decide +kernel
theorem dX7_closeCycle_56 : decode cX7_closeCycle 56 = .ok (.invokestatic 100, 3) := by decide +kernel
theorem dX7_closeCycle_59 : decode cX7_closeCycle 59 = .ok (.putfield 42, 3) := by decide +kernel
theorem dX7_closeCycle_62 : decode cX7_closeCycle 62 = .ok (.aload_n 0, 1) := by decide +kernel
theorem dX7_closeCycle_63 : decode cX7_closeCycle 63 = .ok (.getfield 18, 3) := by decide +kernel
theorem dX7_closeCycle_66 : decode cX7_closeCycle 66 = .ok (.iload_n 3, 1) := by decide +kernel
theorem dX7_closeCycle_67 : decode cX7_closeCycle 67 = .ok (.iaload, 1) := by decide +kernel
theorem dX7_closeCycle_68 : decode cX7_closeCycle 68 = .ok (.istore_n 3, 1) := by decide +kernel
theorem dX7_closeCycle_69 : decode cX7_closeCycle 69 = .ok (.iinc 4 1, 3) := by decide +kernel
theorem dX7_closeCycle_72 : decode cX7_closeCycle 72 = .ok (.goto (-65), 3) := by decide +kernel
theorem dX7_closeCycle_75 : decode cX7_closeCycle 75 = .ok (.iconst 0, 1) := by decide +kernel
theorem dX7_closeCycle_76 : decode cX7_closeCycle 76 = .ok (.istore 4, 2) := by decide +kernel
theorem dX7_closeCycle_78 : decode cX7_closeCycle 78 = .ok (.iload 4, 2) := by decide +kernel
theorem dX7_closeCycle_80 : decode cX7_closeCycle 80 = .ok (.aload_n 0, 1) := by decide +kernel
theorem dX7_closeCycle_81 : decode cX7_closeCycle 81 = .ok (.getfield 28, 3) := by decide +kernel
theorem dX7_closeCycle_84 : decode cX7_closeCycle 84 = .ok (.if_icmp .ge 49, 3) := by decide +kernel
theorem dX7_closeCycle_87 : decode cX7_closeCycle 87 = .ok (.aload_n 0, 1) := by decide +kernel
theorem dX7_closeCycle_88 : decode cX7_closeCycle 88 = .ok (.iload_n 3, 1) := by decide +kernel
theorem dX7_closeCycle_89 : decode cX7_closeCycle 89 = .ok (.invokevirtual 71, 3) := by decide +kernel
theorem dX7_closeCycle_92 : decode cX7_closeCycle 92 = .ok (.ifCond .eq 41, 3) := by decide +kernel
theorem dX7_closeCycle_95 : decode cX7_closeCycle 95 = .ok (.aload_n 0, 1) := by decide +kernel
theorem dX7_closeCycle_96 : decode cX7_closeCycle 96 = .ok (.getfield 22, 3) := by decide +kernel
theorem dX7_closeCycle_99 : decode cX7_closeCycle 99 = .ok (.iload_n 3, 1) := by decide +kernel
theorem dX7_closeCycle_100 : decode cX7_closeCycle 100 = .ok (.iaload, 1) := by decide +kernel
theorem dX7_closeCycle_101 : decode cX7_closeCycle 101 = .ok (.bipush (-2), 2) := by decide +kernel
theorem dX7_closeCycle_103 : decode cX7_closeCycle 103 = .ok (.if_icmp .ne 30, 3) := by decide +kernel
theorem dX7_closeCycle_106 : decode cX7_closeCycle 106 = .ok (.aload_n 0, 1) := by decide +kernel
theorem dX7_closeCycle_107 : decode cX7_closeCycle 107 = .ok (.getfield 22, 3) := by decide +kernel
theorem dX7_closeCycle_110 : decode cX7_closeCycle 110 = .ok (.iload_n 3, 1) := by decide +kernel
theorem dX7_closeCycle_111 : decode cX7_closeCycle 111 = .ok (.iconst 0, 1) := by decide +kernel
theorem dX7_closeCycle_112 : decode cX7_closeCycle 112 = .ok (.iastore, 1) := by decide +kernel
theorem dX7_closeCycle_113 : decode cX7_closeCycle 113 = .ok (.aload_n 0, 1) := by decide +kernel
theorem dX7_closeCycle_114 : decode cX7_closeCycle 114 = .ok (.getfield 25, 3) := by decide +kernel
theorem dX7_closeCycle_117 : decode cX7_closeCycle 117 = .ok (.iload_n 3, 1) := by decide +kernel
theorem dX7_closeCycle_118 : decode cX7_closeCycle 118 = .ok (.iload_n 2, 1) := by decide +kernel
theorem dX7_closeCycle_119 : decode cX7_closeCycle 119 = .ok (.iastore, 1) := by decide +kernel
theorem dX7_closeCycle_120 : decode cX7_closeCycle 120 = .ok (.aload_n 0, 1) := by decide +kernel
theorem dX7_closeCycle_121 : decode cX7_closeCycle 121 = .ok (.getfield 18, 3) := by decide +kernel
theorem dX7_closeCycle_124 : decode cX7_closeCycle 124 = .ok (.iload_n 3, 1) := by decide +kernel
theorem dX7_closeCycle_125 : decode cX7_closeCycle 125 = .ok (.iaload, 1) := by decide +kernel
theorem dX7_closeCycle_126 : decode cX7_closeCycle 126 = .ok (.istore_n 3, 1) := by decide +kernel
theorem dX7_closeCycle_127 : decode cX7_closeCycle 127 = .ok (.iinc 4 1, 3) := by decide +kernel
theorem dX7_closeCycle_130 : decode cX7_closeCycle 130 = .ok (.goto (-52), 3) := by decide +kernel
theorem dX7_closeCycle_133 : decode cX7_closeCycle 133 = .ok (.return_, 1) := by decide +kernel
set_option maxRecDepth 20000 in
theorem ggX7_joinWay_X7_is : GoodIn wsX7_joinWay wsX7_is := goodIn_r _ [10, 1, 11, 12, 13, 14, 15, 16, 17, 18, 19] (by decide +kernel) (by decide +kernel)
set_option maxRecDepth 20000 in
theorem gX7_joinWay_X7_is : GoodIn wsX7_joinWay (wsV RX7 71 RX7 yX7_is wsX7_is) := goodIn_app (goodIn_of _ (by decide +kernel)) ggX7_joinWay_X7_is
theorem dX7_joinWay_0 : decode cX7_joinWay 0 = .ok (.iconst 0, 1) := by decide +kernel
theorem dX7_joinWay_1 : decode cX7_joinWay 1 = .ok (.istore_n 2, 1) := by decide +kernel
theorem dX7_joinWay_2 : decode cX7_joinWay 2 = .ok (.iload_n 1, 1) := by decide +kernel
theorem dX7_joinWay_3 : decode cX7_joinWay 3 = .ok (.istore_n 3, 1) := by decide +kernel
theorem dX7_joinWay_4 : decode cX7_joinWay 4 = .ok (.iconst 0, 1) := by decide +kernel
theorem dX7_joinWay_5 : decode cX7_joinWay 5 = .ok (.istore 4, 2) := by decide +kernel
theorem dX7_joinWay_7 : decode cX7_joinWay 7 = .ok (.iload 4, 2) := by decide +kernel
theorem dX7_joinWay_9 : decode cX7_joinWay 9 = .ok (.aload_n 0, 1) := by decide +kernel
theorem dX7_joinWay_10 : decode cX7_joinWay 10 = .ok (.getfield 28, 3) := by decide +kernel
theorem dX7_joinWay_13 : decode cX7_joinWay 13 = .ok (.if_icmp .ge 38, 3) := by decide +kernel
theorem dX7_joinWay_16 : decode cX7_joinWay 16 = .ok (.aload_n 0, 1) := by decide +kernel
theorem dX7_joinWay_17 : decode cX7_joinWay 17 = .ok (.iload_n 3, 1) := by decide +kernel
theorem dX7_joinWay_18 : decode cX7_joinWay 18 = .ok (.invokevirtual 71, 3) := by decide +kernel
theorem dX7_joinWay_21 : decode cX7_joinWay 21 = .ok (.ifCond .eq 30, 3) := by decide +kernel
theorem dX7_joinWay_24 : decode cX7_joinWay 24 = .ok (.aload_n 0, 1) := by decide +kernel
theorem dX7_joinWay_25 : decode cX7_joinWay 25 = .ok (.getfield 22, 3) := by decide +kernel
theorem dX7_joinWay_28 : decode cX7_joinWay 28 = .ok (.iload_n 3, 1) := by decide +kernel
theorem dX7_joinWay_29 : decode cX7_joinWay 29 = .ok (.iaload, 1) := by decide +kernel
theorem dX7_joinWay_30 : decode cX7_joinWay 30 = .ok (.bipush (-2), 2) := by decide +kernel
theorem dX7_joinWay_32 : decode cX7_joinWay 32 = .ok (.if_icmp .ne 19, 3) := by decide +kernel
theorem dX7_joinWay_35 : decode cX7_joinWay 35 = .ok (.iinc 2 1, 3) := by decide +kernel
theorem dX7_joinWay_38 : decode cX7_joinWay 38 = .ok (.aload_n 0, 1) := by decide +kernel
theorem dX7_joinWay_39 : decode cX7_joinWay 39 = .ok (.getfield 18, 3) := by decide +kernel
theorem dX7_joinWay_42 : decode cX7_joinWay 42 = .ok (.iload_n 3, 1) := by decide +kernel
theorem dX7_joinWay_43 : decode cX7_joinWay 43 = .ok (.iaload, 1) := by decide +kernel
theorem dX7_joinWay_44 : decode cX7_joinWay 44 = .ok (.istore_n 3, 1) := by decide +kernel
theorem dX7_joinWay_45 : decode cX7_joinWay 45 = .ok (.iinc 4 1, 3) := by decide +kernel
theorem dX7_joinWay_48 : decode cX7_joinWay 48 = .ok (.goto (-41), 3) := by decide +kernel
theorem dX7_joinWay_51 : decode cX7_joinWay 51 = .ok (.aload_n 0, 1) := by decide +kernel
theorem dX7_joinWay_52 : decode cX7_joinWay 52 = .ok (.iload_n 3, 1) := by decide +kernel
theorem dX7_joinWay_53 : decode cX7_joinWay 53 = .ok (.invokevirtual 71, 3) := by decide +kernel
theorem dX7_joinWay_56 : decode cX7_joinWay 56 = .ok (.ifCond .eq 12, 3) := by decide +kernel
theorem dX7_joinWay_59 : decode cX7_joinWay 59 = .ok (.aload_n 0, 1) := by decide +kernel
theorem dX7_joinWay_60 : decode cX7_joinWay 60 = .ok (.getfield 25, 3) := by decide +kernel
theorem dX7_joinWay_63 : decode cX7_joinWay 63 = .ok (.iload_n 3, 1) := by decide +kernel
theorem dX7_joinWay_64 : decode cX7_joinWay 64 = .ok (.iaload, 1) := by decide +kernel
theorem dX7_joinWay_65 : decode cX7_joinWay 65 = .ok (.goto 4, 3) := by decide +kernel
theorem dX7_joinWay_68 : decode cX7_joinWay 68 = .ok (.iconst (-1), 1) := by decide +kernel
theorem dX7_joinWay_69 : decode cX7_joinWay 69 = .ok (.istore 4, 2) := by decide +kernel
theorem dX7_joinWay_71 : decode cX7_joinWay 71 = .ok (.aload_n 0, 1) := by decide +kernel
theorem dX7_joinWay_72 : decode cX7_joinWay 72 = .ok (.iload_n 3, 1) := by decide +kernel
theorem dX7_joinWay_73 : decode cX7_joinWay 73 = .ok (.invokevirtual 71, 3) := by decide +kernel
theorem dX7_joinWay_76 : decode cX7_joinWay 76 = .ok (.ifCond .eq 14, 3) := by decide +kernel
theorem dX7_joinWay_79 : decode cX7_joinWay 79 = .ok (.aload_n 0, 1) := by decide +kernel
theorem dX7_joinWay_80 : decode cX7_joinWay 80 = .ok (.getfield 22, 3) := by decide +kernel
theorem dX7_joinWay_83 : decode cX7_joinWay 83 = .ok (.iload_n 3, 1) := by decide +kernel
theorem dX7_joinWay_84 : decode cX7_joinWay 84 = .ok (.iaload, 1) := by decide +kernel
theorem dX7_joinWay_85 : decode cX7_joinWay 85 = .ok (.iload_n 2, 1) := by decide +kernel
theorem dX7_joinWay_86 : decode cX7_joinWay 86 = .ok (.iadd, 1) := by decide +kernel
theorem dX7_joinWay_87 : decode cX7_joinWay 87 = .ok (.goto 4, 3) := by decide +kernel
theorem dX7_joinWay_90 : decode cX7_joinWay 90 = .ok (.iload_n 2, 1) := by decide +kernel
theorem dX7_joinWay_91 : decode cX7_joinWay 91 = .ok (.istore 5, 2) := by decide +kernel
theorem dX7_joinWay_93 : decode cX7_joinWay 93 = .ok (.aload_n 0, 1) := by decide +kernel
theorem dX7_joinWay_94 : decode cX7_joinWay 94 = .ok (.aload_n 0, 1) := by decide +kernel
theorem dX7_joinWay_95 : decode cX7_joinWay 95 = .ok (.getfield 39, 3) := by decide +kernel
theorem dX7_joinWay_98 : decode cX7_joinWay 98 = .ok (.ifCond .ne 9, 3) := by decide +kernel
theorem dX7_joinWay_101 : decode cX7_joinWay 101 = .ok (.iload 4, 2) := by decide +kernel
theorem dX7_joinWay_103 : decode cX7_joinWay 103 = .ok (.iconst (-1), 1) := by decide +kernel
theorem dX7_joinWay_104 : decode cX7_joinWay 104 = .ok (.if_icmp .ne 7, 3) := by decide +kernel
theorem dX7_joinWay_107 : decode cX7_joinWay 107 = .ok (.iconst 1, 1) := by decide +kernel
theorem dX7_joinWay_108 : decode cX7_joinWay 108 = .ok (.goto 4, 3) := by decide +kernel
theorem dX7_joinWay_111 : decode cX7_joinWay 111 = .ok (.iconst 0, 1) := by decide +kernel
theorem dX7_joinWay_112 : decode cX7_joinWay 112 = .ok (.putfield 39, 3) := by decide +kernel
theorem dX7_joinWay_115 : decode cX7_joinWay 115 = .ok (.iload_n 1, 1) := by decide +kernel
theorem dX7_joinWay_116 : decode cX7_joinWay 116 = .ok (.istore_n 3, 1) := by decide +kernel
theorem dX7_joinWay_117 : decode cX7_joinWay 117 = .ok (.iconst 0, 1) := by decide +kernel
theorem dX7_joinWay_118 : decode cX7_joinWay 118 = .ok (.istore 6, 2) := by decide +kernel
theorem dX7_joinWay_120 : decode cX7_joinWay 120 = .ok (.iload 6, 2) := by decide +kernel
theorem dX7_joinWay_122 : decode cX7_joinWay 122 = .ok (.iload_n 2, 1) := by decide +kernel
theorem dX7_joinWay_123 : decode cX7_joinWay 123 = .ok (.if_icmp .ge 43, 3) := by decide +kernel
theorem dX7_joinWay_126 : decode cX7_joinWay 126 = .ok (.aload_n 0, 1) := by decide +kernel
theorem dX7_joinWay_127 : decode cX7_joinWay 127 = .ok (.iload_n 3, 1) := by decide +kernel
theorem dX7_joinWay_128 : decode cX7_joinWay 128 = .ok (.invokevirtual 71, 3) := by decide +kernel
theorem dX7_joinWay_131 : decode cX7_joinWay 131 = .ok (.ifCond .eq 35, 3) := by decide +kernel
theorem dX7_joinWay_134 : decode cX7_joinWay 134 = .ok (.aload_n 0, 1) := by decide +kernel
theorem dX7_joinWay_135 : decode cX7_joinWay 135 = .ok (.getfield 25, 3) := by decide +kernel
theorem dX7_joinWay_138 : decode cX7_joinWay 138 = .ok (.iload_n 3, 1) := by decide +kernel
theorem dX7_joinWay_139 : decode cX7_joinWay 139 = .ok (.iload 4, 2) := by decide +kernel
theorem dX7_joinWay_141 : decode cX7_joinWay 141 = .ok (.iastore, 1) := by decide +kernel
theorem dX7_joinWay_142 : decode cX7_joinWay 142 = .ok (.aload_n 0, 1) := by decide +kernel
theorem dX7_joinWay_143 : decode cX7_joinWay 143 = .ok (.getfield 22, 3) := by decide +kernel
theorem dX7_joinWay_146 : decode cX7_joinWay 146 = .ok (.iload_n 3, 1) := by decide +kernel
theorem dX7_joinWay_147 : decode cX7_joinWay 147 = .ok (.iload 5, 2) := by decide +kernel
theorem dX7_joinWay_149 : decode cX7_joinWay 149 = .ok (.iload 6, 2) := by decide +kernel
theorem dX7_joinWay_151 : decode cX7_joinWay 151 = .ok (.isub, 1) := by decide +kernel
theorem dX7_joinWay_152 : decode cX7_joinWay 152 = .ok (.iastore, 1) := by decide +kernel
theorem dX7_joinWay_153 : decode cX7_joinWay 153 = .ok (.aload_n 0, 1) := by decide +kernel
theorem dX7_joinWay_154 : decode cX7_joinWay 154 = .ok (.getfield 18, 3) := by decide +kernel
theorem dX7_joinWay_157 : decode cX7_joinWay 157 = .ok (.iload_n 3, 1) := by decide +kernel
theorem dX7_joinWay_158 : decode cX7_joinWay 158 = .ok (.iaload, 1) := by decide +kernel
theorem dX7_joinWay_159 : decode cX7_joinWay 159 = .ok (.istore_n 3, 1) := by decide +kernel
theorem dX7_joinWay_160 : decode cX7_joinWay 160 = .ok (.iinc 6 1, 3) := by decide +kernel
theorem dX7_joinWay_163 : decode cX7_joinWay 163 = .ok (.goto (-43), 3) := by decide +kernel
theorem dX7_joinWay_166 : decode cX7_joinWay 166 = .ok (.return_, 1) := by decide +kernel
set_option maxRecDepth 20000 in
theorem ggX7_isOnCycle_X7_is : GoodIn wsX7_isOnCycle wsX7_is := goodIn_r _ [7, 8, 9, 10, 11, 12, 13, 14, 15, 16, 17] (by decide +kernel) (by decide +kernel)
set_option maxRecDepth 20000 in
theorem gX7_isOnCycle_X7_is : GoodIn wsX7_isOnCycle (wsV RX7 71 RX7 yX7_is wsX7_is) := goodIn_app (goodIn_of _ (by decide +kernel)) ggX7_isOnCycle_X7_is
theorem dX7_isOnCycle_0 : decode cX7_isOnCycle 0 = .ok (.aload_n 0, 1) := by decide +kernel
theorem dX7_isOnCycle_1 : decode cX7_isOnCycle 1 = .ok (.iload_n 1, 1) := by decide +kernel
theorem dX7_isOnCycle_2 : decode cX7_isOnCycle 2 = .ok (.invokevirtual 71, 3) := by decide +kernel
theorem dX7_isOnCycle_5 : decode cX7_isOnCycle 5 = .ok (.ifCond .eq 26, 3) := by decide +kernel
theorem dX7_isOnCycle_8 : decode cX7_isOnCycle 8 = .ok (.aload_n 0, 1) := by decide +kernel
theorem dX7_isOnCycle_9 : decode cX7_isOnCycle 9 = .ok (.getfield 25, 3) := by decide +kernel
theorem dX7_isOnCycle_12 : decode cX7_isOnCycle 12 = .ok (.iload_n 1, 1) := by decide +kernel
theorem dX7_isOnCycle_13 : decode cX7_isOnCycle 13 = .ok (.iaload, 1) := by decide +kernel
theorem dX7_isOnCycle_14 : decode cX7_isOnCycle 14 = .ok (.iconst (-1), 1) := by decide +kernel
theorem dX7_isOnCycle_15 : decode cX7_isOnCycle 15 = .ok (.if_icmp .eq 16, 3) := by decide +kernel
theorem dX7_isOnCycle_18 : decode cX7_isOnCycle 18 = .ok (.aload_n 0, 1) := by decide +kernel
theorem dX7_isOnCycle_19 : decode cX7_isOnCycle 19 = .ok (.getfield 22, 3) := by decide +kernel
theorem dX7_isOnCycle_22 : decode cX7_isOnCycle 22 = .ok (.iload_n 1, 1) := by decide +kernel
theorem dX7_isOnCycle_23 : decode cX7_isOnCycle 23 = .ok (.iaload, 1) := by decide +kernel
theorem dX7_isOnCycle_24 : decode cX7_isOnCycle 24 = .ok (.ifCond .ne 7, 3) := by decide +kernel
theorem dX7_isOnCycle_27 : decode cX7_isOnCycle 27 = .ok (.iconst 1, 1) := by decide +kernel
theorem dX7_isOnCycle_28 : decode cX7_isOnCycle 28 = .ok (.goto 4, 3) := by decide +kernel
theorem dX7_isOnCycle_31 : decode cX7_isOnCycle 31 = .ok (.iconst 0, 1) := by decide +kernel
theorem dX7_isOnCycle_32 : decode cX7_isOnCycle 32 = .ok (.ireturn, 1) := by decide +kernel
set_option maxRecDepth 20000 in
theorem ggX7_cycleFrom_X7_is : GoodIn wsX7_cycleFrom wsX7_is := goodIn_r _ [6, 7, 8, 9, 10, 11, 12, 13, 14, 15, 16] (by decide +kernel) (by decide +kernel)
set_option maxRecDepth 20000 in
theorem gX7_cycleFrom_X7_is : GoodIn wsX7_cycleFrom (wsV RX7 71 RX7 yX7_is wsX7_is) := goodIn_app (goodIn_of _ (by decide +kernel)) ggX7_cycleFrom_X7_is
theorem dX7_cycleFrom_0 : decode cX7_cycleFrom 0 = .ok (.aload_n 0, 1) := by decide +kernel
theorem dX7_cycleFrom_1 : decode cX7_cycleFrom 1 = .ok (.iload_n 1, 1) := by decide +kernel
theorem dX7_cycleFrom_2 : decode cX7_cycleFrom 2 = .ok (.invokevirtual 71, 3) := by decide +kernel
theorem dX7_cycleFrom_5 : decode cX7_cycleFrom 5 = .ok (.ifCond .eq 12, 3) := by decide +kernel
theorem dX7_cycleFrom_8 : decode cX7_cycleFrom 8 = .ok (.aload_n 0, 1) := by decide +kernel
theorem dX7_cycleFrom_9 : decode cX7_cycleFrom 9 = .ok (.getfield 25, 3) := by decide +kernel
theorem dX7_cycleFrom_12 : decode cX7_cycleFrom 12 = .ok (.iload_n 1, 1) := by decide +kernel
theorem dX7_cycleFrom_13 : decode cX7_cycleFrom 13 = .ok (.iaload, 1) := by decide +kernel
theorem dX7_cycleFrom_14 : decode cX7_cycleFrom 14 = .ok (.goto 4, 3) := by decide +kernel
theorem dX7_cycleFrom_17 : decode cX7_cycleFrom 17 = .ok (.iconst (-1), 1) := by decide +kernel
theorem dX7_cycleFrom_18 : decode cX7_cycleFrom 18 = .ok (.ireturn, 1) := by decide +kernel
set_option maxRecDepth 20000 in
theorem ggX7_tailFrom_X7_is : GoodIn wsX7_tailFrom wsX7_is := goodIn_r _ [6, 7, 8, 9, 10, 11, 12, 13, 14, 15, 16] (by decide +kernel) (by decide +kernel)
set_option maxRecDepth 20000 in
theorem gX7_tailFrom_X7_is : GoodIn wsX7_tailFrom (wsV RX7 71 RX7 yX7_is wsX7_is) := goodIn_app (goodIn_of _ (by decide +kernel)) ggX7_tailFrom_X7_is
theorem dX7_tailFrom_0 : decode cX7_tailFrom 0 = .ok (.aload_n 0, 1) := by decide +kernel
theorem dX7_tailFrom_1 : decode cX7_tailFrom 1 = .ok (.iload_n 1, 1) := by decide +kernel
theorem dX7_tailFrom_2 : decode cX7_tailFrom 2 = .ok (.invokevirtual 71, 3) := by decide +kernel
theorem dX7_tailFrom_5 : decode cX7_tailFrom 5 = .ok (.ifCond .eq 12, 3) := by decide +kernel
theorem dX7_tailFrom_8 : decode cX7_tailFrom 8 = .ok (.aload_n 0, 1) := by decide +kernel
theorem dX7_tailFrom_9 : decode cX7_tailFrom 9 = .ok (.getfield 22, 3) := by decide +kernel
theorem dX7_tailFrom_12 : decode cX7_tailFrom 12 = .ok (.iload_n 1, 1) := by decide +kernel
theorem dX7_tailFrom_13 : decode cX7_tailFrom 13 = .ok (.iaload, 1) := by decide +kernel
theorem dX7_tailFrom_14 : decode cX7_tailFrom 14 = .ok (.goto 4, 3) := by decide +kernel
theorem dX7_tailFrom_17 : decode cX7_tailFrom 17 = .ok (.iconst 0, 1) := by decide +kernel
theorem dX7_tailFrom_18 : decode cX7_tailFrom 18 = .ok (.ireturn, 1) := by decide +kernel
set_option maxRecDepth 20000 in
theorem ggX7_numberOf_X7_is : GoodIn wsX7_numberOf wsX7_is := goodIn_r _ [6, 7, 8, 9, 10, 11, 12, 13, 14, 15, 16] (by decide +kernel) (by decide +kernel)
set_option maxRecDepth 20000 in
theorem gX7_numberOf_X7_is : GoodIn wsX7_numberOf (wsV RX7 71 RX7 yX7_is wsX7_is) := goodIn_app (goodIn_of _ (by decide +kernel)) ggX7_numberOf_X7_is
theorem dX7_numberOf_0 : decode cX7_numberOf 0 = .ok (.iconst 0, 1) := by decide +kernel
theorem dX7_numberOf_1 : decode cX7_numberOf 1 = .ok (.istore_n 2, 1) := by decide +kernel
theorem dX7_numberOf_2 : decode cX7_numberOf 2 = .ok (.iconst 0, 1) := by decide +kernel
theorem dX7_numberOf_3 : decode cX7_numberOf 3 = .ok (.istore_n 3, 1) := by decide +kernel
theorem dX7_numberOf_4 : decode cX7_numberOf 4 = .ok (.iload_n 3, 1) := by decide +kernel
theorem dX7_numberOf_5 : decode cX7_numberOf 5 = .ok (.iload_n 1, 1) := by decide +kernel
theorem dX7_numberOf_6 : decode cX7_numberOf 6 = .ok (.if_icmp .ge 30, 3) := by decide +kernel
theorem dX7_numberOf_9 : decode cX7_numberOf 9 = .ok (.aload_n 0, 1) := by decide +kernel
theorem dX7_numberOf_10 : decode cX7_numberOf 10 = .ok (.iload_n 3, 1) := by decide +kernel
theorem dX7_numberOf_11 : decode cX7_numberOf 11 = .ok (.invokevirtual 71, 3) := by decide +kernel
theorem dX7_numberOf_14 : decode cX7_numberOf 14 = .ok (.ifCond .eq 22, 3) := by decide +kernel
theorem dX7_numberOf_17 : decode cX7_numberOf 17 = .ok (.aload_n 0, 1) := by decide +kernel
theorem dX7_numberOf_18 : decode cX7_numberOf 18 = .ok (.getfield 25, 3) := by decide +kernel
theorem dX7_numberOf_21 : decode cX7_numberOf 21 = .ok (.iload_n 3, 1) := by decide +kernel
theorem dX7_numberOf_22 : decode cX7_numberOf 22 = .ok (.iaload, 1) := by decide +kernel
theorem dX7_numberOf_23 : decode cX7_numberOf 23 = .ok (.iload_n 3, 1) := by decide +kernel
theorem dX7_numberOf_24 : decode cX7_numberOf 24 = .ok (.if_icmp .ne 6, 3) := by decide +kernel
theorem dX7_numberOf_27 : decode cX7_numberOf 27 = .ok (.iinc 2 1, 3) := by decide +kernel
theorem dX7_numberOf_30 : decode cX7_numberOf 30 = .ok (.iinc 3 1, 3) := by decide +kernel
theorem dX7_numberOf_33 : decode cX7_numberOf 33 = .ok (.goto (-29), 3) := by decide +kernel
theorem dX7_numberOf_36 : decode cX7_numberOf 36 = .ok (.iload_n 2, 1) := by decide +kernel
theorem dX7_numberOf_37 : decode cX7_numberOf 37 = .ok (.ireturn, 1) := by decide +kernel
set_option maxRecDepth 20000 in
theorem ggX7_cycleNumbered_X7_is : GoodIn wsX7_cycleNumbered wsX7_is := goodIn_r _ [7, 1, 8, 9, 10, 11, 12, 13, 14, 15, 16] (by decide +kernel) (by decide +kernel)
set_option maxRecDepth 20000 in
theorem gX7_cycleNumbered_X7_is : GoodIn wsX7_cycleNumbered (wsV RX7 71 RX7 yX7_is wsX7_is) := goodIn_app (goodIn_of _ (by decide +kernel)) ggX7_cycleNumbered_X7_is
theorem dX7_cycleNumbered_0 : decode cX7_cycleNumbered 0 = .ok (.iconst (-1), 1) := by decide +kernel
theorem dX7_cycleNumbered_1 : decode cX7_cycleNumbered 1 = .ok (.istore_n 2, 1) := by decide +kernel
theorem dX7_cycleNumbered_2 : decode cX7_cycleNumbered 2 = .ok (.iconst 0, 1) := by decide +kernel
theorem dX7_cycleNumbered_3 : decode cX7_cycleNumbered 3 = .ok (.istore_n 3, 1) := by decide +kernel
theorem dX7_cycleNumbered_4 : decode cX7_cycleNumbered 4 = .ok (.iload_n 3, 1) := by decide +kernel
theorem dX7_cycleNumbered_5 : decode cX7_cycleNumbered 5 = .ok (.aload_n 0, 1) := by decide +kernel
theorem dX7_cycleNumbered_6 : decode cX7_cycleNumbered 6 = .ok (.getfield 28, 3) := by decide +kernel
theorem dX7_cycleNumbered_9 : decode cX7_cycleNumbered 9 = .ok (.if_icmp .ge 37, 3) := by decide +kernel
theorem dX7_cycleNumbered_12 : decode cX7_cycleNumbered 12 = .ok (.aload_n 0, 1) := by decide +kernel
theorem dX7_cycleNumbered_13 : decode cX7_cycleNumbered 13 = .ok (.iload_n 3, 1) := by decide +kernel
theorem dX7_cycleNumbered_14 : decode cX7_cycleNumbered 14 = .ok (.invokevirtual 71, 3) := by decide +kernel
theorem dX7_cycleNumbered_17 : decode cX7_cycleNumbered 17 = .ok (.ifCond .eq 29, 3) := by decide +kernel
theorem dX7_cycleNumbered_20 : decode cX7_cycleNumbered 20 = .ok (.aload_n 0, 1) := by decide +kernel
theorem dX7_cycleNumbered_21 : decode cX7_cycleNumbered 21 = .ok (.getfield 25, 3) := by decide +kernel
theorem dX7_cycleNumbered_24 : decode cX7_cycleNumbered 24 = .ok (.iload_n 3, 1) := by decide +kernel
theorem dX7_cycleNumbered_25 : decode cX7_cycleNumbered 25 = .ok (.iaload, 1) := by decide +kernel
theorem dX7_cycleNumbered_26 : decode cX7_cycleNumbered 26 = .ok (.iload_n 3, 1) := by decide +kernel
theorem dX7_cycleNumbered_27 : decode cX7_cycleNumbered 27 = .ok (.if_icmp .ne 13, 3) := by decide +kernel
theorem dX7_cycleNumbered_30 : decode cX7_cycleNumbered 30 = .ok (.iinc 2 1, 3) := by decide +kernel
theorem dX7_cycleNumbered_33 : decode cX7_cycleNumbered 33 = .ok (.iload_n 2, 1) := by decide +kernel
theorem dX7_cycleNumbered_34 : decode cX7_cycleNumbered 34 = .ok (.iload_n 1, 1) := by decide +kernel
theorem dX7_cycleNumbered_35 : decode cX7_cycleNumbered 35 = .ok (.if_icmp .ne 5, 3) := by decide +kernel
theorem dX7_cycleNumbered_38 : decode cX7_cycleNumbered 38 = .ok (.iload_n 3, 1) := by decide +kernel
theorem dX7_cycleNumbered_39 : decode cX7_cycleNumbered 39 = .ok (.ireturn, 1) := by decide +kernel
theorem dX7_cycleNumbered_40 : decode cX7_cycleNumbered 40 = .ok (.iinc 3 1, 3) := by decide +kernel
theorem dX7_cycleNumbered_43 : decode cX7_cycleNumbered 43 = .ok (.goto (-39), 3) := by decide +kernel
theorem dX7_cycleNumbered_46 : decode cX7_cycleNumbered 46 = .ok (.iconst (-1), 1) := by decide +kernel
theorem dX7_cycleNumbered_47 : decode cX7_cycleNumbered 47 = .ok (.ireturn, 1) := by decide +kernel
set_option maxRecDepth 20000 in
theorem ggX7_periodOf_X7_isOnCycle : GoodIn wsX7_periodOf wsX7_isOnCycle := goodIn_r _ [7, 2, 8, 9, 10, 11, 6, 12, 1, 13, 14, 15, 16, 17, 18, 19, 20, 21] (by decide +kernel) (by decide +kernel)
set_option maxRecDepth 20000 in
theorem gX7_periodOf_X7_isOnCycle : GoodIn wsX7_periodOf (wsV RX7 103 RX7 yX7_isOnCycle wsX7_isOnCycle) := goodIn_app (goodIn_of _ (by decide +kernel)) ggX7_periodOf_X7_isOnCycle
theorem dX7_periodOf_0 : decode cX7_periodOf 0 = .ok (.iconst 0, 1) := by decide +kernel
theorem dX7_periodOf_1 : decode cX7_periodOf 1 = .ok (.istore_n 2, 1) := by decide +kernel
theorem dX7_periodOf_2 : decode cX7_periodOf 2 = .ok (.iconst 0, 1) := by decide +kernel
theorem dX7_periodOf_3 : decode cX7_periodOf 3 = .ok (.istore_n 3, 1) := by decide +kernel
theorem dX7_periodOf_4 : decode cX7_periodOf 4 = .ok (.iload_n 3, 1) := by decide +kernel
theorem dX7_periodOf_5 : decode cX7_periodOf 5 = .ok (.aload_n 0, 1) := by decide +kernel
theorem dX7_periodOf_6 : decode cX7_periodOf 6 = .ok (.getfield 28, 3) := by decide +kernel
theorem dX7_periodOf_9 : decode cX7_periodOf 9 = .ok (.if_icmp .ge 30, 3) := by decide +kernel
theorem dX7_periodOf_12 : decode cX7_periodOf 12 = .ok (.aload_n 0, 1) := by decide +kernel
theorem dX7_periodOf_13 : decode cX7_periodOf 13 = .ok (.iload_n 3, 1) := by decide +kernel
theorem dX7_periodOf_14 : decode cX7_periodOf 14 = .ok (.invokevirtual 103, 3) := by decide +kernel
theorem dX7_periodOf_17 : decode cX7_periodOf 17 = .ok (.ifCond .eq 16, 3) := by decide +kernel
theorem dX7_periodOf_20 : decode cX7_periodOf 20 = .ok (.aload_n 0, 1) := by decide +kernel
theorem dX7_periodOf_21 : decode cX7_periodOf 21 = .ok (.getfield 25, 3) := by decide +kernel
theorem dX7_periodOf_24 : decode cX7_periodOf 24 = .ok (.iload_n 3, 1) := by decide +kernel
theorem dX7_periodOf_25 : decode cX7_periodOf 25 = .ok (.iaload, 1) := by decide +kernel
theorem dX7_periodOf_26 : decode cX7_periodOf 26 = .ok (.iload_n 1, 1) := by decide +kernel
theorem dX7_periodOf_27 : decode cX7_periodOf 27 = .ok (.if_icmp .ne 6, 3) := by decide +kernel
theorem dX7_periodOf_30 : decode cX7_periodOf 30 = .ok (.iinc 2 1, 3) := by decide +kernel
theorem dX7_periodOf_33 : decode cX7_periodOf 33 = .ok (.iinc 3 1, 3) := by decide +kernel
theorem dX7_periodOf_36 : decode cX7_periodOf 36 = .ok (.goto (-32), 3) := by decide +kernel
theorem dX7_periodOf_39 : decode cX7_periodOf 39 = .ok (.iload_n 2, 1) := by decide +kernel
theorem dX7_periodOf_40 : decode cX7_periodOf 40 = .ok (.ireturn, 1) := by decide +kernel
set_option maxRecDepth 20000 in
theorem ggX7_amplitudeOf_X7_isOnCycle : GoodIn wsX7_amplitudeOf wsX7_isOnCycle := goodIn_r _ [15, 2, 16, 17, 18, 19, 14, 20, 1, 31, 32, 33, 34, 35, 36, 37, 38, 39] (by decide +kernel) (by decide +kernel)
set_option maxRecDepth 20000 in
theorem gX7_amplitudeOf_X7_isOnCycle : GoodIn wsX7_amplitudeOf (wsV RX7 103 RX7 yX7_isOnCycle wsX7_isOnCycle) := goodIn_app (goodIn_of _ (by decide +kernel)) ggX7_amplitudeOf_X7_isOnCycle
set_option maxRecDepth 20000 in
theorem ggX7_amplitudeOf_X3_latestIn : GoodIn wsX7_amplitudeOf wsX3_latestIn := goodIn_r _ [25, 26, 27, 28, 29, 24, 30, 40, 41, 42, 43, 44, 45, 46, 47, 48] (by decide +kernel) (by decide +kernel)
set_option maxRecDepth 20000 in
theorem gX7_amplitudeOf_X3_latestIn : GoodIn wsX7_amplitudeOf (wsV RX7 94 RX3 yX3_latestIn wsX3_latestIn) := goodIn_app (goodIn_of _ (by decide +kernel)) ggX7_amplitudeOf_X3_latestIn
theorem dX7_amplitudeOf_0 : decode cX7_amplitudeOf 0 = .ok (.iconst 0, 1) := by decide +kernel
theorem dX7_amplitudeOf_1 : decode cX7_amplitudeOf 1 = .ok (.istore_n 2, 1) := by decide +kernel
theorem dX7_amplitudeOf_2 : decode cX7_amplitudeOf 2 = .ok (.iconst 0, 1) := by decide +kernel
theorem dX7_amplitudeOf_3 : decode cX7_amplitudeOf 3 = .ok (.istore_n 3, 1) := by decide +kernel
theorem dX7_amplitudeOf_4 : decode cX7_amplitudeOf 4 = .ok (.iload_n 3, 1) := by decide +kernel
theorem dX7_amplitudeOf_5 : decode cX7_amplitudeOf 5 = .ok (.aload_n 0, 1) := by decide +kernel
theorem dX7_amplitudeOf_6 : decode cX7_amplitudeOf 6 = .ok (.getfield 28, 3) := by decide +kernel
theorem dX7_amplitudeOf_9 : decode cX7_amplitudeOf 9 = .ok (.if_icmp .ge 43, 3) := by decide +kernel
theorem dX7_amplitudeOf_12 : decode cX7_amplitudeOf 12 = .ok (.aload_n 0, 1) := by decide +kernel
theorem dX7_amplitudeOf_13 : decode cX7_amplitudeOf 13 = .ok (.iload_n 3, 1) := by decide +kernel
theorem dX7_amplitudeOf_14 : decode cX7_amplitudeOf 14 = .ok (.invokevirtual 103, 3) := by decide +kernel
theorem dX7_amplitudeOf_17 : decode cX7_amplitudeOf 17 = .ok (.ifCond .eq 29, 3) := by decide +kernel
theorem dX7_amplitudeOf_20 : decode cX7_amplitudeOf 20 = .ok (.aload_n 0, 1) := by decide +kernel
theorem dX7_amplitudeOf_21 : decode cX7_amplitudeOf 21 = .ok (.getfield 25, 3) := by decide +kernel
theorem dX7_amplitudeOf_24 : decode cX7_amplitudeOf 24 = .ok (.iload_n 3, 1) := by decide +kernel
theorem dX7_amplitudeOf_25 : decode cX7_amplitudeOf 25 = .ok (.iaload, 1) := by decide +kernel
theorem dX7_amplitudeOf_26 : decode cX7_amplitudeOf 26 = .ok (.iload_n 1, 1) := by decide +kernel
theorem dX7_amplitudeOf_27 : decode cX7_amplitudeOf 27 = .ok (.if_icmp .ne 19, 3) := by decide +kernel
theorem dX7_amplitudeOf_30 : decode cX7_amplitudeOf 30 = .ok (.iload_n 2, 1) := by decide +kernel
theorem dX7_amplitudeOf_31 : decode cX7_amplitudeOf 31 = .ok (.aload_n 0, 1) := by decide +kernel
theorem dX7_amplitudeOf_32 : decode cX7_amplitudeOf 32 = .ok (.getfield 12, 3) := by decide +kernel
theorem dX7_amplitudeOf_35 : decode cX7_amplitudeOf 35 = .ok (.iload_n 3, 1) := by decide +kernel
theorem dX7_amplitudeOf_36 : decode cX7_amplitudeOf 36 = .ok (.invokevirtual 94, 3) := by decide +kernel
theorem dX7_amplitudeOf_39 : decode cX7_amplitudeOf 39 = .ok (.invokestatic 97, 3) := by decide +kernel
theorem dX7_amplitudeOf_42 : decode cX7_amplitudeOf 42 = .ok (.invokestatic 100, 3) := by decide +kernel
theorem dX7_amplitudeOf_45 : decode cX7_amplitudeOf 45 = .ok (.istore_n 2, 1) := by decide +kernel
theorem dX7_amplitudeOf_46 : decode cX7_amplitudeOf 46 = .ok (.iinc 3 1, 3) := by decide +kernel
theorem dX7_amplitudeOf_49 : decode cX7_amplitudeOf 49 = .ok (.goto (-45), 3) := by decide +kernel
theorem dX7_amplitudeOf_52 : decode cX7_amplitudeOf 52 = .ok (.iload_n 2, 1) := by decide +kernel
theorem dX7_amplitudeOf_53 : decode cX7_amplitudeOf 53 = .ok (.ireturn, 1) := by decide +kernel
set_option maxRecDepth 20000 in
theorem ggX7_basinOf_X7_is : GoodIn wsX7_basinOf wsX7_is := goodIn_r _ [7, 1, 8, 9, 10, 11, 12, 13, 14, 15, 16] (by decide +kernel) (by decide +kernel)
set_option maxRecDepth 20000 in
theorem gX7_basinOf_X7_is : GoodIn wsX7_basinOf (wsV RX7 71 RX7 yX7_is wsX7_is) := goodIn_app (goodIn_of _ (by decide +kernel)) ggX7_basinOf_X7_is
theorem dX7_basinOf_0 : decode cX7_basinOf 0 = .ok (.iconst 0, 1) := by decide +kernel
theorem dX7_basinOf_1 : decode cX7_basinOf 1 = .ok (.istore_n 2, 1) := by decide +kernel
theorem dX7_basinOf_2 : decode cX7_basinOf 2 = .ok (.iconst 0, 1) := by decide +kernel
theorem dX7_basinOf_3 : decode cX7_basinOf 3 = .ok (.istore_n 3, 1) := by decide +kernel
theorem dX7_basinOf_4 : decode cX7_basinOf 4 = .ok (.iload_n 3, 1) := by decide +kernel
theorem dX7_basinOf_5 : decode cX7_basinOf 5 = .ok (.aload_n 0, 1) := by decide +kernel
theorem dX7_basinOf_6 : decode cX7_basinOf 6 = .ok (.getfield 28, 3) := by decide +kernel
theorem dX7_basinOf_9 : decode cX7_basinOf 9 = .ok (.if_icmp .ge 30, 3) := by decide +kernel
theorem dX7_basinOf_12 : decode cX7_basinOf 12 = .ok (.aload_n 0, 1) := by decide +kernel
theorem dX7_basinOf_13 : decode cX7_basinOf 13 = .ok (.iload_n 3, 1) := by decide +kernel
theorem dX7_basinOf_14 : decode cX7_basinOf 14 = .ok (.invokevirtual 71, 3) := by decide +kernel
theorem dX7_basinOf_17 : decode cX7_basinOf 17 = .ok (.ifCond .eq 22, 3) := by decide +kernel
theorem dX7_basinOf_20 : decode cX7_basinOf 20 = .ok (.aload_n 0, 1) := by decide +kernel
theorem dX7_basinOf_21 : decode cX7_basinOf 21 = .ok (.getfield 25, 3) := by decide +kernel
theorem dX7_basinOf_24 : decode cX7_basinOf 24 = .ok (.iload_n 3, 1) := by decide +kernel
theorem dX7_basinOf_25 : decode cX7_basinOf 25 = .ok (.iaload, 1) := by decide +kernel
theorem dX7_basinOf_26 : decode cX7_basinOf 26 = .ok (.iload_n 1, 1) := by decide +kernel
theorem dX7_basinOf_27 : decode cX7_basinOf 27 = .ok (.if_icmp .ne 6, 3) := by decide +kernel
theorem dX7_basinOf_30 : decode cX7_basinOf 30 = .ok (.iinc 2 1, 3) := by decide +kernel
theorem dX7_basinOf_33 : decode cX7_basinOf 33 = .ok (.iinc 3 1, 3) := by decide +kernel
theorem dX7_basinOf_36 : decode cX7_basinOf 36 = .ok (.goto (-32), 3) := by decide +kernel
theorem dX7_basinOf_39 : decode cX7_basinOf 39 = .ok (.iload_n 2, 1) := by decide +kernel
theorem dX7_basinOf_40 : decode cX7_basinOf 40 = .ok (.ireturn, 1) := by decide +kernel
set_option maxRecDepth 20000 in
theorem ggX7_behindOnCycle_X7_periodOf : GoodIn wsX7_behindOnCycle wsX7_periodOf := goodIn_r _ [6, 7, 8, 9, 10, 11, 5, 12, 13, 14, 15, 16, 17, 18, 19, 20, 21, 22, 23, 24, 25, 26] (by decide +kernel) (by decide +kernel)
set_option maxRecDepth 20000 in
theorem gX7_behindOnCycle_X7_periodOf : GoodIn wsX7_behindOnCycle (wsV RX7 106 RX7 yX7_periodOf wsX7_periodOf) := goodIn_app (goodIn_of _ (by decide +kernel)) ggX7_behindOnCycle_X7_periodOf
set_option maxRecDepth 20000 in
theorem ggX7_behindOnCycle_X7_is : GoodIn wsX7_behindOnCycle wsX7_is := goodIn_r _ [17, 7, 18, 19, 20, 21, 22, 23, 24, 25, 26] (by decide +kernel) (by decide +kernel)
set_option maxRecDepth 20000 in
theorem gX7_behindOnCycle_X7_is : GoodIn wsX7_behindOnCycle (wsV RX7 71 RX7 yX7_is wsX7_is) := goodIn_app (goodIn_of _ (by decide +kernel)) ggX7_behindOnCycle_X7_is
theorem dX7_behindOnCycle_0 : decode cX7_behindOnCycle 0 = .ok (.aload_n 0, 1) := by decide +kernel
theorem dX7_behindOnCycle_1 : decode cX7_behindOnCycle 1 = .ok (.iload_n 1, 1) := by decide +kernel
theorem dX7_behindOnCycle_2 : decode cX7_behindOnCycle 2 = .ok (.invokevirtual 106, 3) := by decide +kernel
theorem dX7_behindOnCycle_5 : decode cX7_behindOnCycle 5 = .ok (.istore_n 3, 1) := by decide +kernel
theorem dX7_behindOnCycle_6 : decode cX7_behindOnCycle 6 = .ok (.iload_n 3, 1) := by decide +kernel
theorem dX7_behindOnCycle_7 : decode cX7_behindOnCycle 7 = .ok (.ifCond .le 9, 3) := by decide +kernel
theorem dX7_behindOnCycle_10 : decode cX7_behindOnCycle 10 = .ok (.iload_n 2, 1) := by decide +kernel
theorem dX7_behindOnCycle_11 : decode cX7_behindOnCycle 11 = .ok (.iload_n 3, 1) := by decide +kernel
theorem dX7_behindOnCycle_12 : decode cX7_behindOnCycle 12 = .ok (.irem, 1) := by decide +kernel
theorem dX7_behindOnCycle_13 : decode cX7_behindOnCycle 13 = .ok (.goto 4, 3) := by decide +kernel
theorem dX7_behindOnCycle_16 : decode cX7_behindOnCycle 16 = .ok (.iconst 0, 1) := by decide +kernel
theorem dX7_behindOnCycle_17 : decode cX7_behindOnCycle 17 = .ok (.istore 4, 2) := by decide +kernel
theorem dX7_behindOnCycle_19 : decode cX7_behindOnCycle 19 = .ok (.iload_n 1, 1) := by decide +kernel
theorem dX7_behindOnCycle_20 : decode cX7_behindOnCycle 20 = .ok (.istore 5, 2) := by decide +kernel
theorem dX7_behindOnCycle_22 : decode cX7_behindOnCycle 22 = .ok (.iconst 0, 1) := by decide +kernel
theorem dX7_behindOnCycle_23 : decode cX7_behindOnCycle 23 = .ok (.istore 6, 2) := by decide +kernel
theorem dX7_behindOnCycle_25 : decode cX7_behindOnCycle 25 = .ok (.iload 6, 2) := by decide +kernel
theorem dX7_behindOnCycle_27 : decode cX7_behindOnCycle 27 = .ok (.iload 4, 2) := by decide +kernel
theorem dX7_behindOnCycle_29 : decode cX7_behindOnCycle 29 = .ok (.if_icmp .ge 27, 3) := by decide +kernel
theorem dX7_behindOnCycle_32 : decode cX7_behindOnCycle 32 = .ok (.aload_n 0, 1) := by decide +kernel
theorem dX7_behindOnCycle_33 : decode cX7_behindOnCycle 33 = .ok (.iload 5, 2) := by decide +kernel
theorem dX7_behindOnCycle_35 : decode cX7_behindOnCycle 35 = .ok (.invokevirtual 71, 3) := by decide +kernel
theorem dX7_behindOnCycle_38 : decode cX7_behindOnCycle 38 = .ok (.ifCond .eq 18, 3) := by decide +kernel
theorem dX7_behindOnCycle_41 : decode cX7_behindOnCycle 41 = .ok (.aload_n 0, 1) := by decide +kernel
theorem dX7_behindOnCycle_42 : decode cX7_behindOnCycle 42 = .ok (.getfield 18, 3) := by decide +kernel
theorem dX7_behindOnCycle_45 : decode cX7_behindOnCycle 45 = .ok (.iload 5, 2) := by decide +kernel
theorem dX7_behindOnCycle_47 : decode cX7_behindOnCycle 47 = .ok (.iaload, 1) := by decide +kernel
theorem dX7_behindOnCycle_48 : decode cX7_behindOnCycle 48 = .ok (.istore 5, 2) := by decide +kernel
theorem dX7_behindOnCycle_50 : decode cX7_behindOnCycle 50 = .ok (.iinc 6 1, 3) := by decide +kernel
theorem dX7_behindOnCycle_53 : decode cX7_behindOnCycle 53 = .ok (.goto (-28), 3) := by decide +kernel
theorem dX7_behindOnCycle_56 : decode cX7_behindOnCycle 56 = .ok (.iload 5, 2) := by decide +kernel
theorem dX7_behindOnCycle_58 : decode cX7_behindOnCycle 58 = .ok (.ireturn, 1) := by decide +kernel
set_option maxRecDepth 20000 in
theorem ggX7_longestTail_X7_is : GoodIn wsX7_longestTail wsX7_is := goodIn_r _ [12, 1, 13, 14, 15, 16, 17, 18, 19, 20, 21] (by decide +kernel) (by decide +kernel)
set_option maxRecDepth 20000 in
theorem gX7_longestTail_X7_is : GoodIn wsX7_longestTail (wsV RX7 71 RX7 yX7_is wsX7_is) := goodIn_app (goodIn_of _ (by decide +kernel)) ggX7_longestTail_X7_is
theorem dX7_longestTail_0 : decode cX7_longestTail 0 = .ok (.iconst 0, 1) := by decide +kernel
theorem dX7_longestTail_1 : decode cX7_longestTail 1 = .ok (.istore_n 1, 1) := by decide +kernel
theorem dX7_longestTail_2 : decode cX7_longestTail 2 = .ok (.iconst 0, 1) := by decide +kernel
theorem dX7_longestTail_3 : decode cX7_longestTail 3 = .ok (.istore_n 2, 1) := by decide +kernel
theorem dX7_longestTail_4 : decode cX7_longestTail 4 = .ok (.iload_n 2, 1) := by decide +kernel
theorem dX7_longestTail_5 : decode cX7_longestTail 5 = .ok (.aload_n 0, 1) := by decide +kernel
theorem dX7_longestTail_6 : decode cX7_longestTail 6 = .ok (.getfield 28, 3) := by decide +kernel
theorem dX7_longestTail_9 : decode cX7_longestTail 9 = .ok (.if_icmp .ge 38, 3) := by decide +kernel
theorem dX7_longestTail_12 : decode cX7_longestTail 12 = .ok (.aload_n 0, 1) := by decide +kernel
theorem dX7_longestTail_13 : decode cX7_longestTail 13 = .ok (.iload_n 2, 1) := by decide +kernel
theorem dX7_longestTail_14 : decode cX7_longestTail 14 = .ok (.invokevirtual 71, 3) := by decide +kernel
theorem dX7_longestTail_17 : decode cX7_longestTail 17 = .ok (.ifCond .eq 30, 3) := by decide +kernel
theorem dX7_longestTail_20 : decode cX7_longestTail 20 = .ok (.aload_n 0, 1) := by decide +kernel
theorem dX7_longestTail_21 : decode cX7_longestTail 21 = .ok (.getfield 25, 3) := by decide +kernel
theorem dX7_longestTail_24 : decode cX7_longestTail 24 = .ok (.iload_n 2, 1) := by decide +kernel
theorem dX7_longestTail_25 : decode cX7_longestTail 25 = .ok (.iaload, 1) := by decide +kernel
theorem dX7_longestTail_26 : decode cX7_longestTail 26 = .ok (.iconst (-1), 1) := by decide +kernel
theorem dX7_longestTail_27 : decode cX7_longestTail 27 = .ok (.if_icmp .eq 14, 3) := by decide +kernel
theorem dX7_longestTail_30 : decode cX7_longestTail 30 = .ok (.iload_n 1, 1) := by decide +kernel
theorem dX7_longestTail_31 : decode cX7_longestTail 31 = .ok (.aload_n 0, 1) := by decide +kernel
theorem dX7_longestTail_32 : decode cX7_longestTail 32 = .ok (.getfield 22, 3) := by decide +kernel
theorem dX7_longestTail_35 : decode cX7_longestTail 35 = .ok (.iload_n 2, 1) := by decide +kernel
theorem dX7_longestTail_36 : decode cX7_longestTail 36 = .ok (.iaload, 1) := by decide +kernel
theorem dX7_longestTail_37 : decode cX7_longestTail 37 = .ok (.invokestatic 100, 3) := by decide +kernel
theorem dX7_longestTail_40 : decode cX7_longestTail 40 = .ok (.istore_n 1, 1) := by decide +kernel
theorem dX7_longestTail_41 : decode cX7_longestTail 41 = .ok (.iinc 2 1, 3) := by decide +kernel
theorem dX7_longestTail_44 : decode cX7_longestTail 44 = .ok (.goto (-40), 3) := by decide +kernel
theorem dX7_longestTail_47 : decode cX7_longestTail 47 = .ok (.iload_n 1, 1) := by decide +kernel
theorem dX7_longestTail_48 : decode cX7_longestTail 48 = .ok (.ireturn, 1) := by decide +kernel
theorem dX7_loudestOfAll_0 : decode cX7_loudestOfAll 0 = .ok (.aload_n 0, 1) := by decide +kernel
theorem dX7_loudestOfAll_1 : decode cX7_loudestOfAll 1 = .ok (.getfield 42, 3) := by decide +kernel
theorem dX7_loudestOfAll_4 : decode cX7_loudestOfAll 4 = .ok (.ifCond .ge 8, 3) := by decide +kernel
theorem dX7_loudestOfAll_7 : decode cX7_loudestOfAll 7 = .ok (.bipush 99, 2) := by decide +kernel
theorem dX7_loudestOfAll_9 : decode cX7_loudestOfAll 9 = .ok (.goto 7, 3) := by decide +kernel
theorem dX7_loudestOfAll_12 : decode cX7_loudestOfAll 12 = .ok (.aload_n 0, 1) := by decide +kernel
theorem dX7_loudestOfAll_13 : decode cX7_loudestOfAll 13 = .ok (.getfield 42, 3) := by decide +kernel
theorem dX7_loudestOfAll_16 : decode cX7_loudestOfAll 16 = .ok (.ireturn, 1) := by decide +kernel
set_option maxRecDepth 20000 in
theorem ggX7_howManyOnCycles_X7_isOnCycle : GoodIn wsX7_howManyOnCycles wsX7_isOnCycle := goodIn_r _ [6, 7, 8, 9, 10, 11, 5, 12, 1, 13, 14, 15, 16, 17, 18, 19, 20, 21] (by decide +kernel) (by decide +kernel)
set_option maxRecDepth 20000 in
theorem gX7_howManyOnCycles_X7_isOnCycle : GoodIn wsX7_howManyOnCycles (wsV RX7 103 RX7 yX7_isOnCycle wsX7_isOnCycle) := goodIn_app (goodIn_of _ (by decide +kernel)) ggX7_howManyOnCycles_X7_isOnCycle
theorem dX7_howManyOnCycles_0 : decode cX7_howManyOnCycles 0 = .ok (.iconst 0, 1) := by decide +kernel
theorem dX7_howManyOnCycles_1 : decode cX7_howManyOnCycles 1 = .ok (.istore_n 1, 1) := by decide +kernel
theorem dX7_howManyOnCycles_2 : decode cX7_howManyOnCycles 2 = .ok (.iconst 0, 1) := by decide +kernel
theorem dX7_howManyOnCycles_3 : decode cX7_howManyOnCycles 3 = .ok (.istore_n 2, 1) := by decide +kernel
theorem dX7_howManyOnCycles_4 : decode cX7_howManyOnCycles 4 = .ok (.iload_n 2, 1) := by decide +kernel
theorem dX7_howManyOnCycles_5 : decode cX7_howManyOnCycles 5 = .ok (.aload_n 0, 1) := by decide +kernel
theorem dX7_howManyOnCycles_6 : decode cX7_howManyOnCycles 6 = .ok (.getfield 28, 3) := by decide +kernel
theorem dX7_howManyOnCycles_9 : decode cX7_howManyOnCycles 9 = .ok (.if_icmp .ge 20, 3) := by decide +kernel
theorem dX7_howManyOnCycles_12 : decode cX7_howManyOnCycles 12 = .ok (.aload_n 0, 1) := by decide +kernel
theorem dX7_howManyOnCycles_13 : decode cX7_howManyOnCycles 13 = .ok (.iload_n 2, 1) := by decide +kernel
theorem dX7_howManyOnCycles_14 : decode cX7_howManyOnCycles 14 = .ok (.invokevirtual 103, 3) := by decide +kernel
theorem dX7_howManyOnCycles_17 : decode cX7_howManyOnCycles 17 = .ok (.ifCond .eq 6, 3) := by decide +kernel
theorem dX7_howManyOnCycles_20 : decode cX7_howManyOnCycles 20 = .ok (.iinc 1 1, 3) := by decide +kernel
theorem dX7_howManyOnCycles_23 : decode cX7_howManyOnCycles 23 = .ok (.iinc 2 1, 3) := by decide +kernel
theorem dX7_howManyOnCycles_26 : decode cX7_howManyOnCycles 26 = .ok (.goto (-22), 3) := by decide +kernel
theorem dX7_howManyOnCycles_29 : decode cX7_howManyOnCycles 29 = .ok (.iload_n 1, 1) := by decide +kernel
theorem dX7_howManyOnCycles_30 : decode cX7_howManyOnCycles 30 = .ok (.ireturn, 1) := by decide +kernel
set_option maxRecDepth 20000 in
theorem ggX8_init_X3_init : GoodIn wsX8_init wsX3_init := goodIn_r _ [45, 46, 2, 3, 39, 47, 48, 49, 50, 51, 52, 53, 54, 55, 128, 129, 130, 131, 132, 133, 134, 135, 136] (by decide +kernel) (by decide +kernel)
set_option maxRecDepth 20000 in
theorem gX8_init_X3_init : GoodIn wsX8_init (wsX3_init) := ggX8_init_X3_init
set_option maxRecDepth 20000 in
theorem ggX8_init_X7_init : GoodIn wsX8_init wsX7_init := goodIn_r _ [58, 59, 2, 3, 60, 5, 6, 61, 39, 62, 63, 64, 65, 66, 67, 68, 69, 70, 44, 45, 46, 47, 48, 49, 50, 51, 52, 53, 54, 55, 128, 129, 130, 131, 132, 133, 134, 135, 136, 151, 152, 153, 154, 155, 156, 157, 158, 159] (by decide +kernel) (by decide +kernel)
set_option maxRecDepth 20000 in
theorem gX8_init_X7_init : GoodIn wsX8_init (wsX7_init) := ggX8_init_X7_init
set_option maxRecDepth 20000 in
theorem ggX8_init_X5_init : GoodIn wsX8_init wsX5_init := goodIn_r _ [73, 74, 2, 3, 39, 75, 76, 77, 78, 79, 160, 161, 162, 163] (by decide +kernel) (by decide +kernel)
set_option maxRecDepth 20000 in
theorem gX8_init_X5_init : GoodIn wsX8_init (wsX5_init) := ggX8_init_X5_init
set_option maxRecDepth 20000 in
theorem ggX8_init_X2_init : GoodIn wsX8_init wsX2_init := goodIn_r _ [82, 83, 2, 3, 39, 84, 85, 86, 87, 88, 89, 164, 165, 166, 167, 168, 169] (by decide +kernel) (by decide +kernel)
set_option maxRecDepth 20000 in
theorem gX8_init_X2_init : GoodIn wsX8_init (wsX2_init) := ggX8_init_X2_init
set_option maxRecDepth 20000 in
theorem ggX8_init_X4_init : GoodIn wsX8_init wsX4_init := goodIn_r _ [92, 93, 2, 3, 94, 95, 96, 97, 170, 171, 172] (by decide +kernel) (by decide +kernel)
set_option maxRecDepth 20000 in
theorem gX8_init_X4_init : GoodIn wsX8_init (wsX4_init) := ggX8_init_X4_init
set_option maxRecDepth 20000 in
theorem ggX8_init_X1_init : GoodIn wsX8_init wsX1_init := goodIn_r _ [100, 101, 2, 3, 39, 102, 103, 104, 105, 106, 173, 174, 175, 176, 177] (by decide +kernel) (by decide +kernel)
set_option maxRecDepth 20000 in
theorem gX8_init_X1_init : GoodIn wsX8_init (wsX1_init) := ggX8_init_X1_init
set_option maxRecDepth 20000 in
theorem ggX8_init_X6_init : GoodIn wsX8_init wsX6_init := goodIn_r _ [109, 110, 2, 3, 111, 112, 113, 39, 114, 115, 116, 117, 118, 119, 120, 121, 178, 179, 180, 181, 182, 183, 184, 185, 186, 187] (by decide +kernel) (by decide +kernel)
set_option maxRecDepth 20000 in
theorem gX8_init_X6_init : GoodIn wsX8_init (wsX6_init) := ggX8_init_X6_init
set_option maxRecDepth 20000 in
theorem ggX8_init_X0_init : GoodIn wsX8_init wsX0_init := goodIn_r _ [124, 125, 2, 3, 39, 126, 127, 188, 189] (by decide +kernel) (by decide +kernel)
set_option maxRecDepth 20000 in
theorem gX8_init_X0_init : GoodIn wsX8_init (wsX0_init) := ggX8_init_X0_init
theorem dX8_init_0 : decode cX8_init 0 = .ok (.aload_n 0, 1) := by decide +kernel
theorem dX8_init_1 : decode cX8_init 1 = .ok (.invokespecial 3, 3) := by decide +kernel
theorem dX8_init_4 : decode cX8_init 4 = .ok (.aload_n 0, 1) := by decide +kernel
theorem dX8_init_5 : decode cX8_init 5 = .ok (.new 9, 3) := by decide +kernel
theorem dX8_init_8 : decode cX8_init 8 = .ok (.dup, 1) := by decide +kernel
theorem dX8_init_9 : decode cX8_init 9 = .ok (.invokespecial 11, 3) := by decide +kernel
theorem dX8_init_12 : decode cX8_init 12 = .ok (.putfield 12, 3) := by decide +kernel
theorem dX8_init_15 : decode cX8_init 15 = .ok (.aload_n 0, 1) := by decide +kernel
theorem dX8_init_16 : decode cX8_init 16 = .ok (.new 9, 3) := by decide +kernel
theorem dX8_init_19 : decode cX8_init 19 = .ok (.dup, 1) := by decide +kernel
theorem dX8_init_20 : decode cX8_init 20 = .ok (.invokespecial 11, 3) := by decide +kernel
theorem dX8_init_23 : decode cX8_init 23 = .ok (.putfield 18, 3) := by decide +kernel
theorem dX8_init_26 : decode cX8_init 26 = .ok (.aload_n 0, 1) := by decide +kernel
theorem dX8_init_27 : decode cX8_init 27 = .ok (.new 9, 3) := by decide +kernel
theorem dX8_init_30 : decode cX8_init 30 = .ok (.dup, 1) := by decide +kernel
theorem dX8_init_31 : decode cX8_init 31 = .ok (.invokespecial 11, 3) := by decide +kernel
theorem dX8_init_34 : decode cX8_init 34 = .ok (.putfield 21, 3) := by decide +kernel
theorem dX8_init_37 : decode cX8_init 37 = .ok (.aload_n 0, 1) := by decide +kernel
theorem dX8_init_38 : decode cX8_init 38 = .ok (.iconst 0, 1) := by decide +kernel
theorem dX8_init_39 : decode cX8_init 39 = .ok (.putfield 24, 3) := by decide +kernel
theorem dX8_init_42 : decode cX8_init 42 = .ok (.aload_n 0, 1) := by decide +kernel
theorem dX8_init_43 : decode cX8_init 43 = .ok (.new 28, 3) := by decide +kernel
theorem dX8_init_46 : decode cX8_init 46 = .ok (.dup, 1) := by decide +kernel
theorem dX8_init_47 : decode cX8_init 47 = .ok (.invokespecial 30, 3) := by decide +kernel
theorem dX8_init_50 : decode cX8_init 50 = .ok (.putfield 31, 3) := by decide +kernel
theorem dX8_init_53 : decode cX8_init 53 = .ok (.aload_n 0, 1) := by decide +kernel
theorem dX8_init_54 : decode cX8_init 54 = .ok (.new 35, 3) := by decide +kernel
theorem dX8_init_57 : decode cX8_init 57 = .ok (.dup, 1) := by decide +kernel
theorem dX8_init_58 : decode cX8_init 58 = .ok (.invokespecial 37, 3) := by decide +kernel
theorem dX8_init_61 : decode cX8_init 61 = .ok (.putfield 38, 3) := by decide +kernel
theorem dX8_init_64 : decode cX8_init 64 = .ok (.aload_n 0, 1) := by decide +kernel
theorem dX8_init_65 : decode cX8_init 65 = .ok (.new 42, 3) := by decide +kernel
theorem dX8_init_68 : decode cX8_init 68 = .ok (.dup, 1) := by decide +kernel
theorem dX8_init_69 : decode cX8_init 69 = .ok (.invokespecial 44, 3) := by decide +kernel
theorem dX8_init_72 : decode cX8_init 72 = .ok (.putfield 45, 3) := by decide +kernel
theorem dX8_init_75 : decode cX8_init 75 = .ok (.aload_n 0, 1) := by decide +kernel
theorem dX8_init_76 : decode cX8_init 76 = .ok (.iconst 4, 1) := by decide +kernel
theorem dX8_init_77 : decode cX8_init 77 = .ok (.anewarray 49, 3) := by decide +kernel
theorem dX8_init_80 : decode cX8_init 80 = .ok (.dup, 1) := by decide +kernel
theorem dX8_init_81 : decode cX8_init 81 = .ok (.iconst 0, 1) := by decide +kernel
theorem dX8_init_82 : decode cX8_init 82 = .ok (.new 49, 3) := by decide +kernel
theorem dX8_init_85 : decode cX8_init 85 = .ok (.dup, 1) := by decide +kernel
theorem dX8_init_86 : decode cX8_init 86 = .ok (.invokespecial 51, 3) := by decide +kernel
theorem dX8_init_89 : decode cX8_init 89 = .ok (.aastore, 1) := by decide +kernel
theorem dX8_init_90 : decode cX8_init 90 = .ok (.dup, 1) := by decide +kernel
theorem dX8_init_91 : decode cX8_init 91 = .ok (.iconst 1, 1) := by decide +kernel
theorem dX8_init_92 : decode cX8_init 92 = .ok (.new 49, 3) := by decide +kernel
theorem dX8_init_95 : decode cX8_init 95 = .ok (.dup, 1) := by decide +kernel
theorem dX8_init_96 : decode cX8_init 96 = .ok (.invokespecial 51, 3) := by decide +kernel
theorem dX8_init_99 : decode cX8_init 99 = .ok (.aastore, 1) := by decide +kernel
theorem dX8_init_100 : decode cX8_init 100 = .ok (.dup, 1) := by decide +kernel
theorem dX8_init_101 : decode cX8_init 101 = .ok (.iconst 2, 1) := by decide +kernel
theorem dX8_init_102 : decode cX8_init 102 = .ok (.new 49, 3) := by decide +kernel
theorem dX8_init_105 : decode cX8_init 105 = .ok (.dup, 1) := by decide +kernel
theorem dX8_init_106 : decode cX8_init 106 = .ok (.invokespecial 51, 3) := by decide +kernel
theorem dX8_init_109 : decode cX8_init 109 = .ok (.aastore, 1) := by decide +kernel
theorem dX8_init_110 : decode cX8_init 110 = .ok (.dup, 1) := by decide +kernel
theorem dX8_init_111 : decode cX8_init 111 = .ok (.iconst 3, 1) := by decide +kernel
theorem dX8_init_112 : decode cX8_init 112 = .ok (.new 49, 3) := by decide +kernel
theorem dX8_init_115 : decode cX8_init 115 = .ok (.dup, 1) := by decide +kernel
theorem dX8_init_116 : decode cX8_init 116 = .ok (.invokespecial 51, 3) := by decide +kernel
theorem dX8_init_119 : decode cX8_init 119 = .ok (.aastore, 1) := by decide +kernel
theorem dX8_init_120 : decode cX8_init 120 = .ok (.putfield 52, 3) := by decide +kernel
theorem dX8_init_123 : decode cX8_init 123 = .ok (.aload_n 0, 1) := by decide +kernel
theorem dX8_init_124 : decode cX8_init 124 = .ok (.new 56, 3) := by decide +kernel
theorem dX8_init_127 : decode cX8_init 127 = .ok (.dup, 1) := by decide +kernel
theorem dX8_init_128 : decode cX8_init 128 = .ok (.invokespecial 58, 3) := by decide +kernel
theorem dX8_init_131 : decode cX8_init 131 = .ok (.putfield 59, 3) := by decide +kernel
theorem dX8_init_134 : decode cX8_init 134 = .ok (.aload_n 0, 1) := by decide +kernel
theorem dX8_init_135 : decode cX8_init 135 = .ok (.new 63, 3) := by decide +kernel
theorem dX8_init_138 : decode cX8_init 138 = .ok (.dup, 1) := by decide +kernel
theorem dX8_init_139 : decode cX8_init 139 = .ok (.invokespecial 65, 3) := by decide +kernel
theorem dX8_init_142 : decode cX8_init 142 = .ok (.putfield 66, 3) := by decide +kernel
theorem dX8_init_145 : decode cX8_init 145 = .ok (.aload_n 0, 1) := by decide +kernel
theorem dX8_init_146 : decode cX8_init 146 = .ok (.new 70, 3) := by decide +kernel
theorem dX8_init_149 : decode cX8_init 149 = .ok (.dup, 1) := by decide +kernel
theorem dX8_init_150 : decode cX8_init 150 = .ok (.invokespecial 72, 3) := by decide +kernel
theorem dX8_init_153 : decode cX8_init 153 = .ok (.putfield 73, 3) := by decide +kernel
theorem dX8_init_156 : decode cX8_init 156 = .ok (.aload_n 0, 1) := by decide +kernel
theorem dX8_init_157 : decode cX8_init 157 = .ok (.iconst 3, 1) := by decide +kernel
theorem dX8_init_158 : decode cX8_init 158 = .ok (.newarray .int, 2) := by decide +kernel
theorem dX8_init_160 : decode cX8_init 160 = .ok (.dup, 1) := by decide +kernel
theorem dX8_init_161 : decode cX8_init 161 = .ok (.iconst 0, 1) := by decide +kernel
theorem dX8_init_162 : decode cX8_init 162 = .ok (.iconst 0, 1) := by decide +kernel
theorem dX8_init_163 : decode cX8_init 163 = .ok (.iastore, 1) := by decide +kernel
theorem dX8_init_164 : decode cX8_init 164 = .ok (.dup, 1) := by decide +kernel
theorem dX8_init_165 : decode cX8_init 165 = .ok (.iconst 1, 1) := by decide +kernel
theorem dX8_init_166 : decode cX8_init 166 = .ok (.iconst 0, 1) := by decide +kernel
theorem dX8_init_167 : decode cX8_init 167 = .ok (.iastore, 1) := by decide +kernel
theorem dX8_init_168 : decode cX8_init 168 = .ok (.dup, 1) := by decide +kernel
theorem dX8_init_169 : decode cX8_init 169 = .ok (.iconst 2, 1) := by decide +kernel
theorem dX8_init_170 : decode cX8_init 170 = .ok (.iconst 0, 1) := by decide +kernel
theorem dX8_init_171 : decode cX8_init 171 = .ok (.iastore, 1) := by decide +kernel
theorem dX8_init_172 : decode cX8_init 172 = .ok (.putfield 77, 3) := by decide +kernel
theorem dX8_init_175 : decode cX8_init 175 = .ok (.aload_n 0, 1) := by decide +kernel
theorem dX8_init_176 : decode cX8_init 176 = .ok (.iconst 0, 1) := by decide +kernel
theorem dX8_init_177 : decode cX8_init 177 = .ok (.putfield 81, 3) := by decide +kernel
theorem dX8_init_180 : decode cX8_init 180 = .ok (.aload_n 0, 1) := by decide +kernel
theorem dX8_init_181 : decode cX8_init 181 = .ok (.iconst 0, 1) := by decide +kernel
theorem dX8_init_182 : decode cX8_init 182 = .ok (.putfield 84, 3) := by decide +kernel
theorem dX8_init_185 : decode cX8_init 185 = .ok (.return_, 1) := by decide +kernel
set_option maxRecDepth 20000 in
theorem ggX8_set_X8_slotOf : GoodIn wsX8_set wsX8_slotOf := goodIn_r _ [9] (by decide +kernel) (by decide +kernel)
set_option maxRecDepth 20000 in
theorem gX8_set_X8_slotOf : GoodIn wsX8_set (va_wsS RX8 88 yX8_slotOf wsX8_slotOf) := goodIn_app (goodIn_of _ (by decide +kernel)) ggX8_set_X8_slotOf
set_option maxRecDepth 20000 in
theorem ggX8_set_X3_isTooLargeWith : GoodIn wsX8_set wsX3_isTooLargeWith := goodIn_r _ [14, 15, 49, 50, 51, 52, 53, 54, 55, 56, 57] (by decide +kernel) (by decide +kernel)
set_option maxRecDepth 20000 in
theorem gX8_set_X3_isTooLargeWith : GoodIn wsX8_set (wsV RX8 98 RX3 yX3_isTooLargeWith wsX3_isTooLargeWith) := goodIn_app (goodIn_of _ (by decide +kernel)) ggX8_set_X3_isTooLargeWith
set_option maxRecDepth 20000 in
theorem ggX8_set_X1_add : GoodIn wsX8_set wsX1_add := goodIn_r _ [20, 21, 22, 23, 24, 25, 26, 27, 28, 19, 29, 58, 59, 60, 61, 62] (by decide +kernel) (by decide +kernel)
set_option maxRecDepth 20000 in
theorem gX8_set_X1_add : GoodIn wsX8_set (wsV RX8 105 RX1 yX1_add wsX1_add) := goodIn_app (goodIn_of _ (by decide +kernel)) ggX8_set_X1_add
set_option maxRecDepth 20000 in
theorem ggX8_set_X3_become : GoodIn wsX8_set wsX3_become := goodIn_r _ [33, 15, 34, 49, 50, 51, 52, 53, 54, 55, 56, 57] (by decide +kernel) (by decide +kernel)
set_option maxRecDepth 20000 in
theorem gX8_set_X3_become : GoodIn wsX8_set (wsV RX8 109 RX3 yX3_become wsX3_become) := goodIn_app (goodIn_of _ (by decide +kernel)) ggX8_set_X3_become
theorem dX8_set_0 : decode cX8_set 0 = .ok (.iload_n 1, 1) := by decide +kernel
theorem dX8_set_1 : decode cX8_set 1 = .ok (.iload_n 2, 1) := by decide +kernel
theorem dX8_set_2 : decode cX8_set 2 = .ok (.invokestatic 88, 3) := by decide +kernel
theorem dX8_set_5 : decode cX8_set 5 = .ok (.istore 4, 2) := by decide +kernel
theorem dX8_set_7 : decode cX8_set 7 = .ok (.iload 4, 2) := by decide +kernel
theorem dX8_set_9 : decode cX8_set 9 = .ok (.ifCond .lt 30, 3) := by decide +kernel
theorem dX8_set_12 : decode cX8_set 12 = .ok (.iload 4, 2) := by decide +kernel
theorem dX8_set_14 : decode cX8_set 14 = .ok (.bipush 10, 2) := by decide +kernel
theorem dX8_set_16 : decode cX8_set 16 = .ok (.if_icmp .ge 23, 3) := by decide +kernel
theorem dX8_set_19 : decode cX8_set 19 = .ok (.iload_n 3, 1) := by decide +kernel
theorem dX8_set_20 : decode cX8_set 20 = .ok (.getstatic 92, 3) := by decide +kernel
theorem dX8_set_23 : decode cX8_set 23 = .ok (.iload 4, 2) := by decide +kernel
theorem dX8_set_25 : decode cX8_set 25 = .ok (.iaload, 1) := by decide +kernel
theorem dX8_set_26 : decode cX8_set 26 = .ok (.if_icmp .lt 13, 3) := by decide +kernel
theorem dX8_set_29 : decode cX8_set 29 = .ok (.iload_n 3, 1) := by decide +kernel
theorem dX8_set_30 : decode cX8_set 30 = .ok (.getstatic 95, 3) := by decide +kernel
theorem dX8_set_33 : decode cX8_set 33 = .ok (.iload 4, 2) := by decide +kernel
theorem dX8_set_35 : decode cX8_set 35 = .ok (.iaload, 1) := by decide +kernel
theorem dX8_set_36 : decode cX8_set 36 = .ok (.if_icmp .le 7, 3) := by decide +kernel
theorem dX8_set_39 : decode cX8_set 39 = .ok (.sipush (-1001), 3) := by decide +kernel
theorem dX8_set_42 : decode cX8_set 42 = .ok (.ireturn, 1) := by decide +kernel
theorem dX8_set_43 : decode cX8_set 43 = .ok (.aload_n 0, 1) := by decide +kernel
theorem dX8_set_44 : decode cX8_set 44 = .ok (.getfield 12, 3) := by decide +kernel
theorem dX8_set_47 : decode cX8_set 47 = .ok (.iload 4, 2) := by decide +kernel
theorem dX8_set_49 : decode cX8_set 49 = .ok (.iload_n 3, 1) := by decide +kernel
theorem dX8_set_50 : decode cX8_set 50 = .ok (.invokevirtual 98, 3) := by decide +kernel
theorem dX8_set_53 : decode cX8_set 53 = .ok (.ifCond .eq 7, 3) := by decide +kernel
theorem dX8_set_56 : decode cX8_set 56 = .ok (.sipush (-1005), 3) := by decide +kernel
theorem dX8_set_59 : decode cX8_set 59 = .ok (.ireturn, 1) := by decide +kernel
theorem dX8_set_60 : decode cX8_set 60 = .ok (.aload_n 0, 1) := by decide +kernel
theorem dX8_set_61 : decode cX8_set 61 = .ok (.getfield 12, 3) := by decide +kernel
theorem dX8_set_64 : decode cX8_set 64 = .ok (.getfield 102, 3) := by decide +kernel
theorem dX8_set_67 : decode cX8_set 67 = .ok (.iload 4, 2) := by decide +kernel
theorem dX8_set_69 : decode cX8_set 69 = .ok (.iaload, 1) := by decide +kernel
theorem dX8_set_70 : decode cX8_set 70 = .ok (.istore 5, 2) := by decide +kernel
theorem dX8_set_72 : decode cX8_set 72 = .ok (.iload 5, 2) := by decide +kernel
theorem dX8_set_74 : decode cX8_set 74 = .ok (.iload_n 3, 1) := by decide +kernel
theorem dX8_set_75 : decode cX8_set 75 = .ok (.if_icmp .eq 25, 3) := by decide +kernel
theorem dX8_set_78 : decode cX8_set 78 = .ok (.aload_n 0, 1) := by decide +kernel
theorem dX8_set_79 : decode cX8_set 79 = .ok (.getfield 59, 3) := by decide +kernel
theorem dX8_set_82 : decode cX8_set 82 = .ok (.iload 4, 2) := by decide +kernel
theorem dX8_set_84 : decode cX8_set 84 = .ok (.iload 5, 2) := by decide +kernel
theorem dX8_set_86 : decode cX8_set 86 = .ok (.iload_n 3, 1) := by decide +kernel
theorem dX8_set_87 : decode cX8_set 87 = .ok (.invokevirtual 105, 3) := by decide +kernel
theorem dX8_set_90 : decode cX8_set 90 = .ok (.aload_n 0, 1) := by decide +kernel
theorem dX8_set_91 : decode cX8_set 91 = .ok (.getfield 12, 3) := by decide +kernel
theorem dX8_set_94 : decode cX8_set 94 = .ok (.iload 4, 2) := by decide +kernel
theorem dX8_set_96 : decode cX8_set 96 = .ok (.iload_n 3, 1) := by decide +kernel
theorem dX8_set_97 : decode cX8_set 97 = .ok (.invokevirtual 109, 3) := by decide +kernel
theorem dX8_set_100 : decode cX8_set 100 = .ok (.iload 5, 2) := by decide +kernel
theorem dX8_set_102 : decode cX8_set 102 = .ok (.ireturn, 1) := by decide +kernel
set_option maxRecDepth 20000 in
theorem ggX8_of_X8_slotOf : GoodIn wsX8_of wsX8_slotOf := goodIn_r _ [6] (by decide +kernel) (by decide +kernel)
set_option maxRecDepth 20000 in
theorem gX8_of_X8_slotOf : GoodIn wsX8_of (va_wsS RX8 88 yX8_slotOf wsX8_slotOf) := goodIn_app (goodIn_of _ (by decide +kernel)) ggX8_of_X8_slotOf
theorem dX8_of_0 : decode cX8_of 0 = .ok (.iload_n 1, 1) := by decide +kernel
theorem dX8_of_1 : decode cX8_of 1 = .ok (.iload_n 2, 1) := by decide +kernel
theorem dX8_of_2 : decode cX8_of 2 = .ok (.invokestatic 88, 3) := by decide +kernel
theorem dX8_of_5 : decode cX8_of 5 = .ok (.istore_n 3, 1) := by decide +kernel
theorem dX8_of_6 : decode cX8_of 6 = .ok (.iload_n 3, 1) := by decide +kernel
theorem dX8_of_7 : decode cX8_of 7 = .ok (.ifCond .lt 9, 3) := by decide +kernel
theorem dX8_of_10 : decode cX8_of 10 = .ok (.iload_n 3, 1) := by decide +kernel
theorem dX8_of_11 : decode cX8_of 11 = .ok (.bipush 10, 2) := by decide +kernel
theorem dX8_of_13 : decode cX8_of 13 = .ok (.if_icmp .lt 9, 3) := by decide +kernel
theorem dX8_of_16 : decode cX8_of 16 = .ok (.sipush (-1001), 3) := by decide +kernel
theorem dX8_of_19 : decode cX8_of 19 = .ok (.goto 12, 3) := by decide +kernel
theorem dX8_of_22 : decode cX8_of 22 = .ok (.aload_n 0, 1) := by decide +kernel
theorem dX8_of_23 : decode cX8_of 23 = .ok (.getfield 12, 3) := by decide +kernel
theorem dX8_of_26 : decode cX8_of 26 = .ok (.getfield 102, 3) := by decide +kernel
theorem dX8_of_29 : decode cX8_of 29 = .ok (.iload_n 3, 1) := by decide +kernel
theorem dX8_of_30 : decode cX8_of 30 = .ok (.iaload, 1) := by decide +kernel
theorem dX8_of_31 : decode cX8_of 31 = .ok (.ireturn, 1) := by decide +kernel
set_option maxRecDepth 20000 in
theorem ggX8_past_X8_isWordNumber : GoodIn wsX8_past wsX8_isWordNumber := goodIn_r _ [7, 1, 8, 19, 20, 21, 22, 23, 24, 25, 26, 27, 28, 29, 30, 31, 32, 33, 34, 35, 36, 37, 38, 39, 40, 41] (by decide +kernel) (by decide +kernel)
set_option maxRecDepth 20000 in
theorem gX8_past_X8_isWordNumber : GoodIn wsX8_past (wsV RX8 113 RX8 yX8_isWordNumber wsX8_isWordNumber) := goodIn_app (goodIn_of _ (by decide +kernel)) ggX8_past_X8_isWordNumber
set_option maxRecDepth 20000 in
theorem ggX8_past_X3_holds : GoodIn wsX8_past wsX3_holds := goodIn_r _ [13, 14, 15, 16, 12, 17, 18, 33, 34, 35, 36, 37, 38, 39, 40, 41] (by decide +kernel) (by decide +kernel)
set_option maxRecDepth 20000 in
theorem gX8_past_X3_holds : GoodIn wsX8_past (wsV RX8 117 RX3 yX3_holds wsX3_holds) := goodIn_app (goodIn_of _ (by decide +kernel)) ggX8_past_X3_holds
theorem dX8_past_0 : decode cX8_past 0 = .ok (.aload_n 0, 1) := by decide +kernel
theorem dX8_past_1 : decode cX8_past 1 = .ok (.iload_n 1, 1) := by decide +kernel
theorem dX8_past_2 : decode cX8_past 2 = .ok (.invokevirtual 113, 3) := by decide +kernel
theorem dX8_past_5 : decode cX8_past 5 = .ok (.ifCond .eq 14, 3) := by decide +kernel
theorem dX8_past_8 : decode cX8_past 8 = .ok (.aload_n 0, 1) := by decide +kernel
theorem dX8_past_9 : decode cX8_past 9 = .ok (.getfield 12, 3) := by decide +kernel
theorem dX8_past_12 : decode cX8_past 12 = .ok (.iload_n 2, 1) := by decide +kernel
theorem dX8_past_13 : decode cX8_past 13 = .ok (.invokevirtual 117, 3) := by decide +kernel
theorem dX8_past_16 : decode cX8_past 16 = .ok (.ifCond .ne 7, 3) := by decide +kernel
theorem dX8_past_19 : decode cX8_past 19 = .ok (.sipush (-1001), 3) := by decide +kernel
theorem dX8_past_22 : decode cX8_past 22 = .ok (.ireturn, 1) := by decide +kernel
theorem dX8_past_23 : decode cX8_past 23 = .ok (.aload_n 0, 1) := by decide +kernel
theorem dX8_past_24 : decode cX8_past 24 = .ok (.getfield 12, 3) := by decide +kernel
theorem dX8_past_27 : decode cX8_past 27 = .ok (.getfield 120, 3) := by decide +kernel
theorem dX8_past_30 : decode cX8_past 30 = .ok (.iload_n 1, 1) := by decide +kernel
theorem dX8_past_31 : decode cX8_past 31 = .ok (.iconst 1, 1) := by decide +kernel
theorem dX8_past_32 : decode cX8_past 32 = .ok (.isub, 1) := by decide +kernel
theorem dX8_past_33 : decode cX8_past 33 = .ok (.iaload, 1) := by decide +kernel
theorem dX8_past_34 : decode cX8_past 34 = .ok (.istore_n 3, 1) := by decide +kernel
theorem dX8_past_35 : decode cX8_past 35 = .ok (.aload_n 0, 1) := by decide +kernel
theorem dX8_past_36 : decode cX8_past 36 = .ok (.getfield 12, 3) := by decide +kernel
theorem dX8_past_39 : decode cX8_past 39 = .ok (.getfield 120, 3) := by decide +kernel
theorem dX8_past_42 : decode cX8_past 42 = .ok (.iload_n 1, 1) := by decide +kernel
theorem dX8_past_43 : decode cX8_past 43 = .ok (.iconst 1, 1) := by decide +kernel
theorem dX8_past_44 : decode cX8_past 44 = .ok (.isub, 1) := by decide +kernel
theorem dX8_past_45 : decode cX8_past 45 = .ok (.iload_n 2, 1) := by decide +kernel
theorem dX8_past_46 : decode cX8_past 46 = .ok (.iastore, 1) := by decide +kernel
theorem dX8_past_47 : decode cX8_past 47 = .ok (.iload_n 3, 1) := by decide +kernel
theorem dX8_past_48 : decode cX8_past 48 = .ok (.ireturn, 1) := by decide +kernel
set_option maxRecDepth 20000 in
theorem ggX8_word_X8_isWordNumber : GoodIn wsX8_word wsX8_isWordNumber := goodIn_r _ [7, 1, 8, 9, 10, 11, 12, 13, 14, 15, 16, 17, 18, 19, 20, 21, 22, 23, 24, 25, 26, 27, 28, 29, 30, 31] (by decide +kernel) (by decide +kernel)
set_option maxRecDepth 20000 in
theorem gX8_word_X8_isWordNumber : GoodIn wsX8_word (wsV RX8 113 RX8 yX8_isWordNumber wsX8_isWordNumber) := goodIn_app (goodIn_of _ (by decide +kernel)) ggX8_word_X8_isWordNumber
theorem dX8_word_0 : decode cX8_word 0 = .ok (.aload_n 0, 1) := by decide +kernel
theorem dX8_word_1 : decode cX8_word 1 = .ok (.iload_n 1, 1) := by decide +kernel
theorem dX8_word_2 : decode cX8_word 2 = .ok (.invokevirtual 113, 3) := by decide +kernel
theorem dX8_word_5 : decode cX8_word 5 = .ok (.ifCond .eq 17, 3) := by decide +kernel
theorem dX8_word_8 : decode cX8_word 8 = .ok (.aload_n 0, 1) := by decide +kernel
theorem dX8_word_9 : decode cX8_word 9 = .ok (.getfield 12, 3) := by decide +kernel
theorem dX8_word_12 : decode cX8_word 12 = .ok (.getfield 120, 3) := by decide +kernel
theorem dX8_word_15 : decode cX8_word 15 = .ok (.iload_n 1, 1) := by decide +kernel
theorem dX8_word_16 : decode cX8_word 16 = .ok (.iconst 1, 1) := by decide +kernel
theorem dX8_word_17 : decode cX8_word 17 = .ok (.isub, 1) := by decide +kernel
theorem dX8_word_18 : decode cX8_word 18 = .ok (.iaload, 1) := by decide +kernel
theorem dX8_word_19 : decode cX8_word 19 = .ok (.goto 6, 3) := by decide +kernel
theorem dX8_word_22 : decode cX8_word 22 = .ok (.sipush (-1001), 3) := by decide +kernel
theorem dX8_word_25 : decode cX8_word 25 = .ok (.ireturn, 1) := by decide +kernel
set_option maxRecDepth 20000 in
theorem ggX8_step_X8_isInput : GoodIn wsX8_step wsX8_isInput := goodIn_r _ [8] (by decide +kernel) (by decide +kernel)
set_option maxRecDepth 20000 in
theorem gX8_step_X8_isInput : GoodIn wsX8_step (va_wsS RX8 123 yX8_isInput wsX8_isInput) := goodIn_app (goodIn_of _ (by decide +kernel)) ggX8_step_X8_isInput
set_option maxRecDepth 20000 in
theorem ggX8_step_X3_weigh : GoodIn wsX8_step wsX3_weigh := goodIn_r _ [13, 14, 15, 16, 12, 17, 18, 19, 20, 21, 22, 23, 24, 25, 26, 27, 28, 29, 30, 31, 32, 33, 34, 35, 36, 37, 38, 39, 40, 41, 42, 43, 44, 45, 46, 47, 48, 49, 78, 79, 80, 81, 82, 83, 84, 85, 86] (by decide +kernel) (by decide +kernel)
set_option maxRecDepth 20000 in
theorem gX8_step_X3_weigh : GoodIn wsX8_step (wsV RX8 126 RX3 yX3_weigh wsX3_weigh) := goodIn_app (goodIn_of _ (by decide +kernel)) ggX8_step_X3_weigh
set_option maxRecDepth 20000 in
theorem ggX8_step_X8_tellCauses : GoodIn wsX8_step wsX8_tellCauses := goodIn_r _ [53, 54, 55, 64, 65, 66, 67, 68, 69, 70, 71, 72, 73, 74, 75, 76, 77] (by decide +kernel) (by decide +kernel)
set_option maxRecDepth 20000 in
theorem gX8_step_X8_tellCauses : GoodIn wsX8_step (wsV RX8 136 RX8 yX8_tellCauses wsX8_tellCauses) := goodIn_app (goodIn_of _ (by decide +kernel)) ggX8_step_X8_tellCauses
set_option maxRecDepth 20000 in
theorem ggX8_step_X3_push : GoodIn wsX8_step wsX3_push := goodIn_r _ [59, 20, 60, 61, 62, 63, 21, 33, 78, 79, 80, 81, 82, 83, 84, 85, 86] (by decide +kernel) (by decide +kernel)
set_option maxRecDepth 20000 in
theorem gX8_step_X3_push : GoodIn wsX8_step (wsV RX8 139 RX3 yX3_push wsX3_push) := goodIn_app (goodIn_of _ (by decide +kernel)) ggX8_step_X3_push
theorem dX8_step_0 : decode cX8_step 0 = .ok (.iload_n 1, 1) := by decide +kernel
theorem dX8_step_1 : decode cX8_step 1 = .ok (.invokestatic 123, 3) := by decide +kernel
theorem dX8_step_4 : decode cX8_step 4 = .ok (.ifCond .ne 7, 3) := by decide +kernel
theorem dX8_step_7 : decode cX8_step 7 = .ok (.sipush (-1001), 3) := by decide +kernel
theorem dX8_step_10 : decode cX8_step 10 = .ok (.ireturn, 1) := by decide +kernel
theorem dX8_step_11 : decode cX8_step 11 = .ok (.aload_n 0, 1) := by decide +kernel
theorem dX8_step_12 : decode cX8_step 12 = .ok (.getfield 12, 3) := by decide +kernel
theorem dX8_step_15 : decode cX8_step 15 = .ok (.iload_n 1, 1) := by decide +kernel
theorem dX8_step_16 : decode cX8_step 16 = .ok (.invokevirtual 126, 3) := by decide +kernel
theorem dX8_step_19 : decode cX8_step 19 = .ok (.aload_n 0, 1) := by decide +kernel
theorem dX8_step_20 : decode cX8_step 20 = .ok (.getfield 12, 3) := by decide +kernel
theorem dX8_step_23 : decode cX8_step 23 = .ok (.getfield 130, 3) := by decide +kernel
theorem dX8_step_26 : decode cX8_step 26 = .ok (.sipush (-1005), 3) := by decide +kernel
theorem dX8_step_29 : decode cX8_step 29 = .ok (.if_icmp .ne 20, 3) := by decide +kernel
theorem dX8_step_32 : decode cX8_step 32 = .ok (.aload_n 0, 1) := by decide +kernel
theorem dX8_step_33 : decode cX8_step 33 = .ok (.iconst 0, 1) := by decide +kernel
theorem dX8_step_34 : decode cX8_step 34 = .ok (.iconst 0, 1) := by decide +kernel
theorem dX8_step_35 : decode cX8_step 35 = .ok (.aload_n 0, 1) := by decide +kernel
theorem dX8_step_36 : decode cX8_step 36 = .ok (.getfield 12, 3) := by decide +kernel
theorem dX8_step_39 : decode cX8_step 39 = .ok (.getfield 133, 3) := by decide +kernel
theorem dX8_step_42 : decode cX8_step 42 = .ok (.invokevirtual 136, 3) := by decide +kernel
theorem dX8_step_45 : decode cX8_step 45 = .ok (.sipush (-1005), 3) := by decide +kernel
theorem dX8_step_48 : decode cX8_step 48 = .ok (.ireturn, 1) := by decide +kernel
theorem dX8_step_49 : decode cX8_step 49 = .ok (.aload_n 0, 1) := by decide +kernel
theorem dX8_step_50 : decode cX8_step 50 = .ok (.getfield 12, 3) := by decide +kernel
theorem dX8_step_53 : decode cX8_step 53 = .ok (.invokevirtual 139, 3) := by decide +kernel
theorem dX8_step_56 : decode cX8_step 56 = .ok (.aload_n 0, 1) := by decide +kernel
theorem dX8_step_57 : decode cX8_step 57 = .ok (.dup, 1) := by decide +kernel
theorem dX8_step_58 : decode cX8_step 58 = .ok (.getfield 84, 3) := by decide +kernel
theorem dX8_step_61 : decode cX8_step 61 = .ok (.iconst 1, 1) := by decide +kernel
theorem dX8_step_62 : decode cX8_step 62 = .ok (.iadd, 1) := by decide +kernel
theorem dX8_step_63 : decode cX8_step 63 = .ok (.putfield 84, 3) := by decide +kernel
theorem dX8_step_66 : decode cX8_step 66 = .ok (.aload_n 0, 1) := by decide +kernel
theorem dX8_step_67 : decode cX8_step 67 = .ok (.getfield 12, 3) := by decide +kernel
theorem dX8_step_70 : decode cX8_step 70 = .ok (.getfield 130, 3) := by decide +kernel
theorem dX8_step_73 : decode cX8_step 73 = .ok (.ireturn, 1) := by decide +kernel
set_option maxRecDepth 20000 in
theorem ggX8_would_X8_isInput : GoodIn wsX8_would wsX8_isInput := goodIn_r _ [11] (by decide +kernel) (by decide +kernel)
set_option maxRecDepth 20000 in
theorem gX8_would_X8_isInput : GoodIn wsX8_would (va_wsS RX8 123 yX8_isInput wsX8_isInput) := goodIn_app (goodIn_of _ (by decide +kernel)) ggX8_would_X8_isInput
set_option maxRecDepth 20000 in
theorem ggX8_would_X3_weigh : GoodIn wsX8_would wsX3_weigh := goodIn_r _ [16, 17, 18, 19, 15, 20, 21, 22, 23, 24, 25, 26, 27, 28, 29, 30, 31, 32, 33, 34, 35, 36, 37, 38, 39, 40, 41, 42, 43, 44, 45, 46, 47, 48, 49, 50, 51, 52, 67, 68, 69, 70, 71, 72, 73, 74, 75] (by decide +kernel) (by decide +kernel)
set_option maxRecDepth 20000 in
theorem gX8_would_X3_weigh : GoodIn wsX8_would (wsV RX8 126 RX3 yX3_weigh wsX3_weigh) := goodIn_app (goodIn_of _ (by decide +kernel)) ggX8_would_X3_weigh
theorem dX8_would_0 : decode cX8_would 0 = .ok (.iload_n 1, 1) := by decide +kernel
theorem dX8_would_1 : decode cX8_would 1 = .ok (.invokestatic 123, 3) := by decide +kernel
theorem dX8_would_4 : decode cX8_would 4 = .ok (.ifCond .eq 12, 3) := by decide +kernel
theorem dX8_would_7 : decode cX8_would 7 = .ok (.iload_n 2, 1) := by decide +kernel
theorem dX8_would_8 : decode cX8_would 8 = .ok (.ifCond .lt 8, 3) := by decide +kernel
theorem dX8_would_11 : decode cX8_would 11 = .ok (.iload_n 2, 1) := by decide +kernel
theorem dX8_would_12 : decode cX8_would 12 = .ok (.iconst 4, 1) := by decide +kernel
theorem dX8_would_13 : decode cX8_would 13 = .ok (.if_icmp .le 6, 3) := by decide +kernel
theorem dX8_would_16 : decode cX8_would 16 = .ok (.ldc 142, 2) := by decide +kernel
theorem dX8_would_18 : decode cX8_would 18 = .ok (.ireturn, 1) := by decide +kernel
theorem dX8_would_19 : decode cX8_would 19 = .ok (.aload_n 0, 1) := by decide +kernel
theorem dX8_would_20 : decode cX8_would 20 = .ok (.getfield 12, 3) := by decide +kernel
theorem dX8_would_23 : decode cX8_would 23 = .ok (.iload_n 1, 1) := by decide +kernel
theorem dX8_would_24 : decode cX8_would 24 = .ok (.invokevirtual 126, 3) := by decide +kernel
theorem dX8_would_27 : decode cX8_would 27 = .ok (.iload_n 2, 1) := by decide +kernel
theorem dX8_would_28 : decode cX8_would 28 = .ok (.tableswitch 64 0 3 #[32, 40, 48, 56], 32) := by decide +kernel
theorem dX8_would_60 : decode cX8_would 60 = .ok (.aload_n 0, 1) := by decide +kernel
theorem dX8_would_61 : decode cX8_would 61 = .ok (.getfield 12, 3) := by decide +kernel
theorem dX8_would_64 : decode cX8_would 64 = .ok (.getfield 130, 3) := by decide +kernel
theorem dX8_would_67 : decode cX8_would 67 = .ok (.ireturn, 1) := by decide +kernel
theorem dX8_would_68 : decode cX8_would 68 = .ok (.aload_n 0, 1) := by decide +kernel
theorem dX8_would_69 : decode cX8_would 69 = .ok (.getfield 12, 3) := by decide +kernel
theorem dX8_would_72 : decode cX8_would 72 = .ok (.getfield 143, 3) := by decide +kernel
theorem dX8_would_75 : decode cX8_would 75 = .ok (.ireturn, 1) := by decide +kernel
theorem dX8_would_76 : decode cX8_would 76 = .ok (.aload_n 0, 1) := by decide +kernel
theorem dX8_would_77 : decode cX8_would 77 = .ok (.getfield 12, 3) := by decide +kernel
theorem dX8_would_80 : decode cX8_would 80 = .ok (.getfield 133, 3) := by decide +kernel
theorem dX8_would_83 : decode cX8_would 83 = .ok (.ireturn, 1) := by decide +kernel
theorem dX8_would_84 : decode cX8_would 84 = .ok (.aload_n 0, 1) := by decide +kernel
theorem dX8_would_85 : decode cX8_would 85 = .ok (.getfield 12, 3) := by decide +kernel
theorem dX8_would_88 : decode cX8_would 88 = .ok (.getfield 146, 3) := by decide +kernel
theorem dX8_would_91 : decode cX8_would 91 = .ok (.ireturn, 1) := by decide +kernel
theorem dX8_would_92 : decode cX8_would 92 = .ok (.aload_n 0, 1) := by decide +kernel
theorem dX8_would_93 : decode cX8_would 93 = .ok (.getfield 12, 3) := by decide +kernel
theorem dX8_would_96 : decode cX8_would 96 = .ok (.getfield 149, 3) := by decide +kernel
theorem dX8_would_99 : decode cX8_would 99 = .ok (.ifCond .eq 7, 3) := by decide +kernel
theorem dX8_would_102 : decode cX8_would 102 = .ok (.iconst 1, 1) := by decide +kernel
theorem dX8_would_103 : decode cX8_would 103 = .ok (.goto 4, 3) := by decide +kernel
theorem dX8_would_106 : decode cX8_would 106 = .ok (.iconst 0, 1) := by decide +kernel
theorem dX8_would_107 : decode cX8_would 107 = .ok (.ireturn, 1) := by decide +kernel
set_option maxRecDepth 20000 in
theorem ggX8_rounded_X8_isKind : GoodIn wsX8_rounded wsX8_isKind := goodIn_r _ [8] (by decide +kernel) (by decide +kernel)
set_option maxRecDepth 20000 in
theorem gX8_rounded_X8_isKind : GoodIn wsX8_rounded (va_wsS RX8 152 yX8_isKind wsX8_isKind) := goodIn_app (goodIn_of _ (by decide +kernel)) ggX8_rounded_X8_isKind
set_option maxRecDepth 20000 in
theorem ggX8_rounded_X3_toWhole : GoodIn wsX8_rounded wsX3_toWhole := goodIn_r _ [12] (by decide +kernel) (by decide +kernel)
set_option maxRecDepth 20000 in
theorem gX8_rounded_X3_toWhole : GoodIn wsX8_rounded (va_wsS RX8 157 yX3_toWhole wsX3_toWhole) := goodIn_app (goodIn_of _ (by decide +kernel)) ggX8_rounded_X3_toWhole
theorem dX8_rounded_0 : decode cX8_rounded 0 = .ok (.iload_n 1, 1) := by decide +kernel
theorem dX8_rounded_1 : decode cX8_rounded 1 = .ok (.invokestatic 152, 3) := by decide +kernel
theorem dX8_rounded_4 : decode cX8_rounded 4 = .ok (.ifCond .eq 29, 3) := by decide +kernel
theorem dX8_rounded_7 : decode cX8_rounded 7 = .ok (.iload_n 2, 1) := by decide +kernel
theorem dX8_rounded_8 : decode cX8_rounded 8 = .ok (.ifCond .lt 25, 3) := by decide +kernel
theorem dX8_rounded_11 : decode cX8_rounded 11 = .ok (.iload_n 2, 1) := by decide +kernel
theorem dX8_rounded_12 : decode cX8_rounded 12 = .ok (.getstatic 95, 3) := by decide +kernel
theorem dX8_rounded_15 : decode cX8_rounded 15 = .ok (.bipush 6, 2) := by decide +kernel
theorem dX8_rounded_17 : decode cX8_rounded 17 = .ok (.iaload, 1) := by decide +kernel
theorem dX8_rounded_18 : decode cX8_rounded 18 = .ok (.if_icmp .gt 15, 3) := by decide +kernel
theorem dX8_rounded_21 : decode cX8_rounded 21 = .ok (.iload_n 3, 1) := by decide +kernel
theorem dX8_rounded_22 : decode cX8_rounded 22 = .ok (.ldc 155, 2) := by decide +kernel
theorem dX8_rounded_24 : decode cX8_rounded 24 = .ok (.if_icmp .lt 9, 3) := by decide +kernel
theorem dX8_rounded_27 : decode cX8_rounded 27 = .ok (.iload_n 3, 1) := by decide +kernel
theorem dX8_rounded_28 : decode cX8_rounded 28 = .ok (.ldc 156, 2) := by decide +kernel
theorem dX8_rounded_30 : decode cX8_rounded 30 = .ok (.if_icmp .le 6, 3) := by decide +kernel
theorem dX8_rounded_33 : decode cX8_rounded 33 = .ok (.ldc 142, 2) := by decide +kernel
theorem dX8_rounded_35 : decode cX8_rounded 35 = .ok (.ireturn, 1) := by decide +kernel
theorem dX8_rounded_36 : decode cX8_rounded 36 = .ok (.iload_n 1, 1) := by decide +kernel
theorem dX8_rounded_37 : decode cX8_rounded 37 = .ok (.iload_n 2, 1) := by decide +kernel
theorem dX8_rounded_38 : decode cX8_rounded 38 = .ok (.iload_n 3, 1) := by decide +kernel
theorem dX8_rounded_39 : decode cX8_rounded 39 = .ok (.invokestatic 157, 3) := by decide +kernel
theorem dX8_rounded_42 : decode cX8_rounded 42 = .ok (.ireturn, 1) := by decide +kernel
set_option maxRecDepth 20000 in
theorem ggX8_bounded_X8_isKind : GoodIn wsX8_bounded wsX8_isKind := goodIn_r _ [7] (by decide +kernel) (by decide +kernel)
set_option maxRecDepth 20000 in
theorem gX8_bounded_X8_isKind : GoodIn wsX8_bounded (va_wsS RX8 152 yX8_isKind wsX8_isKind) := goodIn_app (goodIn_of _ (by decide +kernel)) ggX8_bounded_X8_isKind
set_option maxRecDepth 20000 in
theorem ggX8_bounded_X3_toWord : GoodIn wsX8_bounded wsX3_toWord := goodIn_r _ [12, 13, 14, 15, 16, 11, 17, 18, 33, 34, 35, 36, 37, 38, 39, 40, 41] (by decide +kernel) (by decide +kernel)
set_option maxRecDepth 20000 in
theorem gX8_bounded_X3_toWord : GoodIn wsX8_bounded (wsV RX8 161 RX3 yX3_toWord wsX3_toWord) := goodIn_app (goodIn_of _ (by decide +kernel)) ggX8_bounded_X3_toWord
theorem dX8_bounded_0 : decode cX8_bounded 0 = .ok (.iload_n 1, 1) := by decide +kernel
theorem dX8_bounded_1 : decode cX8_bounded 1 = .ok (.invokestatic 152, 3) := by decide +kernel
theorem dX8_bounded_4 : decode cX8_bounded 4 = .ok (.ifCond .eq 15, 3) := by decide +kernel
theorem dX8_bounded_7 : decode cX8_bounded 7 = .ok (.iload_n 2, 1) := by decide +kernel
theorem dX8_bounded_8 : decode cX8_bounded 8 = .ok (.ldc 155, 2) := by decide +kernel
theorem dX8_bounded_10 : decode cX8_bounded 10 = .ok (.if_icmp .lt 9, 3) := by decide +kernel
theorem dX8_bounded_13 : decode cX8_bounded 13 = .ok (.iload_n 2, 1) := by decide +kernel
theorem dX8_bounded_14 : decode cX8_bounded 14 = .ok (.ldc 156, 2) := by decide +kernel
theorem dX8_bounded_16 : decode cX8_bounded 16 = .ok (.if_icmp .le 7, 3) := by decide +kernel
theorem dX8_bounded_19 : decode cX8_bounded 19 = .ok (.sipush (-1001), 3) := by decide +kernel
theorem dX8_bounded_22 : decode cX8_bounded 22 = .ok (.ireturn, 1) := by decide +kernel
theorem dX8_bounded_23 : decode cX8_bounded 23 = .ok (.aload_n 0, 1) := by decide +kernel
theorem dX8_bounded_24 : decode cX8_bounded 24 = .ok (.getfield 12, 3) := by decide +kernel
theorem dX8_bounded_27 : decode cX8_bounded 27 = .ok (.iload_n 1, 1) := by decide +kernel
theorem dX8_bounded_28 : decode cX8_bounded 28 = .ok (.iload_n 2, 1) := by decide +kernel
theorem dX8_bounded_29 : decode cX8_bounded 29 = .ok (.invokevirtual 161, 3) := by decide +kernel
theorem dX8_bounded_32 : decode cX8_bounded 32 = .ok (.ireturn, 1) := by decide +kernel
set_option maxRecDepth 20000 in
theorem ggX8_output_X8_isRow : GoodIn wsX8_output wsX8_isRow := goodIn_r _ [7] (by decide +kernel) (by decide +kernel)
set_option maxRecDepth 20000 in
theorem gX8_output_X8_isRow : GoodIn wsX8_output (va_wsS RX8 164 yX8_isRow wsX8_isRow) := goodIn_app (goodIn_of _ (by decide +kernel)) ggX8_output_X8_isRow
set_option maxRecDepth 20000 in
theorem ggX8_output_X8_isMissing : GoodIn wsX8_output wsX8_isMissing := goodIn_r _ [11, 12, 13, 112, 113, 114, 115, 116, 117, 118, 119, 120, 121, 122, 123, 124, 125, 132, 133, 134] (by decide +kernel) (by decide +kernel)
set_option maxRecDepth 20000 in
theorem gX8_output_X8_isMissing : GoodIn wsX8_output (wsV RX8 167 RX8 yX8_isMissing wsX8_isMissing) := goodIn_app (goodIn_of _ (by decide +kernel)) ggX8_output_X8_isMissing
set_option maxRecDepth 20000 in
theorem ggX8_output_X8_followInThought : GoodIn wsX8_output wsX8_followInThought := goodIn_r _ [17, 18, 19, 1, 12, 20, 21, 22, 23, 24, 25, 26, 27, 28, 29, 30, 31, 32, 33, 34, 35, 36, 37, 38, 39, 40, 41, 42, 43, 44, 45, 46, 47, 48, 49, 50, 51, 52, 53, 54, 55, 56, 57, 58, 59, 60, 61, 62, 63, 64, 65, 66, 67, 68, 69, 70, 71, 72, 73, 74, 75, 76, 77, 78, 79, 80, 81, 82, 83, 84, 85, 86, 87, 88, 89, 90, 91, 92, 93, 94, 95, 96, 97, 98, 99, 100, 101, 102, 103, 104, 105, 106, 107, 108, 109, 110, 111, 112, 113, 114, 115, 116, 117, 118, 119, 120, 121, 122, 123, 124, 125, 135, 136, 137, 138, 139, 140, 141, 142, 143, 126, 127, 128, 129, 130, 131, 132, 133, 134] (by decide +kernel) (by decide +kernel)
set_option maxRecDepth 20000 in
theorem gX8_output_X8_followInThought : GoodIn wsX8_output (wsV RX8 170 RX8 yX8_followInThought wsX8_followInThought) := goodIn_app (goodIn_of _ (by decide +kernel)) ggX8_output_X8_followInThought
theorem dX8_output_0 : decode cX8_output 0 = .ok (.iload_n 1, 1) := by decide +kernel
theorem dX8_output_1 : decode cX8_output 1 = .ok (.invokestatic 164, 3) := by decide +kernel
theorem dX8_output_4 : decode cX8_output 4 = .ok (.ifCond .ne 7, 3) := by decide +kernel
theorem dX8_output_7 : decode cX8_output 7 = .ok (.sipush (-1001), 3) := by decide +kernel
theorem dX8_output_10 : decode cX8_output 10 = .ok (.ireturn, 1) := by decide +kernel
theorem dX8_output_11 : decode cX8_output 11 = .ok (.aload_n 0, 1) := by decide +kernel
theorem dX8_output_12 : decode cX8_output 12 = .ok (.iload_n 1, 1) := by decide +kernel
theorem dX8_output_13 : decode cX8_output 13 = .ok (.invokevirtual 167, 3) := by decide +kernel
theorem dX8_output_16 : decode cX8_output 16 = .ok (.ifCond .eq 7, 3) := by decide +kernel
theorem dX8_output_19 : decode cX8_output 19 = .ok (.sipush (-1011), 3) := by decide +kernel
theorem dX8_output_22 : decode cX8_output 22 = .ok (.ireturn, 1) := by decide +kernel
theorem dX8_output_23 : decode cX8_output 23 = .ok (.aload_n 0, 1) := by decide +kernel
theorem dX8_output_24 : decode cX8_output 24 = .ok (.iload_n 1, 1) := by decide +kernel
theorem dX8_output_25 : decode cX8_output 25 = .ok (.invokevirtual 170, 3) := by decide +kernel
theorem dX8_output_28 : decode cX8_output 28 = .ok (.iload_n 2, 1) := by decide +kernel
theorem dX8_output_29 : decode cX8_output 29 = .ok (.ifCond .lt 20, 3) := by decide +kernel
theorem dX8_output_32 : decode cX8_output 32 = .ok (.iload_n 2, 1) := by decide +kernel
theorem dX8_output_33 : decode cX8_output 33 = .ok (.aload_n 0, 1) := by decide +kernel
theorem dX8_output_34 : decode cX8_output 34 = .ok (.getfield 45, 3) := by decide +kernel
theorem dX8_output_37 : decode cX8_output 37 = .ok (.getfield 173, 3) := by decide +kernel
theorem dX8_output_40 : decode cX8_output 40 = .ok (.if_icmp .ge 9, 3) := by decide +kernel
theorem dX8_output_43 : decode cX8_output 43 = .ok (.iload_n 2, 1) := by decide +kernel
theorem dX8_output_44 : decode cX8_output 44 = .ok (.bipush 40, 2) := by decide +kernel
theorem dX8_output_46 : decode cX8_output 46 = .ok (.if_icmp .lt 9, 3) := by decide +kernel
theorem dX8_output_49 : decode cX8_output 49 = .ok (.sipush (-1002), 3) := by decide +kernel
theorem dX8_output_52 : decode cX8_output 52 = .ok (.goto 12, 3) := by decide +kernel
theorem dX8_output_55 : decode cX8_output 55 = .ok (.aload_n 0, 1) := by decide +kernel
theorem dX8_output_56 : decode cX8_output 56 = .ok (.getfield 45, 3) := by decide +kernel
theorem dX8_output_59 : decode cX8_output 59 = .ok (.getfield 176, 3) := by decide +kernel
theorem dX8_output_62 : decode cX8_output 62 = .ok (.iload_n 2, 1) := by decide +kernel
theorem dX8_output_63 : decode cX8_output 63 = .ok (.iaload, 1) := by decide +kernel
theorem dX8_output_64 : decode cX8_output 64 = .ok (.ireturn, 1) := by decide +kernel
set_option maxRecDepth 20000 in
theorem ggX8_run_X8_isRow : GoodIn wsX8_run wsX8_isRow := goodIn_r _ [8] (by decide +kernel) (by decide +kernel)
set_option maxRecDepth 20000 in
theorem gX8_run_X8_isRow : GoodIn wsX8_run (va_wsS RX8 164 yX8_isRow wsX8_isRow) := goodIn_app (goodIn_of _ (by decide +kernel)) ggX8_run_X8_isRow
set_option maxRecDepth 20000 in
theorem ggX8_run_X8_isMissing : GoodIn wsX8_run wsX8_isMissing := goodIn_r _ [12, 13, 14, 113, 114, 115, 116, 117, 118, 119, 120, 121, 122, 123, 124, 125, 126, 133, 134, 135] (by decide +kernel) (by decide +kernel)
set_option maxRecDepth 20000 in
theorem gX8_run_X8_isMissing : GoodIn wsX8_run (wsV RX8 167 RX8 yX8_isMissing wsX8_isMissing) := goodIn_app (goodIn_of _ (by decide +kernel)) ggX8_run_X8_isMissing
set_option maxRecDepth 20000 in
theorem ggX8_run_X8_followInThought : GoodIn wsX8_run wsX8_followInThought := goodIn_r _ [18, 19, 20, 1, 13, 21, 22, 23, 24, 25, 26, 27, 28, 29, 30, 31, 32, 33, 34, 35, 36, 37, 38, 39, 40, 41, 42, 43, 44, 45, 46, 47, 48, 49, 50, 51, 52, 53, 54, 55, 56, 57, 58, 59, 60, 61, 62, 63, 64, 65, 66, 67, 68, 69, 70, 71, 72, 73, 74, 75, 76, 77, 78, 79, 80, 81, 82, 83, 84, 85, 86, 87, 88, 89, 90, 91, 92, 93, 94, 95, 96, 97, 98, 99, 100, 101, 102, 103, 104, 105, 106, 107, 108, 109, 110, 111, 112, 113, 114, 115, 116, 117, 118, 119, 120, 121, 122, 123, 124, 125, 126, 136, 137, 138, 139, 140, 141, 142, 143, 144, 127, 128, 129, 130, 131, 132, 133, 134, 135] (by decide +kernel) (by decide +kernel)
set_option maxRecDepth 20000 in
theorem gX8_run_X8_followInThought : GoodIn wsX8_run (wsV RX8 170 RX8 yX8_followInThought wsX8_followInThought) := goodIn_app (goodIn_of _ (by decide +kernel)) ggX8_run_X8_followInThought
theorem dX8_run_0 : decode cX8_run 0 = .ok (.iload_n 1, 1) := by decide +kernel
theorem dX8_run_1 : decode cX8_run 1 = .ok (.invokestatic 164, 3) := by decide +kernel
theorem dX8_run_4 : decode cX8_run 4 = .ok (.ifCond .eq 12, 3) := by decide +kernel
theorem dX8_run_7 : decode cX8_run 7 = .ok (.iload_n 2, 1) := by decide +kernel
theorem dX8_run_8 : decode cX8_run 8 = .ok (.ifCond .lt 8, 3) := by decide +kernel
theorem dX8_run_11 : decode cX8_run 11 = .ok (.iload_n 2, 1) := by decide +kernel
theorem dX8_run_12 : decode cX8_run 12 = .ok (.iconst 2, 1) := by decide +kernel
theorem dX8_run_13 : decode cX8_run 13 = .ok (.if_icmp .le 5, 3) := by decide +kernel
theorem dX8_run_16 : decode cX8_run 16 = .ok (.iconst (-1), 1) := by decide +kernel
theorem dX8_run_17 : decode cX8_run 17 = .ok (.ireturn, 1) := by decide +kernel
theorem dX8_run_18 : decode cX8_run 18 = .ok (.aload_n 0, 1) := by decide +kernel
theorem dX8_run_19 : decode cX8_run 19 = .ok (.iload_n 1, 1) := by decide +kernel
theorem dX8_run_20 : decode cX8_run 20 = .ok (.invokevirtual 167, 3) := by decide +kernel
theorem dX8_run_23 : decode cX8_run 23 = .ok (.ifCond .eq 6, 3) := by decide +kernel
theorem dX8_run_26 : decode cX8_run 26 = .ok (.bipush (-11), 2) := by decide +kernel
theorem dX8_run_28 : decode cX8_run 28 = .ok (.ireturn, 1) := by decide +kernel
theorem dX8_run_29 : decode cX8_run 29 = .ok (.aload_n 0, 1) := by decide +kernel
theorem dX8_run_30 : decode cX8_run 30 = .ok (.iload_n 1, 1) := by decide +kernel
theorem dX8_run_31 : decode cX8_run 31 = .ok (.invokevirtual 170, 3) := by decide +kernel
theorem dX8_run_34 : decode cX8_run 34 = .ok (.iload_n 2, 1) := by decide +kernel
theorem dX8_run_35 : decode cX8_run 35 = .ok (.lookupswitch 41 #[(0, 25), (1, 33)], 25) := by decide +kernel
theorem dX8_run_60 : decode cX8_run 60 = .ok (.aload_n 0, 1) := by decide +kernel
theorem dX8_run_61 : decode cX8_run 61 = .ok (.getfield 45, 3) := by decide +kernel
theorem dX8_run_64 : decode cX8_run 64 = .ok (.getfield 173, 3) := by decide +kernel
theorem dX8_run_67 : decode cX8_run 67 = .ok (.ireturn, 1) := by decide +kernel
theorem dX8_run_68 : decode cX8_run 68 = .ok (.aload_n 0, 1) := by decide +kernel
theorem dX8_run_69 : decode cX8_run 69 = .ok (.getfield 45, 3) := by decide +kernel
theorem dX8_run_72 : decode cX8_run 72 = .ok (.getfield 179, 3) := by decide +kernel
theorem dX8_run_75 : decode cX8_run 75 = .ok (.ireturn, 1) := by decide +kernel
theorem dX8_run_76 : decode cX8_run 76 = .ok (.aload_n 0, 1) := by decide +kernel
theorem dX8_run_77 : decode cX8_run 77 = .ok (.getfield 45, 3) := by decide +kernel
theorem dX8_run_80 : decode cX8_run 80 = .ok (.getfield 182, 3) := by decide +kernel
theorem dX8_run_83 : decode cX8_run 83 = .ok (.ifCond .eq 7, 3) := by decide +kernel
theorem dX8_run_86 : decode cX8_run 86 = .ok (.iconst 1, 1) := by decide +kernel
theorem dX8_run_87 : decode cX8_run 87 = .ok (.goto 4, 3) := by decide +kernel
theorem dX8_run_90 : decode cX8_run 90 = .ok (.iconst 0, 1) := by decide +kernel
theorem dX8_run_91 : decode cX8_run 91 = .ok (.ireturn, 1) := by decide +kernel
set_option maxRecDepth 20000 in
theorem ggX8_go_X8_isRow : GoodIn wsX8_go wsX8_isRow := goodIn_r _ [11] (by decide +kernel) (by decide +kernel)
set_option maxRecDepth 20000 in
theorem gX8_go_X8_isRow : GoodIn wsX8_go (va_wsS RX8 164 yX8_isRow wsX8_isRow) := goodIn_app (goodIn_of _ (by decide +kernel)) ggX8_go_X8_isRow
set_option maxRecDepth 20000 in
theorem ggX8_go_X8_isMissing : GoodIn wsX8_go wsX8_isMissing := goodIn_r _ [15, 3, 16, 107, 108, 109, 110, 111, 112, 113, 114, 115, 116, 117, 118, 119, 120, 127, 128, 129] (by decide +kernel) (by decide +kernel)
set_option maxRecDepth 20000 in
theorem gX8_go_X8_isMissing : GoodIn wsX8_go (wsV RX8 167 RX8 yX8_isMissing wsX8_isMissing) := goodIn_app (goodIn_of _ (by decide +kernel)) ggX8_go_X8_isMissing
set_option maxRecDepth 20000 in
theorem ggX8_go_X2_follow : GoodIn wsX8_go wsX2_follow := goodIn_r _ [21, 22, 23, 24, 25, 26, 27, 28, 29, 30, 31, 32, 33, 34, 35, 36, 37, 38, 39, 40, 41, 42, 43, 44, 45, 46, 47, 48, 49, 50, 51, 52, 53, 54, 55, 56, 57, 58, 59, 60, 61, 62, 63, 64, 65, 66, 67, 68, 69, 70, 71, 72, 73, 74, 75, 76, 77, 78, 79, 80, 81, 82, 83, 84, 85, 86, 87, 88, 89, 90, 91, 92, 93, 94, 95, 96, 97, 98, 99, 100, 121, 122, 123, 124, 125, 126, 127, 128, 129, 130, 131, 132, 133, 134, 135, 136, 137, 138] (by decide +kernel) (by decide +kernel)
set_option maxRecDepth 20000 in
theorem gX8_go_X2_follow : GoodIn wsX8_go (wsV RX8 185 RX2 yX2_follow wsX2_follow) := goodIn_app (goodIn_of _ (by decide +kernel)) ggX8_go_X2_follow
set_option maxRecDepth 20000 in
theorem ggX8_go_X8_tellCauses : GoodIn wsX8_go wsX8_tellCauses := goodIn_r _ [104, 105, 106, 107, 108, 109, 110, 111, 112, 113, 114, 115, 116, 117, 118, 119, 120] (by decide +kernel) (by decide +kernel)
set_option maxRecDepth 20000 in
theorem gX8_go_X8_tellCauses : GoodIn wsX8_go (wsV RX8 136 RX8 yX8_tellCauses wsX8_tellCauses) := goodIn_app (goodIn_of _ (by decide +kernel)) ggX8_go_X8_tellCauses
theorem dX8_go_0 : decode cX8_go 0 = .ok (.iload_n 1, 1) := by decide +kernel
theorem dX8_go_1 : decode cX8_go 1 = .ok (.invokestatic 164, 3) := by decide +kernel
theorem dX8_go_4 : decode cX8_go 4 = .ok (.ifCond .ne 5, 3) := by decide +kernel
theorem dX8_go_7 : decode cX8_go 7 = .ok (.iconst (-1), 1) := by decide +kernel
theorem dX8_go_8 : decode cX8_go 8 = .ok (.ireturn, 1) := by decide +kernel
theorem dX8_go_9 : decode cX8_go 9 = .ok (.aload_n 0, 1) := by decide +kernel
theorem dX8_go_10 : decode cX8_go 10 = .ok (.iload_n 1, 1) := by decide +kernel
theorem dX8_go_11 : decode cX8_go 11 = .ok (.invokevirtual 167, 3) := by decide +kernel
theorem dX8_go_14 : decode cX8_go 14 = .ok (.ifCond .eq 6, 3) := by decide +kernel
theorem dX8_go_17 : decode cX8_go 17 = .ok (.bipush (-11), 2) := by decide +kernel
theorem dX8_go_19 : decode cX8_go 19 = .ok (.ireturn, 1) := by decide +kernel
theorem dX8_go_20 : decode cX8_go 20 = .ok (.aload_n 0, 1) := by decide +kernel
theorem dX8_go_21 : decode cX8_go 21 = .ok (.getfield 45, 3) := by decide +kernel
theorem dX8_go_24 : decode cX8_go 24 = .ok (.aload_n 0, 1) := by decide +kernel
theorem dX8_go_25 : decode cX8_go 25 = .ok (.getfield 12, 3) := by decide +kernel
theorem dX8_go_28 : decode cX8_go 28 = .ok (.aload_n 0, 1) := by decide +kernel
theorem dX8_go_29 : decode cX8_go 29 = .ok (.getfield 52, 3) := by decide +kernel
theorem dX8_go_32 : decode cX8_go 32 = .ok (.iload_n 1, 1) := by decide +kernel
theorem dX8_go_33 : decode cX8_go 33 = .ok (.aaload, 1) := by decide +kernel
theorem dX8_go_34 : decode cX8_go 34 = .ok (.invokevirtual 185, 3) := by decide +kernel
theorem dX8_go_37 : decode cX8_go 37 = .ok (.aload_n 0, 1) := by decide +kernel
theorem dX8_go_38 : decode cX8_go 38 = .ok (.dup, 1) := by decide +kernel
theorem dX8_go_39 : decode cX8_go 39 = .ok (.getfield 84, 3) := by decide +kernel
theorem dX8_go_42 : decode cX8_go 42 = .ok (.aload_n 0, 1) := by decide +kernel
theorem dX8_go_43 : decode cX8_go 43 = .ok (.getfield 45, 3) := by decide +kernel
theorem dX8_go_46 : decode cX8_go 46 = .ok (.getfield 173, 3) := by decide +kernel
theorem dX8_go_49 : decode cX8_go 49 = .ok (.iadd, 1) := by decide +kernel
theorem dX8_go_50 : decode cX8_go 50 = .ok (.putfield 84, 3) := by decide +kernel
theorem dX8_go_53 : decode cX8_go 53 = .ok (.aload_n 0, 1) := by decide +kernel
theorem dX8_go_54 : decode cX8_go 54 = .ok (.getfield 45, 3) := by decide +kernel
theorem dX8_go_57 : decode cX8_go 57 = .ok (.getfield 182, 3) := by decide +kernel
theorem dX8_go_60 : decode cX8_go 60 = .ok (.ifCond .eq 22, 3) := by decide +kernel
theorem dX8_go_63 : decode cX8_go 63 = .ok (.aload_n 0, 1) := by decide +kernel
theorem dX8_go_64 : decode cX8_go 64 = .ok (.aload_n 0, 1) := by decide +kernel
theorem dX8_go_65 : decode cX8_go 65 = .ok (.getfield 45, 3) := by decide +kernel
theorem dX8_go_68 : decode cX8_go 68 = .ok (.getfield 173, 3) := by decide +kernel
theorem dX8_go_71 : decode cX8_go 71 = .ok (.iconst 0, 1) := by decide +kernel
theorem dX8_go_72 : decode cX8_go 72 = .ok (.aload_n 0, 1) := by decide +kernel
theorem dX8_go_73 : decode cX8_go 73 = .ok (.getfield 45, 3) := by decide +kernel
theorem dX8_go_76 : decode cX8_go 76 = .ok (.getfield 189, 3) := by decide +kernel
theorem dX8_go_79 : decode cX8_go 79 = .ok (.invokevirtual 136, 3) := by decide +kernel
theorem dX8_go_82 : decode cX8_go 82 = .ok (.aload_n 0, 1) := by decide +kernel
theorem dX8_go_83 : decode cX8_go 83 = .ok (.getfield 45, 3) := by decide +kernel
theorem dX8_go_86 : decode cX8_go 86 = .ok (.getfield 173, 3) := by decide +kernel
theorem dX8_go_89 : decode cX8_go 89 = .ok (.ireturn, 1) := by decide +kernel
set_option maxRecDepth 20000 in
theorem ggX8_noise_X8_isRow : GoodIn wsX8_noise wsX8_isRow := goodIn_r _ [7] (by decide +kernel) (by decide +kernel)
set_option maxRecDepth 20000 in
theorem gX8_noise_X8_isRow : GoodIn wsX8_noise (va_wsS RX8 164 yX8_isRow wsX8_isRow) := goodIn_app (goodIn_of _ (by decide +kernel)) ggX8_noise_X8_isRow
set_option maxRecDepth 20000 in
theorem ggX8_noise_X8_isPart : GoodIn wsX8_noise wsX8_isPart := goodIn_r _ [10] (by decide +kernel) (by decide +kernel)
set_option maxRecDepth 20000 in
theorem gX8_noise_X8_isPart : GoodIn wsX8_noise (va_wsS RX8 192 yX8_isPart wsX8_isPart) := goodIn_app (goodIn_of _ (by decide +kernel)) ggX8_noise_X8_isPart
set_option maxRecDepth 20000 in
theorem ggX8_noise_X8_isMissing : GoodIn wsX8_noise wsX8_isMissing := goodIn_r _ [14, 15, 16, 126, 127, 128, 129, 130, 131, 132, 133, 134, 135, 136, 137, 138, 139, 140, 141, 142] (by decide +kernel) (by decide +kernel)
set_option maxRecDepth 20000 in
theorem gX8_noise_X8_isMissing : GoodIn wsX8_noise (wsV RX8 167 RX8 yX8_isMissing wsX8_isMissing) := goodIn_app (goodIn_of _ (by decide +kernel)) ggX8_noise_X8_isMissing
set_option maxRecDepth 20000 in
theorem ggX8_noise_X8_followInThought : GoodIn wsX8_noise wsX8_followInThought := goodIn_r _ [20, 21, 3, 2, 15, 22, 23, 24, 25, 26, 27, 28, 29, 30, 31, 32, 33, 34, 35, 36, 37, 38, 39, 40, 41, 42, 43, 44, 45, 46, 47, 48, 49, 50, 51, 52, 53, 54, 55, 56, 57, 58, 59, 60, 61, 62, 63, 64, 65, 66, 67, 68, 69, 70, 71, 72, 73, 74, 75, 76, 77, 78, 79, 80, 81, 82, 83, 84, 85, 86, 87, 88, 89, 90, 91, 92, 93, 94, 95, 96, 97, 98, 99, 100, 101, 102, 103, 104, 105, 106, 107, 108, 109, 110, 111, 112, 113, 126, 127, 128, 129, 130, 131, 132, 133, 134, 135, 136, 137, 138, 139, 143, 144, 145, 146, 147, 148, 149, 150, 151, 152, 153, 154, 155, 156, 157, 140, 141, 142] (by decide +kernel) (by decide +kernel)
set_option maxRecDepth 20000 in
theorem gX8_noise_X8_followInThought : GoodIn wsX8_noise (wsV RX8 170 RX8 yX8_followInThought wsX8_followInThought) := goodIn_app (goodIn_of _ (by decide +kernel)) ggX8_noise_X8_followInThought
set_option maxRecDepth 20000 in
theorem ggX8_noise_X2_lossesTogether : GoodIn wsX8_noise wsX2_lossesTogether := goodIn_r _ [117, 38, 47, 118, 119, 59, 120, 152, 153, 154, 155, 156, 157] (by decide +kernel) (by decide +kernel)
set_option maxRecDepth 20000 in
theorem gX8_noise_X2_lossesTogether : GoodIn wsX8_noise (wsV RX8 197 RX2 yX2_lossesTogether wsX2_lossesTogether) := goodIn_app (goodIn_of _ (by decide +kernel)) ggX8_noise_X2_lossesTogether
set_option maxRecDepth 20000 in
theorem ggX8_noise_X3_unit : GoodIn wsX8_noise wsX3_unit := goodIn_r _ [94, 27, 143, 144, 145, 146, 147, 148, 149, 150, 151] (by decide +kernel) (by decide +kernel)
set_option maxRecDepth 20000 in
theorem gX8_noise_X3_unit : GoodIn wsX8_noise (wsV RX8 201 RX3 yX3_unit wsX3_unit) := goodIn_app (goodIn_of _ (by decide +kernel)) ggX8_noise_X3_unit
set_option maxRecDepth 20000 in
theorem ggX8_noise_X8_inLowestTerms : GoodIn wsX8_noise wsX8_inLowestTerms := goodIn_r _ [124, 125] (by decide +kernel) (by decide +kernel)
set_option maxRecDepth 20000 in
theorem gX8_noise_X8_inLowestTerms : GoodIn wsX8_noise (va_wsS RX8 204 yX8_inLowestTerms wsX8_inLowestTerms) := goodIn_app (goodIn_of _ (by decide +kernel)) ggX8_noise_X8_inLowestTerms
theorem dX8_noise_0 : decode cX8_noise 0 = .ok (.iload_n 1, 1) := by decide +kernel
theorem dX8_noise_1 : decode cX8_noise 1 = .ok (.invokestatic 164, 3) := by decide +kernel
theorem dX8_noise_4 : decode cX8_noise 4 = .ok (.ifCond .eq 18, 3) := by decide +kernel
theorem dX8_noise_7 : decode cX8_noise 7 = .ok (.iload_n 2, 1) := by decide +kernel
theorem dX8_noise_8 : decode cX8_noise 8 = .ok (.invokestatic 192, 3) := by decide +kernel
theorem dX8_noise_11 : decode cX8_noise 11 = .ok (.ifCond .eq 11, 3) := by decide +kernel
theorem dX8_noise_14 : decode cX8_noise 14 = .ok (.aload_n 0, 1) := by decide +kernel
theorem dX8_noise_15 : decode cX8_noise 15 = .ok (.iload_n 1, 1) := by decide +kernel
theorem dX8_noise_16 : decode cX8_noise 16 = .ok (.invokevirtual 167, 3) := by decide +kernel
theorem dX8_noise_19 : decode cX8_noise 19 = .ok (.ifCond .eq 7, 3) := by decide +kernel
theorem dX8_noise_22 : decode cX8_noise 22 = .ok (.ldc2_w 195, 3) := by decide +kernel
theorem dX8_noise_25 : decode cX8_noise 25 = .ok (.lreturn, 1) := by decide +kernel
theorem dX8_noise_26 : decode cX8_noise 26 = .ok (.aload_n 0, 1) := by decide +kernel
theorem dX8_noise_27 : decode cX8_noise 27 = .ok (.iload_n 1, 1) := by decide +kernel
theorem dX8_noise_28 : decode cX8_noise 28 = .ok (.invokevirtual 170, 3) := by decide +kernel
theorem dX8_noise_31 : decode cX8_noise 31 = .ok (.aload_n 0, 1) := by decide +kernel
theorem dX8_noise_32 : decode cX8_noise 32 = .ok (.getfield 45, 3) := by decide +kernel
theorem dX8_noise_35 : decode cX8_noise 35 = .ok (.invokevirtual 197, 3) := by decide +kernel
theorem dX8_noise_38 : decode cX8_noise 38 = .ok (.i2l, 1) := by decide +kernel
theorem dX8_noise_39 : decode cX8_noise 39 = .ok (.aload_n 0, 1) := by decide +kernel
theorem dX8_noise_40 : decode cX8_noise 40 = .ok (.getfield 12, 3) := by decide +kernel
theorem dX8_noise_43 : decode cX8_noise 43 = .ok (.invokevirtual 201, 3) := by decide +kernel
theorem dX8_noise_46 : decode cX8_noise 46 = .ok (.i2l, 1) := by decide +kernel
theorem dX8_noise_47 : decode cX8_noise 47 = .ok (.iload_n 2, 1) := by decide +kernel
theorem dX8_noise_48 : decode cX8_noise 48 = .ok (.invokestatic 204, 3) := by decide +kernel
theorem dX8_noise_51 : decode cX8_noise 51 = .ok (.lreturn, 1) := by decide +kernel
set_option maxRecDepth 20000 in
theorem ggX8_levels_X8_isRow : GoodIn wsX8_levels wsX8_isRow := goodIn_r _ [5] (by decide +kernel) (by decide +kernel)
set_option maxRecDepth 20000 in
theorem gX8_levels_X8_isRow : GoodIn wsX8_levels (va_wsS RX8 164 yX8_isRow wsX8_isRow) := goodIn_app (goodIn_of _ (by decide +kernel)) ggX8_levels_X8_isRow
set_option maxRecDepth 20000 in
theorem ggX8_levels_X8_isMissing : GoodIn wsX8_levels wsX8_isMissing := goodIn_r _ [9, 10, 11, 118, 119, 120, 121, 122, 123, 124, 125, 126, 127, 128, 129, 130, 131, 132, 133, 134] (by decide +kernel) (by decide +kernel)
set_option maxRecDepth 20000 in
theorem gX8_levels_X8_isMissing : GoodIn wsX8_levels (wsV RX8 167 RX8 yX8_isMissing wsX8_isMissing) := goodIn_app (goodIn_of _ (by decide +kernel)) ggX8_levels_X8_isMissing
set_option maxRecDepth 20000 in
theorem ggX8_levels_X8_followInThought : GoodIn wsX8_levels wsX8_followInThought := goodIn_r _ [15, 16, 17, 1, 10, 18, 19, 20, 21, 22, 23, 24, 25, 26, 27, 28, 29, 30, 31, 32, 33, 34, 35, 36, 37, 38, 39, 40, 41, 42, 43, 44, 45, 46, 47, 48, 49, 50, 51, 52, 53, 54, 55, 56, 57, 58, 59, 60, 61, 62, 63, 64, 65, 66, 67, 68, 69, 70, 71, 72, 73, 74, 75, 76, 77, 78, 79, 80, 81, 82, 83, 84, 85, 86, 87, 88, 89, 90, 91, 92, 93, 94, 95, 96, 97, 98, 99, 100, 101, 102, 103, 104, 105, 106, 107, 108, 109, 118, 119, 120, 121, 122, 123, 124, 125, 126, 127, 128, 129, 130, 131, 135, 136, 137, 138, 139, 140, 141, 142, 143, 144, 145, 146, 147, 148, 149, 132, 133, 134] (by decide +kernel) (by decide +kernel)
set_option maxRecDepth 20000 in
theorem gX8_levels_X8_followInThought : GoodIn wsX8_levels (wsV RX8 170 RX8 yX8_followInThought wsX8_followInThought) := goodIn_app (goodIn_of _ (by decide +kernel)) ggX8_levels_X8_followInThought
set_option maxRecDepth 20000 in
theorem ggX8_levels_X2_howManyLevels : GoodIn wsX8_levels wsX2_howManyLevels := goodIn_r _ [113, 34, 114, 115, 116, 32, 117, 43, 144, 145, 146, 147, 148, 149] (by decide +kernel) (by decide +kernel)
set_option maxRecDepth 20000 in
theorem gX8_levels_X2_howManyLevels : GoodIn wsX8_levels (wsV RX8 208 RX2 yX2_howManyLevels wsX2_howManyLevels) := goodIn_app (goodIn_of _ (by decide +kernel)) ggX8_levels_X2_howManyLevels
theorem dX8_levels_0 : decode cX8_levels 0 = .ok (.iload_n 1, 1) := by decide +kernel
theorem dX8_levels_1 : decode cX8_levels 1 = .ok (.invokestatic 164, 3) := by decide +kernel
theorem dX8_levels_4 : decode cX8_levels 4 = .ok (.ifCond .ne 5, 3) := by decide +kernel
theorem dX8_levels_7 : decode cX8_levels 7 = .ok (.iconst (-1), 1) := by decide +kernel
theorem dX8_levels_8 : decode cX8_levels 8 = .ok (.ireturn, 1) := by decide +kernel
theorem dX8_levels_9 : decode cX8_levels 9 = .ok (.aload_n 0, 1) := by decide +kernel
theorem dX8_levels_10 : decode cX8_levels 10 = .ok (.iload_n 1, 1) := by decide +kernel
theorem dX8_levels_11 : decode cX8_levels 11 = .ok (.invokevirtual 167, 3) := by decide +kernel
theorem dX8_levels_14 : decode cX8_levels 14 = .ok (.ifCond .eq 6, 3) := by decide +kernel
theorem dX8_levels_17 : decode cX8_levels 17 = .ok (.bipush (-11), 2) := by decide +kernel
theorem dX8_levels_19 : decode cX8_levels 19 = .ok (.ireturn, 1) := by decide +kernel
theorem dX8_levels_20 : decode cX8_levels 20 = .ok (.aload_n 0, 1) := by decide +kernel
theorem dX8_levels_21 : decode cX8_levels 21 = .ok (.iload_n 1, 1) := by decide +kernel
theorem dX8_levels_22 : decode cX8_levels 22 = .ok (.invokevirtual 170, 3) := by decide +kernel
theorem dX8_levels_25 : decode cX8_levels 25 = .ok (.aload_n 0, 1) := by decide +kernel
theorem dX8_levels_26 : decode cX8_levels 26 = .ok (.getfield 45, 3) := by decide +kernel
theorem dX8_levels_29 : decode cX8_levels 29 = .ok (.invokevirtual 208, 3) := by decide +kernel
theorem dX8_levels_32 : decode cX8_levels 32 = .ok (.ireturn, 1) := by decide +kernel
set_option maxRecDepth 20000 in
theorem ggX8_level_X8_isRow : GoodIn wsX8_level wsX8_isRow := goodIn_r _ [8] (by decide +kernel) (by decide +kernel)
set_option maxRecDepth 20000 in
theorem gX8_level_X8_isRow : GoodIn wsX8_level (va_wsS RX8 164 yX8_isRow wsX8_isRow) := goodIn_app (goodIn_of _ (by decide +kernel)) ggX8_level_X8_isRow
set_option maxRecDepth 20000 in
theorem ggX8_level_X8_isMissing : GoodIn wsX8_level wsX8_isMissing := goodIn_r _ [12, 13, 14, 129, 130, 131, 132, 133, 134, 135, 136, 137, 138, 139, 140, 141, 142, 149, 150, 151] (by decide +kernel) (by decide +kernel)
set_option maxRecDepth 20000 in
theorem gX8_level_X8_isMissing : GoodIn wsX8_level (wsV RX8 167 RX8 yX8_isMissing wsX8_isMissing) := goodIn_app (goodIn_of _ (by decide +kernel)) ggX8_level_X8_isMissing
set_option maxRecDepth 20000 in
theorem ggX8_level_X8_followInThought : GoodIn wsX8_level wsX8_followInThought := goodIn_r _ [18, 19, 4, 2, 13, 20, 21, 22, 23, 24, 25, 26, 27, 28, 29, 30, 31, 32, 33, 34, 35, 36, 37, 38, 39, 40, 41, 42, 43, 44, 45, 46, 47, 48, 49, 50, 51, 52, 53, 54, 55, 56, 57, 58, 59, 60, 61, 62, 63, 64, 65, 66, 67, 68, 69, 70, 71, 72, 73, 74, 75, 76, 77, 78, 79, 80, 81, 82, 83, 84, 85, 86, 87, 88, 89, 90, 91, 92, 93, 94, 95, 96, 97, 98, 99, 100, 101, 102, 103, 104, 105, 106, 107, 108, 109, 110, 111, 129, 130, 131, 132, 133, 134, 135, 136, 137, 138, 139, 140, 141, 142, 152, 153, 154, 155, 156, 157, 158, 159, 160, 143, 144, 145, 146, 147, 148, 149, 150, 151] (by decide +kernel) (by decide +kernel)
set_option maxRecDepth 20000 in
theorem gX8_level_X8_followInThought : GoodIn wsX8_level (wsV RX8 170 RX8 yX8_followInThought wsX8_followInThought) := goodIn_app (goodIn_of _ (by decide +kernel)) ggX8_level_X8_followInThought
set_option maxRecDepth 20000 in
theorem ggX8_level_X2_placeOfLevel : GoodIn wsX8_level wsX2_placeOfLevel := goodIn_r _ [115, 36, 116, 117, 118, 34, 119, 45, 143, 144, 145, 146, 147, 148] (by decide +kernel) (by decide +kernel)
set_option maxRecDepth 20000 in
theorem gX8_level_X2_placeOfLevel : GoodIn wsX8_level (wsV RX8 211 RX2 yX2_placeOfLevel wsX2_placeOfLevel) := goodIn_app (goodIn_of _ (by decide +kernel)) ggX8_level_X2_placeOfLevel
set_option maxRecDepth 20000 in
theorem ggX8_level_X2_howOften : GoodIn wsX8_level wsX2_howOften := goodIn_r _ [123, 36, 45, 143, 144, 145, 146, 147, 148] (by decide +kernel) (by decide +kernel)
set_option maxRecDepth 20000 in
theorem gX8_level_X2_howOften : GoodIn wsX8_level (wsV RX8 218 RX2 yX2_howOften wsX2_howOften) := goodIn_app (goodIn_of _ (by decide +kernel)) ggX8_level_X2_howOften
set_option maxRecDepth 20000 in
theorem ggX8_level_X3_unit : GoodIn wsX8_level wsX3_unit := goodIn_r _ [92, 25, 152, 153, 154, 155, 156, 157, 158, 159, 160] (by decide +kernel) (by decide +kernel)
set_option maxRecDepth 20000 in
theorem gX8_level_X3_unit : GoodIn wsX8_level (wsV RX8 201 RX3 yX3_unit wsX3_unit) := goodIn_app (goodIn_of _ (by decide +kernel)) ggX8_level_X3_unit
set_option maxRecDepth 20000 in
theorem ggX8_level_X8_inLowestTerms : GoodIn wsX8_level wsX8_inLowestTerms := goodIn_r _ [127, 128] (by decide +kernel) (by decide +kernel)
set_option maxRecDepth 20000 in
theorem gX8_level_X8_inLowestTerms : GoodIn wsX8_level (va_wsS RX8 204 yX8_inLowestTerms wsX8_inLowestTerms) := goodIn_app (goodIn_of _ (by decide +kernel)) ggX8_level_X8_inLowestTerms
theorem dX8_level_0 : decode cX8_level 0 = .ok (.iload_n 1, 1) := by decide +kernel
theorem dX8_level_1 : decode cX8_level 1 = .ok (.invokestatic 164, 3) := by decide +kernel
theorem dX8_level_4 : decode cX8_level 4 = .ok (.ifCond .eq 20, 3) := by decide +kernel
theorem dX8_level_7 : decode cX8_level 7 = .ok (.iload_n 3, 1) := by decide +kernel
theorem dX8_level_8 : decode cX8_level 8 = .ok (.ifCond .lt 16, 3) := by decide +kernel
theorem dX8_level_11 : decode cX8_level 11 = .ok (.iload_n 3, 1) := by decide +kernel
theorem dX8_level_12 : decode cX8_level 12 = .ok (.iconst 2, 1) := by decide +kernel
theorem dX8_level_13 : decode cX8_level 13 = .ok (.if_icmp .gt 11, 3) := by decide +kernel
theorem dX8_level_16 : decode cX8_level 16 = .ok (.aload_n 0, 1) := by decide +kernel
theorem dX8_level_17 : decode cX8_level 17 = .ok (.iload_n 1, 1) := by decide +kernel
theorem dX8_level_18 : decode cX8_level 18 = .ok (.invokevirtual 167, 3) := by decide +kernel
theorem dX8_level_21 : decode cX8_level 21 = .ok (.ifCond .eq 6, 3) := by decide +kernel
theorem dX8_level_24 : decode cX8_level 24 = .ok (.ldc 142, 2) := by decide +kernel
theorem dX8_level_26 : decode cX8_level 26 = .ok (.ireturn, 1) := by decide +kernel
theorem dX8_level_27 : decode cX8_level 27 = .ok (.aload_n 0, 1) := by decide +kernel
theorem dX8_level_28 : decode cX8_level 28 = .ok (.iload_n 1, 1) := by decide +kernel
theorem dX8_level_29 : decode cX8_level 29 = .ok (.invokevirtual 170, 3) := by decide +kernel
theorem dX8_level_32 : decode cX8_level 32 = .ok (.aload_n 0, 1) := by decide +kernel
theorem dX8_level_33 : decode cX8_level 33 = .ok (.getfield 45, 3) := by decide +kernel
theorem dX8_level_36 : decode cX8_level 36 = .ok (.iload_n 2, 1) := by decide +kernel
theorem dX8_level_37 : decode cX8_level 37 = .ok (.invokevirtual 211, 3) := by decide +kernel
theorem dX8_level_40 : decode cX8_level 40 = .ok (.istore 4, 2) := by decide +kernel
theorem dX8_level_42 : decode cX8_level 42 = .ok (.iload 4, 2) := by decide +kernel
theorem dX8_level_44 : decode cX8_level 44 = .ok (.ifCond .lt 10, 3) := by decide +kernel
theorem dX8_level_47 : decode cX8_level 47 = .ok (.iload 4, 2) := by decide +kernel
theorem dX8_level_49 : decode cX8_level 49 = .ok (.bipush 40, 2) := by decide +kernel
theorem dX8_level_51 : decode cX8_level 51 = .ok (.if_icmp .lt 6, 3) := by decide +kernel
theorem dX8_level_54 : decode cX8_level 54 = .ok (.ldc 142, 2) := by decide +kernel
theorem dX8_level_56 : decode cX8_level 56 = .ok (.ireturn, 1) := by decide +kernel
theorem dX8_level_57 : decode cX8_level 57 = .ok (.aload_n 0, 1) := by decide +kernel
theorem dX8_level_58 : decode cX8_level 58 = .ok (.getfield 45, 3) := by decide +kernel
theorem dX8_level_61 : decode cX8_level 61 = .ok (.getfield 215, 3) := by decide +kernel
theorem dX8_level_64 : decode cX8_level 64 = .ok (.iload 4, 2) := by decide +kernel
theorem dX8_level_66 : decode cX8_level 66 = .ok (.iaload, 1) := by decide +kernel
theorem dX8_level_67 : decode cX8_level 67 = .ok (.istore 5, 2) := by decide +kernel
theorem dX8_level_69 : decode cX8_level 69 = .ok (.iload_n 3, 1) := by decide +kernel
theorem dX8_level_70 : decode cX8_level 70 = .ok (.iconst 2, 1) := by decide +kernel
theorem dX8_level_71 : decode cX8_level 71 = .ok (.if_icmp .ne 15, 3) := by decide +kernel
theorem dX8_level_74 : decode cX8_level 74 = .ok (.aload_n 0, 1) := by decide +kernel
theorem dX8_level_75 : decode cX8_level 75 = .ok (.getfield 45, 3) := by decide +kernel
theorem dX8_level_78 : decode cX8_level 78 = .ok (.iload 5, 2) := by decide +kernel
theorem dX8_level_80 : decode cX8_level 80 = .ok (.invokevirtual 218, 3) := by decide +kernel
theorem dX8_level_83 : decode cX8_level 83 = .ok (.goto 19, 3) := by decide +kernel
theorem dX8_level_86 : decode cX8_level 86 = .ok (.iload 5, 2) := by decide +kernel
theorem dX8_level_88 : decode cX8_level 88 = .ok (.i2l, 1) := by decide +kernel
theorem dX8_level_89 : decode cX8_level 89 = .ok (.aload_n 0, 1) := by decide +kernel
theorem dX8_level_90 : decode cX8_level 90 = .ok (.getfield 12, 3) := by decide +kernel
theorem dX8_level_93 : decode cX8_level 93 = .ok (.invokevirtual 201, 3) := by decide +kernel
theorem dX8_level_96 : decode cX8_level 96 = .ok (.i2l, 1) := by decide +kernel
theorem dX8_level_97 : decode cX8_level 97 = .ok (.iload_n 3, 1) := by decide +kernel
theorem dX8_level_98 : decode cX8_level 98 = .ok (.invokestatic 204, 3) := by decide +kernel
theorem dX8_level_101 : decode cX8_level 101 = .ok (.l2i, 1) := by decide +kernel
theorem dX8_level_102 : decode cX8_level 102 = .ok (.ireturn, 1) := by decide +kernel
set_option maxRecDepth 20000 in
theorem ggX8_measure_X8_isRow : GoodIn wsX8_measure wsX8_isRow := goodIn_r _ [13] (by decide +kernel) (by decide +kernel)
set_option maxRecDepth 20000 in
theorem gX8_measure_X8_isRow : GoodIn wsX8_measure (va_wsS RX8 164 yX8_isRow wsX8_isRow) := goodIn_app (goodIn_of _ (by decide +kernel)) ggX8_measure_X8_isRow
set_option maxRecDepth 20000 in
theorem ggX8_measure_X8_isMissing : GoodIn wsX8_measure wsX8_isMissing := goodIn_r _ [17, 18, 19, 124, 125, 126, 127, 128, 129, 130, 131, 132, 133, 134, 135, 136, 137, 144, 145, 146] (by decide +kernel) (by decide +kernel)
set_option maxRecDepth 20000 in
theorem gX8_measure_X8_isMissing : GoodIn wsX8_measure (wsV RX8 167 RX8 yX8_isMissing wsX8_isMissing) := goodIn_app (goodIn_of _ (by decide +kernel)) ggX8_measure_X8_isMissing
set_option maxRecDepth 20000 in
theorem ggX8_measure_X8_followInThought : GoodIn wsX8_measure wsX8_followInThought := goodIn_r _ [23, 24, 25, 3, 18, 26, 27, 28, 29, 30, 31, 32, 33, 34, 35, 36, 37, 38, 39, 40, 41, 42, 43, 44, 45, 46, 47, 48, 49, 50, 51, 52, 53, 54, 55, 56, 57, 58, 59, 60, 61, 62, 63, 64, 65, 66, 67, 68, 69, 70, 71, 72, 73, 74, 75, 76, 77, 78, 79, 80, 81, 82, 83, 84, 85, 86, 87, 88, 89, 90, 91, 92, 93, 94, 95, 96, 97, 98, 99, 100, 101, 102, 103, 104, 105, 106, 107, 108, 109, 110, 111, 112, 113, 114, 115, 116, 117, 124, 125, 126, 127, 128, 129, 130, 131, 132, 133, 134, 135, 136, 137, 147, 148, 149, 150, 151, 152, 153, 154, 155, 138, 139, 140, 141, 142, 143, 144, 145, 146] (by decide +kernel) (by decide +kernel)
set_option maxRecDepth 20000 in
theorem gX8_measure_X8_followInThought : GoodIn wsX8_measure (wsV RX8 170 RX8 yX8_followInThought wsX8_followInThought) := goodIn_app (goodIn_of _ (by decide +kernel)) ggX8_measure_X8_followInThought
set_option maxRecDepth 20000 in
theorem ggX8_measure_X8_tellCauses : GoodIn wsX8_measure wsX8_tellCauses := goodIn_r _ [121, 122, 123, 124, 125, 126, 127, 128, 129, 130, 131, 132, 133, 134, 135, 136, 137] (by decide +kernel) (by decide +kernel)
set_option maxRecDepth 20000 in
theorem gX8_measure_X8_tellCauses : GoodIn wsX8_measure (wsV RX8 136 RX8 yX8_tellCauses wsX8_tellCauses) := goodIn_app (goodIn_of _ (by decide +kernel)) ggX8_measure_X8_tellCauses
theorem dX8_measure_0 : decode cX8_measure 0 = .ok (.iload_n 1, 1) := by decide +kernel
theorem dX8_measure_1 : decode cX8_measure 1 = .ok (.invokestatic 164, 3) := by decide +kernel
theorem dX8_measure_4 : decode cX8_measure 4 = .ok (.ifCond .eq 22, 3) := by decide +kernel
theorem dX8_measure_7 : decode cX8_measure 7 = .ok (.iload_n 2, 1) := by decide +kernel
theorem dX8_measure_8 : decode cX8_measure 8 = .ok (.iconst 1, 1) := by decide +kernel
theorem dX8_measure_9 : decode cX8_measure 9 = .ok (.if_icmp .lt 17, 3) := by decide +kernel
theorem dX8_measure_12 : decode cX8_measure 12 = .ok (.iload_n 2, 1) := by decide +kernel
theorem dX8_measure_13 : decode cX8_measure 13 = .ok (.ldc 221, 2) := by decide +kernel
theorem dX8_measure_15 : decode cX8_measure 15 = .ok (.if_icmp .gt 11, 3) := by decide +kernel
theorem dX8_measure_18 : decode cX8_measure 18 = .ok (.aload_n 0, 1) := by decide +kernel
theorem dX8_measure_19 : decode cX8_measure 19 = .ok (.iload_n 1, 1) := by decide +kernel
theorem dX8_measure_20 : decode cX8_measure 20 = .ok (.invokevirtual 167, 3) := by decide +kernel
theorem dX8_measure_23 : decode cX8_measure 23 = .ok (.ifCond .eq 7, 3) := by decide +kernel
theorem dX8_measure_26 : decode cX8_measure 26 = .ok (.ldc2_w 195, 3) := by decide +kernel
theorem dX8_measure_29 : decode cX8_measure 29 = .ok (.lreturn, 1) := by decide +kernel
theorem dX8_measure_30 : decode cX8_measure 30 = .ok (.aload_n 0, 1) := by decide +kernel
theorem dX8_measure_31 : decode cX8_measure 31 = .ok (.iload_n 1, 1) := by decide +kernel
theorem dX8_measure_32 : decode cX8_measure 32 = .ok (.invokevirtual 170, 3) := by decide +kernel
theorem dX8_measure_35 : decode cX8_measure 35 = .ok (.lconst 0, 1) := by decide +kernel
theorem dX8_measure_36 : decode cX8_measure 36 = .ok (.lstore_n 3, 1) := by decide +kernel
theorem dX8_measure_37 : decode cX8_measure 37 = .ok (.iconst 0, 1) := by decide +kernel
theorem dX8_measure_38 : decode cX8_measure 38 = .ok (.istore 5, 2) := by decide +kernel
theorem dX8_measure_40 : decode cX8_measure 40 = .ok (.iload 5, 2) := by decide +kernel
theorem dX8_measure_42 : decode cX8_measure 42 = .ok (.aload_n 0, 1) := by decide +kernel
theorem dX8_measure_43 : decode cX8_measure 43 = .ok (.getfield 45, 3) := by decide +kernel
theorem dX8_measure_46 : decode cX8_measure 46 = .ok (.getfield 173, 3) := by decide +kernel
theorem dX8_measure_49 : decode cX8_measure 49 = .ok (.if_icmp .ge 89, 3) := by decide +kernel
theorem dX8_measure_52 : decode cX8_measure 52 = .ok (.iload 5, 2) := by decide +kernel
theorem dX8_measure_54 : decode cX8_measure 54 = .ok (.bipush 40, 2) := by decide +kernel
theorem dX8_measure_56 : decode cX8_measure 56 = .ok (.if_icmp .ge 82, 3) := by decide +kernel
theorem dX8_measure_59 : decode cX8_measure 59 = .ok (.aload_n 0, 1) := by decide +kernel
theorem dX8_measure_60 : decode cX8_measure 60 = .ok (.getfield 45, 3) := by decide +kernel
theorem dX8_measure_63 : decode cX8_measure 63 = .ok (.getfield 176, 3) := by decide +kernel
theorem dX8_measure_66 : decode cX8_measure 66 = .ok (.iload 5, 2) := by decide +kernel
theorem dX8_measure_68 : decode cX8_measure 68 = .ok (.iaload, 1) := by decide +kernel
theorem dX8_measure_69 : decode cX8_measure 69 = .ok (.istore 6, 2) := by decide +kernel
theorem dX8_measure_71 : decode cX8_measure 71 = .ok (.iload 6, 2) := by decide +kernel
theorem dX8_measure_73 : decode cX8_measure 73 = .ok (.i2l, 1) := by decide +kernel
theorem dX8_measure_74 : decode cX8_measure 74 = .ok (.iload 6, 2) := by decide +kernel
theorem dX8_measure_76 : decode cX8_measure 76 = .ok (.i2l, 1) := by decide +kernel
theorem dX8_measure_77 : decode cX8_measure 77 = .ok (.lmul, 1) := by decide +kernel
theorem dX8_measure_78 : decode cX8_measure 78 = .ok (.iload_n 2, 1) := by decide +kernel
theorem dX8_measure_79 : decode cX8_measure 79 = .ok (.i2l, 1) := by decide +kernel
theorem dX8_measure_80 : decode cX8_measure 80 = .ok (.lmul, 1) := by decide +kernel
theorem dX8_measure_81 : decode cX8_measure 81 = .ok (.lstore 7, 2) := by decide +kernel
theorem dX8_measure_83 : decode cX8_measure 83 = .ok (.lload 7, 2) := by decide +kernel
theorem dX8_measure_85 : decode cX8_measure 85 = .ok (.ldc2_w 222, 3) := by decide +kernel
theorem dX8_measure_88 : decode cX8_measure 88 = .ok (.lcmp, 1) := by decide +kernel
theorem dX8_measure_89 : decode cX8_measure 89 = .ok (.ifCond .le 16, 3) := by decide +kernel
theorem dX8_measure_92 : decode cX8_measure 92 = .ok (.aload_n 0, 1) := by decide +kernel
theorem dX8_measure_93 : decode cX8_measure 93 = .ok (.iload 5, 2) := by decide +kernel
theorem dX8_measure_95 : decode cX8_measure 95 = .ok (.iconst 1, 1) := by decide +kernel
theorem dX8_measure_96 : decode cX8_measure 96 = .ok (.iload 6, 2) := by decide +kernel
theorem dX8_measure_98 : decode cX8_measure 98 = .ok (.invokevirtual 136, 3) := by decide +kernel
theorem dX8_measure_101 : decode cX8_measure 101 = .ok (.ldc2_w 224, 3) := by decide +kernel
theorem dX8_measure_104 : decode cX8_measure 104 = .ok (.lreturn, 1) := by decide +kernel
theorem dX8_measure_105 : decode cX8_measure 105 = .ok (.lload_n 3, 1) := by decide +kernel
theorem dX8_measure_106 : decode cX8_measure 106 = .ok (.lload 7, 2) := by decide +kernel
theorem dX8_measure_108 : decode cX8_measure 108 = .ok (.ladd, 1) := by decide +kernel
theorem dX8_measure_109 : decode cX8_measure 109 = .ok (.lstore_n 3, 1) := by decide +kernel
theorem dX8_measure_110 : decode cX8_measure 110 = .ok (.lload_n 3, 1) := by decide +kernel
theorem dX8_measure_111 : decode cX8_measure 111 = .ok (.ldc2_w 222, 3) := by decide +kernel
theorem dX8_measure_114 : decode cX8_measure 114 = .ok (.lcmp, 1) := by decide +kernel
theorem dX8_measure_115 : decode cX8_measure 115 = .ok (.ifCond .le 17, 3) := by decide +kernel
theorem dX8_measure_118 : decode cX8_measure 118 = .ok (.aload_n 0, 1) := by decide +kernel
theorem dX8_measure_119 : decode cX8_measure 119 = .ok (.iload 5, 2) := by decide +kernel
theorem dX8_measure_121 : decode cX8_measure 121 = .ok (.iconst 2, 1) := by decide +kernel
theorem dX8_measure_122 : decode cX8_measure 122 = .ok (.lload 7, 2) := by decide +kernel
theorem dX8_measure_124 : decode cX8_measure 124 = .ok (.l2i, 1) := by decide +kernel
theorem dX8_measure_125 : decode cX8_measure 125 = .ok (.invokevirtual 136, 3) := by decide +kernel
theorem dX8_measure_128 : decode cX8_measure 128 = .ok (.ldc2_w 224, 3) := by decide +kernel
theorem dX8_measure_131 : decode cX8_measure 131 = .ok (.lreturn, 1) := by decide +kernel
theorem dX8_measure_132 : decode cX8_measure 132 = .ok (.iinc 5 1, 3) := by decide +kernel
theorem dX8_measure_135 : decode cX8_measure 135 = .ok (.goto (-95), 3) := by decide +kernel
theorem dX8_measure_138 : decode cX8_measure 138 = .ok (.aload_n 0, 1) := by decide +kernel
theorem dX8_measure_139 : decode cX8_measure 139 = .ok (.getfield 45, 3) := by decide +kernel
theorem dX8_measure_142 : decode cX8_measure 142 = .ok (.getfield 182, 3) := by decide +kernel
theorem dX8_measure_145 : decode cX8_measure 145 = .ok (.ifCond .eq 26, 3) := by decide +kernel
theorem dX8_measure_148 : decode cX8_measure 148 = .ok (.aload_n 0, 1) := by decide +kernel
theorem dX8_measure_149 : decode cX8_measure 149 = .ok (.aload_n 0, 1) := by decide +kernel
theorem dX8_measure_150 : decode cX8_measure 150 = .ok (.getfield 45, 3) := by decide +kernel
theorem dX8_measure_153 : decode cX8_measure 153 = .ok (.getfield 173, 3) := by decide +kernel
theorem dX8_measure_156 : decode cX8_measure 156 = .ok (.iconst 0, 1) := by decide +kernel
theorem dX8_measure_157 : decode cX8_measure 157 = .ok (.aload_n 0, 1) := by decide +kernel
theorem dX8_measure_158 : decode cX8_measure 158 = .ok (.getfield 45, 3) := by decide +kernel
theorem dX8_measure_161 : decode cX8_measure 161 = .ok (.getfield 189, 3) := by decide +kernel
theorem dX8_measure_164 : decode cX8_measure 164 = .ok (.invokevirtual 136, 3) := by decide +kernel
theorem dX8_measure_167 : decode cX8_measure 167 = .ok (.ldc2_w 224, 3) := by decide +kernel
theorem dX8_measure_170 : decode cX8_measure 170 = .ok (.lreturn, 1) := by decide +kernel
theorem dX8_measure_171 : decode cX8_measure 171 = .ok (.lload_n 3, 1) := by decide +kernel
theorem dX8_measure_172 : decode cX8_measure 172 = .ok (.lreturn, 1) := by decide +kernel
theorem dX8_cause_0 : decode cX8_cause 0 = .ok (.iload_n 1, 1) := by decide +kernel
theorem dX8_cause_1 : decode cX8_cause 1 = .ok (.ifCond .lt 12, 3) := by decide +kernel
theorem dX8_cause_4 : decode cX8_cause 4 = .ok (.iload_n 1, 1) := by decide +kernel
theorem dX8_cause_5 : decode cX8_cause 5 = .ok (.aload_n 0, 1) := by decide +kernel
theorem dX8_cause_6 : decode cX8_cause 6 = .ok (.getfield 77, 3) := by decide +kernel
theorem dX8_cause_9 : decode cX8_cause 9 = .ok (.arraylength, 1) := by decide +kernel
theorem dX8_cause_10 : decode cX8_cause 10 = .ok (.if_icmp .lt 6, 3) := by decide +kernel
theorem dX8_cause_13 : decode cX8_cause 13 = .ok (.ldc 142, 2) := by decide +kernel
theorem dX8_cause_15 : decode cX8_cause 15 = .ok (.ireturn, 1) := by decide +kernel
theorem dX8_cause_16 : decode cX8_cause 16 = .ok (.aload_n 0, 1) := by decide +kernel
theorem dX8_cause_17 : decode cX8_cause 17 = .ok (.getfield 81, 3) := by decide +kernel
theorem dX8_cause_20 : decode cX8_cause 20 = .ok (.ifCond .eq 12, 3) := by decide +kernel
theorem dX8_cause_23 : decode cX8_cause 23 = .ok (.aload_n 0, 1) := by decide +kernel
theorem dX8_cause_24 : decode cX8_cause 24 = .ok (.getfield 77, 3) := by decide +kernel
theorem dX8_cause_27 : decode cX8_cause 27 = .ok (.iload_n 1, 1) := by decide +kernel
theorem dX8_cause_28 : decode cX8_cause 28 = .ok (.iaload, 1) := by decide +kernel
theorem dX8_cause_29 : decode cX8_cause 29 = .ok (.goto 6, 3) := by decide +kernel
theorem dX8_cause_32 : decode cX8_cause 32 = .ok (.sipush (-1002), 3) := by decide +kernel
theorem dX8_cause_35 : decode cX8_cause 35 = .ok (.ireturn, 1) := by decide +kernel
set_option maxRecDepth 20000 in
theorem ggX8_starts_X3_howManyPasts : GoodIn wsX8_starts wsX3_howManyPasts := goodIn_r _ [6, 7, 22, 23, 24, 25, 26, 27, 28, 29, 30] (by decide +kernel) (by decide +kernel)
set_option maxRecDepth 20000 in
theorem gX8_starts_X3_howManyPasts : GoodIn wsX8_starts (wsV RX8 226 RX3 yX3_howManyPasts wsX3_howManyPasts) := goodIn_app (goodIn_of _ (by decide +kernel)) ggX8_starts_X3_howManyPasts
theorem dX8_starts_0 : decode cX8_starts 0 = .ok (.aload_n 0, 1) := by decide +kernel
theorem dX8_starts_1 : decode cX8_starts 1 = .ok (.getfield 12, 3) := by decide +kernel
theorem dX8_starts_4 : decode cX8_starts 4 = .ok (.invokevirtual 226, 3) := by decide +kernel
theorem dX8_starts_7 : decode cX8_starts 7 = .ok (.ireturn, 1) := by decide +kernel
set_option maxRecDepth 20000 in
theorem ggX8_code_X3_packed : GoodIn wsX8_code wsX3_packed := goodIn_r _ [6, 7, 8, 9, 10, 11, 5, 12, 27, 28, 29, 30, 31, 32, 33, 34, 35] (by decide +kernel) (by decide +kernel)
set_option maxRecDepth 20000 in
theorem gX8_code_X3_packed : GoodIn wsX8_code (wsV RX8 229 RX3 yX3_packed wsX3_packed) := goodIn_app (goodIn_of _ (by decide +kernel)) ggX8_code_X3_packed
theorem dX8_code_0 : decode cX8_code 0 = .ok (.aload_n 0, 1) := by decide +kernel
theorem dX8_code_1 : decode cX8_code 1 = .ok (.getfield 12, 3) := by decide +kernel
theorem dX8_code_4 : decode cX8_code 4 = .ok (.invokevirtual 229, 3) := by decide +kernel
theorem dX8_code_7 : decode cX8_code 7 = .ok (.ireturn, 1) := by decide +kernel
set_option maxRecDepth 20000 in
theorem ggX8_next_X8_isStart : GoodIn wsX8_next wsX8_isStart := goodIn_r _ [8, 2, 9, 10, 11, 12, 13, 14, 77, 78, 79, 80, 81, 82, 83, 84, 85, 86, 87, 88, 89, 90, 91, 92, 93, 94, 95, 96, 97, 98, 99] (by decide +kernel) (by decide +kernel)
set_option maxRecDepth 20000 in
theorem gX8_next_X8_isStart : GoodIn wsX8_next (wsV RX8 232 RX8 yX8_isStart wsX8_isStart) := goodIn_app (goodIn_of _ (by decide +kernel)) ggX8_next_X8_isStart
set_option maxRecDepth 20000 in
theorem ggX8_next_X8_isInput : GoodIn wsX8_next wsX8_isInput := goodIn_r _ [17] (by decide +kernel) (by decide +kernel)
set_option maxRecDepth 20000 in
theorem gX8_next_X8_isInput : GoodIn wsX8_next (va_wsS RX8 123 yX8_isInput wsX8_isInput) := goodIn_app (goodIn_of _ (by decide +kernel)) ggX8_next_X8_isInput
set_option maxRecDepth 20000 in
theorem ggX8_next_X3_take : GoodIn wsX8_next wsX3_take := goodIn_r _ [21, 14, 22, 23, 24, 25, 26, 91, 92, 93, 94, 95, 96, 97, 98, 99] (by decide +kernel) (by decide +kernel)
set_option maxRecDepth 20000 in
theorem gX8_next_X3_take : GoodIn wsX8_next (wsV RX8 235 RX3 yX3_take wsX3_take) := goodIn_app (goodIn_of _ (by decide +kernel)) ggX8_next_X3_take
set_option maxRecDepth 20000 in
theorem ggX8_next_X3_unpack : GoodIn wsX8_next wsX3_unpack := goodIn_r _ [30, 14, 31, 32, 33, 34, 26, 35, 36, 37, 12, 38, 91, 92, 93, 94, 95, 96, 97, 98, 99] (by decide +kernel) (by decide +kernel)
set_option maxRecDepth 20000 in
theorem gX8_next_X3_unpack : GoodIn wsX8_next (wsV RX8 239 RX3 yX3_unpack wsX3_unpack) := goodIn_app (goodIn_of _ (by decide +kernel)) ggX8_next_X3_unpack
set_option maxRecDepth 20000 in
theorem ggX8_next_X3_weigh : GoodIn wsX8_next wsX3_weigh := goodIn_r _ [42, 43, 44, 45, 12, 46, 47, 48, 14, 26, 49, 50, 51, 52, 53, 54, 55, 56, 57, 58, 59, 60, 61, 62, 63, 64, 65, 66, 67, 68, 35, 36, 37, 38, 69, 70, 71, 72, 91, 92, 93, 94, 95, 96, 97, 98, 99] (by decide +kernel) (by decide +kernel)
set_option maxRecDepth 20000 in
theorem gX8_next_X3_weigh : GoodIn wsX8_next (wsV RX8 126 RX3 yX3_weigh wsX3_weigh) := goodIn_app (goodIn_of _ (by decide +kernel)) ggX8_next_X3_weigh
set_option maxRecDepth 20000 in
theorem ggX8_next_X3_codeBehind : GoodIn wsX8_next wsX3_codeBehind := goodIn_r _ [76, 60, 14, 35, 36, 37, 12, 38, 91, 92, 93, 94, 95, 96, 97, 98, 99] (by decide +kernel) (by decide +kernel)
set_option maxRecDepth 20000 in
theorem gX8_next_X3_codeBehind : GoodIn wsX8_next (wsV RX8 242 RX3 yX3_codeBehind wsX3_codeBehind) := goodIn_app (goodIn_of _ (by decide +kernel)) ggX8_next_X3_codeBehind
theorem dX8_next_0 : decode cX8_next 0 = .ok (.aload_n 0, 1) := by decide +kernel
theorem dX8_next_1 : decode cX8_next 1 = .ok (.iload_n 1, 1) := by decide +kernel
theorem dX8_next_2 : decode cX8_next 2 = .ok (.invokevirtual 232, 3) := by decide +kernel
theorem dX8_next_5 : decode cX8_next 5 = .ok (.ifCond .eq 10, 3) := by decide +kernel
theorem dX8_next_8 : decode cX8_next 8 = .ok (.iload_n 2, 1) := by decide +kernel
theorem dX8_next_9 : decode cX8_next 9 = .ok (.invokestatic 123, 3) := by decide +kernel
theorem dX8_next_12 : decode cX8_next 12 = .ok (.ifCond .ne 5, 3) := by decide +kernel
theorem dX8_next_15 : decode cX8_next 15 = .ok (.iconst (-1), 1) := by decide +kernel
theorem dX8_next_16 : decode cX8_next 16 = .ok (.ireturn, 1) := by decide +kernel
theorem dX8_next_17 : decode cX8_next 17 = .ok (.aload_n 0, 1) := by decide +kernel
theorem dX8_next_18 : decode cX8_next 18 = .ok (.getfield 18, 3) := by decide +kernel
theorem dX8_next_21 : decode cX8_next 21 = .ok (.aload_n 0, 1) := by decide +kernel
theorem dX8_next_22 : decode cX8_next 22 = .ok (.getfield 12, 3) := by decide +kernel
theorem dX8_next_25 : decode cX8_next 25 = .ok (.invokevirtual 235, 3) := by decide +kernel
theorem dX8_next_28 : decode cX8_next 28 = .ok (.aload_n 0, 1) := by decide +kernel
theorem dX8_next_29 : decode cX8_next 29 = .ok (.getfield 18, 3) := by decide +kernel
theorem dX8_next_32 : decode cX8_next 32 = .ok (.iload_n 1, 1) := by decide +kernel
theorem dX8_next_33 : decode cX8_next 33 = .ok (.invokevirtual 239, 3) := by decide +kernel
theorem dX8_next_36 : decode cX8_next 36 = .ok (.aload_n 0, 1) := by decide +kernel
theorem dX8_next_37 : decode cX8_next 37 = .ok (.getfield 18, 3) := by decide +kernel
theorem dX8_next_40 : decode cX8_next 40 = .ok (.iload_n 2, 1) := by decide +kernel
theorem dX8_next_41 : decode cX8_next 41 = .ok (.invokevirtual 126, 3) := by decide +kernel
theorem dX8_next_44 : decode cX8_next 44 = .ok (.aload_n 0, 1) := by decide +kernel
theorem dX8_next_45 : decode cX8_next 45 = .ok (.getfield 18, 3) := by decide +kernel
theorem dX8_next_48 : decode cX8_next 48 = .ok (.getfield 130, 3) := by decide +kernel
theorem dX8_next_51 : decode cX8_next 51 = .ok (.sipush (-1005), 3) := by decide +kernel
theorem dX8_next_54 : decode cX8_next 54 = .ok (.if_icmp .ne 8, 3) := by decide +kernel
theorem dX8_next_57 : decode cX8_next 57 = .ok (.bipush (-5), 2) := by decide +kernel
theorem dX8_next_59 : decode cX8_next 59 = .ok (.goto 11, 3) := by decide +kernel
theorem dX8_next_62 : decode cX8_next 62 = .ok (.aload_n 0, 1) := by decide +kernel
theorem dX8_next_63 : decode cX8_next 63 = .ok (.getfield 18, 3) := by decide +kernel
theorem dX8_next_66 : decode cX8_next 66 = .ok (.iload_n 1, 1) := by decide +kernel
theorem dX8_next_67 : decode cX8_next 67 = .ok (.invokevirtual 242, 3) := by decide +kernel
theorem dX8_next_70 : decode cX8_next 70 = .ok (.ireturn, 1) := by decide +kernel
set_option maxRecDepth 20000 in
theorem ggX8_leads_X8_isStart : GoodIn wsX8_leads wsX8_isStart := goodIn_r _ [7, 2, 8, 9, 10, 11, 12, 13, 147, 148, 149, 150, 151, 152, 153, 154, 155, 156, 157, 158, 159, 160, 161, 162, 163, 164, 165, 166, 167, 168, 169] (by decide +kernel) (by decide +kernel)
set_option maxRecDepth 20000 in
theorem gX8_leads_X8_isStart : GoodIn wsX8_leads (wsV RX8 232 RX8 yX8_isStart wsX8_isStart) := goodIn_app (goodIn_of _ (by decide +kernel)) ggX8_leads_X8_isStart
set_option maxRecDepth 20000 in
theorem ggX8_leads_X8_isInput : GoodIn wsX8_leads wsX8_isInput := goodIn_r _ [16] (by decide +kernel) (by decide +kernel)
set_option maxRecDepth 20000 in
theorem gX8_leads_X8_isInput : GoodIn wsX8_leads (va_wsS RX8 123 yX8_isInput wsX8_isInput) := goodIn_app (goodIn_of _ (by decide +kernel)) ggX8_leads_X8_isInput
set_option maxRecDepth 20000 in
theorem ggX8_leads_X7_draw : GoodIn wsX8_leads wsX7_draw := goodIn_r _ [21, 22, 23, 24, 25, 26, 27, 28, 11, 29, 13, 30, 31, 32, 20, 33, 34, 35, 36, 37, 38, 39, 40, 41, 42, 43, 44, 45, 46, 47, 48, 49, 50, 9, 10, 12, 51, 52, 53, 54, 55, 56, 57, 58, 59, 60, 61, 62, 63, 64, 65, 66, 67, 68, 69, 70, 71, 72, 73, 74, 75, 76, 77, 78, 79, 80, 81, 82, 83, 84, 85, 86, 87, 88, 89, 90, 91, 92, 93, 94, 95, 96, 97, 98, 99, 100, 101, 102, 103, 104, 105, 106, 107, 108, 109, 110, 111, 112, 113, 114, 115, 116, 117, 118, 119, 120, 121, 122, 123, 124, 125, 126, 170, 171, 172, 173, 174, 175, 176, 177, 178, 161, 162, 163, 164, 165, 166, 167, 168, 169] (by decide +kernel) (by decide +kernel)
set_option maxRecDepth 20000 in
theorem gX8_leads_X7_draw : GoodIn wsX8_leads (wsV RX8 245 RX7 yX7_draw wsX7_draw) := goodIn_app (goodIn_of _ (by decide +kernel)) ggX8_leads_X7_draw
set_option maxRecDepth 20000 in
theorem ggX8_leads_X7_cycleFrom : GoodIn wsX8_leads wsX7_cycleFrom := goodIn_r _ [130, 118, 57, 58, 59, 20, 60, 25, 170, 171, 172, 173, 174, 175, 176, 177, 178] (by decide +kernel) (by decide +kernel)
set_option maxRecDepth 20000 in
theorem gX8_leads_X7_cycleFrom : GoodIn wsX8_leads (wsV RX8 249 RX7 yX7_cycleFrom wsX7_cycleFrom) := goodIn_app (goodIn_of _ (by decide +kernel)) ggX8_leads_X7_cycleFrom
set_option maxRecDepth 20000 in
theorem ggX8_leads_X7_tailFrom : GoodIn wsX8_leads wsX7_tailFrom := goodIn_r _ [134, 40, 57, 58, 59, 20, 60, 25, 170, 171, 172, 173, 174, 175, 176, 177, 178] (by decide +kernel) (by decide +kernel)
set_option maxRecDepth 20000 in
theorem gX8_leads_X7_tailFrom : GoodIn wsX8_leads (wsV RX8 252 RX7 yX7_tailFrom wsX7_tailFrom) := goodIn_app (goodIn_of _ (by decide +kernel)) ggX8_leads_X7_tailFrom
set_option maxRecDepth 20000 in
theorem ggX8_leads_X7_periodOf : GoodIn wsX8_leads wsX7_periodOf := goodIn_r _ [138, 25, 118, 139, 140, 141, 20, 142, 40, 57, 58, 59, 60, 170, 171, 172, 173, 174, 175, 176, 177, 178] (by decide +kernel) (by decide +kernel)
set_option maxRecDepth 20000 in
theorem gX8_leads_X7_periodOf : GoodIn wsX8_leads (wsV RX8 255 RX7 yX7_periodOf wsX7_periodOf) := goodIn_app (goodIn_of _ (by decide +kernel)) ggX8_leads_X7_periodOf
set_option maxRecDepth 20000 in
theorem ggX8_leads_X7_numberOf : GoodIn wsX8_leads wsX7_numberOf := goodIn_r _ [146, 118, 57, 58, 59, 20, 60, 25, 170, 171, 172, 173, 174, 175, 176, 177, 178] (by decide +kernel) (by decide +kernel)
set_option maxRecDepth 20000 in
theorem gX8_leads_X7_numberOf : GoodIn wsX8_leads (wsV RX8 258 RX7 yX7_numberOf wsX7_numberOf) := goodIn_app (goodIn_of _ (by decide +kernel)) ggX8_leads_X7_numberOf
theorem dX8_leads_0 : decode cX8_leads 0 = .ok (.aload_n 0, 1) := by decide +kernel
theorem dX8_leads_1 : decode cX8_leads 1 = .ok (.iload_n 1, 1) := by decide +kernel
theorem dX8_leads_2 : decode cX8_leads 2 = .ok (.invokevirtual 232, 3) := by decide +kernel
theorem dX8_leads_5 : decode cX8_leads 5 = .ok (.ifCond .eq 19, 3) := by decide +kernel
theorem dX8_leads_8 : decode cX8_leads 8 = .ok (.iload_n 2, 1) := by decide +kernel
theorem dX8_leads_9 : decode cX8_leads 9 = .ok (.invokestatic 123, 3) := by decide +kernel
theorem dX8_leads_12 : decode cX8_leads 12 = .ok (.ifCond .eq 12, 3) := by decide +kernel
theorem dX8_leads_15 : decode cX8_leads 15 = .ok (.iload_n 3, 1) := by decide +kernel
theorem dX8_leads_16 : decode cX8_leads 16 = .ok (.ifCond .lt 8, 3) := by decide +kernel
theorem dX8_leads_19 : decode cX8_leads 19 = .ok (.iload_n 3, 1) := by decide +kernel
theorem dX8_leads_20 : decode cX8_leads 20 = .ok (.iconst 2, 1) := by decide +kernel
theorem dX8_leads_21 : decode cX8_leads 21 = .ok (.if_icmp .le 5, 3) := by decide +kernel
theorem dX8_leads_24 : decode cX8_leads 24 = .ok (.iconst (-1), 1) := by decide +kernel
theorem dX8_leads_25 : decode cX8_leads 25 = .ok (.ireturn, 1) := by decide +kernel
theorem dX8_leads_26 : decode cX8_leads 26 = .ok (.aload_n 0, 1) := by decide +kernel
theorem dX8_leads_27 : decode cX8_leads 27 = .ok (.getfield 31, 3) := by decide +kernel
theorem dX8_leads_30 : decode cX8_leads 30 = .ok (.aload_n 0, 1) := by decide +kernel
theorem dX8_leads_31 : decode cX8_leads 31 = .ok (.getfield 12, 3) := by decide +kernel
theorem dX8_leads_34 : decode cX8_leads 34 = .ok (.iload_n 2, 1) := by decide +kernel
theorem dX8_leads_35 : decode cX8_leads 35 = .ok (.invokevirtual 245, 3) := by decide +kernel
theorem dX8_leads_38 : decode cX8_leads 38 = .ok (.aload_n 0, 1) := by decide +kernel
theorem dX8_leads_39 : decode cX8_leads 39 = .ok (.getfield 31, 3) := by decide +kernel
theorem dX8_leads_42 : decode cX8_leads 42 = .ok (.iload_n 1, 1) := by decide +kernel
theorem dX8_leads_43 : decode cX8_leads 43 = .ok (.invokevirtual 249, 3) := by decide +kernel
theorem dX8_leads_46 : decode cX8_leads 46 = .ok (.istore 4, 2) := by decide +kernel
theorem dX8_leads_48 : decode cX8_leads 48 = .ok (.iload 4, 2) := by decide +kernel
theorem dX8_leads_50 : decode cX8_leads 50 = .ok (.ifCond .ge 6, 3) := by decide +kernel
theorem dX8_leads_53 : decode cX8_leads 53 = .ok (.bipush (-5), 2) := by decide +kernel
theorem dX8_leads_55 : decode cX8_leads 55 = .ok (.ireturn, 1) := by decide +kernel
theorem dX8_leads_56 : decode cX8_leads 56 = .ok (.iload_n 3, 1) := by decide +kernel
theorem dX8_leads_57 : decode cX8_leads 57 = .ok (.lookupswitch 46 #[(0, 27), (1, 36)], 27) := by decide +kernel
theorem dX8_leads_84 : decode cX8_leads 84 = .ok (.aload_n 0, 1) := by decide +kernel
theorem dX8_leads_85 : decode cX8_leads 85 = .ok (.getfield 31, 3) := by decide +kernel
theorem dX8_leads_88 : decode cX8_leads 88 = .ok (.iload_n 1, 1) := by decide +kernel
theorem dX8_leads_89 : decode cX8_leads 89 = .ok (.invokevirtual 252, 3) := by decide +kernel
theorem dX8_leads_92 : decode cX8_leads 92 = .ok (.ireturn, 1) := by decide +kernel
theorem dX8_leads_93 : decode cX8_leads 93 = .ok (.aload_n 0, 1) := by decide +kernel
theorem dX8_leads_94 : decode cX8_leads 94 = .ok (.getfield 31, 3) := by decide +kernel
theorem dX8_leads_97 : decode cX8_leads 97 = .ok (.iload 4, 2) := by decide +kernel
theorem dX8_leads_99 : decode cX8_leads 99 = .ok (.invokevirtual 255, 3) := by decide +kernel
theorem dX8_leads_102 : decode cX8_leads 102 = .ok (.ireturn, 1) := by decide +kernel
theorem dX8_leads_103 : decode cX8_leads 103 = .ok (.aload_n 0, 1) := by decide +kernel
theorem dX8_leads_104 : decode cX8_leads 104 = .ok (.getfield 31, 3) := by decide +kernel
theorem dX8_leads_107 : decode cX8_leads 107 = .ok (.iload 4, 2) := by decide +kernel
theorem dX8_leads_109 : decode cX8_leads 109 = .ok (.invokevirtual 258, 3) := by decide +kernel
theorem dX8_leads_112 : decode cX8_leads 112 = .ok (.ireturn, 1) := by decide +kernel
set_option maxRecDepth 20000 in
theorem ggX8_cycles_X8_isInput : GoodIn wsX8_cycles wsX8_isInput := goodIn_r _ [6] (by decide +kernel) (by decide +kernel)
set_option maxRecDepth 20000 in
theorem gX8_cycles_X8_isInput : GoodIn wsX8_cycles (va_wsS RX8 123 yX8_isInput wsX8_isInput) := goodIn_app (goodIn_of _ (by decide +kernel)) ggX8_cycles_X8_isInput
set_option maxRecDepth 20000 in
theorem ggX8_cycles_X7_draw : GoodIn wsX8_cycles wsX7_draw := goodIn_r _ [11, 12, 13, 14, 15, 16, 17, 18, 19, 20, 21, 22, 23, 24, 10, 25, 26, 27, 28, 29, 30, 31, 32, 33, 34, 35, 36, 37, 38, 39, 40, 41, 42, 43, 44, 45, 46, 47, 48, 49, 50, 51, 52, 53, 54, 55, 56, 57, 58, 59, 60, 61, 62, 63, 64, 65, 66, 67, 68, 69, 70, 71, 72, 73, 74, 75, 76, 77, 78, 79, 80, 81, 82, 83, 84, 85, 86, 87, 88, 89, 90, 91, 92, 93, 94, 95, 96, 97, 98, 99, 100, 101, 102, 103, 104, 105, 106, 107, 108, 109, 110, 111, 112, 113, 114, 115, 116, 117, 118, 119, 120, 121, 161, 162, 163, 164, 165, 166, 167, 168, 169, 170, 171, 172, 173, 174, 175, 176, 177, 178] (by decide +kernel) (by decide +kernel)
set_option maxRecDepth 20000 in
theorem gX8_cycles_X7_draw : GoodIn wsX8_cycles (wsV RX8 245 RX7 yX7_draw wsX7_draw) := goodIn_app (goodIn_of _ (by decide +kernel)) ggX8_cycles_X7_draw
set_option maxRecDepth 20000 in
theorem ggX8_cycles_X3_howManyPasts : GoodIn wsX8_cycles wsX3_howManyPasts := goodIn_r _ [45, 21, 170, 171, 172, 173, 174, 175, 176, 177, 178] (by decide +kernel) (by decide +kernel)
set_option maxRecDepth 20000 in
theorem gX8_cycles_X3_howManyPasts : GoodIn wsX8_cycles (wsV RX8 226 RX3 yX3_howManyPasts wsX3_howManyPasts) := goodIn_app (goodIn_of _ (by decide +kernel)) ggX8_cycles_X3_howManyPasts
set_option maxRecDepth 20000 in
theorem ggX8_cycles_X7_numberOf : GoodIn wsX8_cycles wsX7_numberOf := goodIn_r _ [126, 113, 52, 53, 54, 10, 55, 15, 161, 162, 163, 164, 165, 166, 167, 168, 169] (by decide +kernel) (by decide +kernel)
set_option maxRecDepth 20000 in
theorem gX8_cycles_X7_numberOf : GoodIn wsX8_cycles (wsV RX8 258 RX7 yX7_numberOf wsX7_numberOf) := goodIn_app (goodIn_of _ (by decide +kernel)) ggX8_cycles_X7_numberOf
set_option maxRecDepth 20000 in
theorem ggX8_cycles_X7_basinOf : GoodIn wsX8_cycles wsX7_basinOf := goodIn_r _ [130, 15, 113, 52, 53, 54, 10, 55, 161, 162, 163, 164, 165, 166, 167, 168, 169] (by decide +kernel) (by decide +kernel)
set_option maxRecDepth 20000 in
theorem gX8_cycles_X7_basinOf : GoodIn wsX8_cycles (wsV RX8 261 RX7 yX7_basinOf wsX7_basinOf) := goodIn_app (goodIn_of _ (by decide +kernel)) ggX8_cycles_X7_basinOf
set_option maxRecDepth 20000 in
theorem ggX8_cycles_X7_longestTail : GoodIn wsX8_cycles wsX7_longestTail := goodIn_r _ [134, 15, 113, 32, 110, 111, 28, 112, 52, 53, 54, 10, 55, 161, 162, 163, 164, 165, 166, 167, 168, 169] (by decide +kernel) (by decide +kernel)
set_option maxRecDepth 20000 in
theorem gX8_cycles_X7_longestTail : GoodIn wsX8_cycles (wsV RX8 264 RX7 yX7_longestTail wsX7_longestTail) := goodIn_app (goodIn_of _ (by decide +kernel)) ggX8_cycles_X7_longestTail
set_option maxRecDepth 20000 in
theorem ggX8_cycles_X7_loudestOfAll : GoodIn wsX8_cycles wsX7_loudestOfAll := goodIn_r _ [138, 31, 161, 162, 163, 164, 165, 166, 167, 168, 169] (by decide +kernel) (by decide +kernel)
set_option maxRecDepth 20000 in
theorem gX8_cycles_X7_loudestOfAll : GoodIn wsX8_cycles (wsV RX8 267 RX7 yX7_loudestOfAll wsX7_loudestOfAll) := goodIn_app (goodIn_of _ (by decide +kernel)) ggX8_cycles_X7_loudestOfAll
set_option maxRecDepth 20000 in
theorem ggX8_cycles_X7_howManyOnCycles : GoodIn wsX8_cycles wsX7_howManyOnCycles := goodIn_r _ [142, 15, 143, 144, 145, 10, 146, 113, 32, 52, 53, 54, 55, 161, 162, 163, 164, 165, 166, 167, 168, 169] (by decide +kernel) (by decide +kernel)
set_option maxRecDepth 20000 in
theorem gX8_cycles_X7_howManyOnCycles : GoodIn wsX8_cycles (wsV RX8 270 RX7 yX7_howManyOnCycles wsX7_howManyOnCycles) := goodIn_app (goodIn_of _ (by decide +kernel)) ggX8_cycles_X7_howManyOnCycles
theorem dX8_cycles_0 : decode cX8_cycles 0 = .ok (.iload_n 1, 1) := by decide +kernel
theorem dX8_cycles_1 : decode cX8_cycles 1 = .ok (.invokestatic 123, 3) := by decide +kernel
theorem dX8_cycles_4 : decode cX8_cycles 4 = .ok (.ifCond .eq 12, 3) := by decide +kernel
theorem dX8_cycles_7 : decode cX8_cycles 7 = .ok (.iload_n 2, 1) := by decide +kernel
theorem dX8_cycles_8 : decode cX8_cycles 8 = .ok (.ifCond .lt 8, 3) := by decide +kernel
theorem dX8_cycles_11 : decode cX8_cycles 11 = .ok (.iload_n 2, 1) := by decide +kernel
theorem dX8_cycles_12 : decode cX8_cycles 12 = .ok (.iconst 4, 1) := by decide +kernel
theorem dX8_cycles_13 : decode cX8_cycles 13 = .ok (.if_icmp .le 5, 3) := by decide +kernel
theorem dX8_cycles_16 : decode cX8_cycles 16 = .ok (.iconst (-1), 1) := by decide +kernel
theorem dX8_cycles_17 : decode cX8_cycles 17 = .ok (.ireturn, 1) := by decide +kernel
theorem dX8_cycles_18 : decode cX8_cycles 18 = .ok (.aload_n 0, 1) := by decide +kernel
theorem dX8_cycles_19 : decode cX8_cycles 19 = .ok (.getfield 31, 3) := by decide +kernel
theorem dX8_cycles_22 : decode cX8_cycles 22 = .ok (.aload_n 0, 1) := by decide +kernel
theorem dX8_cycles_23 : decode cX8_cycles 23 = .ok (.getfield 12, 3) := by decide +kernel
theorem dX8_cycles_26 : decode cX8_cycles 26 = .ok (.iload_n 1, 1) := by decide +kernel
theorem dX8_cycles_27 : decode cX8_cycles 27 = .ok (.invokevirtual 245, 3) := by decide +kernel
theorem dX8_cycles_30 : decode cX8_cycles 30 = .ok (.iload_n 2, 1) := by decide +kernel
theorem dX8_cycles_31 : decode cX8_cycles 31 = .ok (.tableswitch 69 0 3 #[29, 44, 53, 61], 29) := by decide +kernel
theorem dX8_cycles_60 : decode cX8_cycles 60 = .ok (.aload_n 0, 1) := by decide +kernel
theorem dX8_cycles_61 : decode cX8_cycles 61 = .ok (.getfield 31, 3) := by decide +kernel
theorem dX8_cycles_64 : decode cX8_cycles 64 = .ok (.aload_n 0, 1) := by decide +kernel
theorem dX8_cycles_65 : decode cX8_cycles 65 = .ok (.getfield 12, 3) := by decide +kernel
theorem dX8_cycles_68 : decode cX8_cycles 68 = .ok (.invokevirtual 226, 3) := by decide +kernel
theorem dX8_cycles_71 : decode cX8_cycles 71 = .ok (.invokevirtual 258, 3) := by decide +kernel
theorem dX8_cycles_74 : decode cX8_cycles 74 = .ok (.ireturn, 1) := by decide +kernel
theorem dX8_cycles_75 : decode cX8_cycles 75 = .ok (.aload_n 0, 1) := by decide +kernel
theorem dX8_cycles_76 : decode cX8_cycles 76 = .ok (.getfield 31, 3) := by decide +kernel
theorem dX8_cycles_79 : decode cX8_cycles 79 = .ok (.iconst (-1), 1) := by decide +kernel
theorem dX8_cycles_80 : decode cX8_cycles 80 = .ok (.invokevirtual 261, 3) := by decide +kernel
theorem dX8_cycles_83 : decode cX8_cycles 83 = .ok (.ireturn, 1) := by decide +kernel
theorem dX8_cycles_84 : decode cX8_cycles 84 = .ok (.aload_n 0, 1) := by decide +kernel
theorem dX8_cycles_85 : decode cX8_cycles 85 = .ok (.getfield 31, 3) := by decide +kernel
theorem dX8_cycles_88 : decode cX8_cycles 88 = .ok (.invokevirtual 264, 3) := by decide +kernel
theorem dX8_cycles_91 : decode cX8_cycles 91 = .ok (.ireturn, 1) := by decide +kernel
theorem dX8_cycles_92 : decode cX8_cycles 92 = .ok (.aload_n 0, 1) := by decide +kernel
theorem dX8_cycles_93 : decode cX8_cycles 93 = .ok (.getfield 31, 3) := by decide +kernel
theorem dX8_cycles_96 : decode cX8_cycles 96 = .ok (.invokevirtual 267, 3) := by decide +kernel
theorem dX8_cycles_99 : decode cX8_cycles 99 = .ok (.ireturn, 1) := by decide +kernel
theorem dX8_cycles_100 : decode cX8_cycles 100 = .ok (.aload_n 0, 1) := by decide +kernel
theorem dX8_cycles_101 : decode cX8_cycles 101 = .ok (.getfield 31, 3) := by decide +kernel
theorem dX8_cycles_104 : decode cX8_cycles 104 = .ok (.invokevirtual 270, 3) := by decide +kernel
theorem dX8_cycles_107 : decode cX8_cycles 107 = .ok (.ireturn, 1) := by decide +kernel
set_option maxRecDepth 20000 in
theorem ggX8_cycle_X8_isInput : GoodIn wsX8_cycle wsX8_isInput := goodIn_r _ [6] (by decide +kernel) (by decide +kernel)
set_option maxRecDepth 20000 in
theorem gX8_cycle_X8_isInput : GoodIn wsX8_cycle (va_wsS RX8 123 yX8_isInput wsX8_isInput) := goodIn_app (goodIn_of _ (by decide +kernel)) ggX8_cycle_X8_isInput
set_option maxRecDepth 20000 in
theorem ggX8_cycle_X7_draw : GoodIn wsX8_cycle wsX7_draw := goodIn_r _ [11, 12, 13, 14, 15, 16, 17, 18, 19, 20, 21, 22, 23, 24, 10, 25, 26, 27, 28, 29, 30, 31, 32, 33, 34, 35, 36, 37, 38, 39, 40, 41, 42, 43, 44, 45, 46, 47, 48, 49, 50, 51, 52, 53, 54, 55, 56, 57, 58, 59, 60, 61, 62, 63, 64, 65, 66, 67, 68, 69, 70, 71, 72, 73, 74, 75, 76, 77, 78, 79, 80, 81, 82, 83, 84, 85, 86, 87, 88, 89, 90, 91, 92, 93, 94, 95, 96, 97, 98, 99, 100, 101, 102, 103, 104, 105, 106, 107, 108, 109, 110, 111, 112, 113, 114, 115, 116, 117, 118, 119, 120, 121, 156, 157, 158, 159, 160, 161, 162, 163, 164, 165, 166, 167, 168, 169, 170, 171, 172, 173] (by decide +kernel) (by decide +kernel)
set_option maxRecDepth 20000 in
theorem gX8_cycle_X7_draw : GoodIn wsX8_cycle (wsV RX8 245 RX7 yX7_draw wsX7_draw) := goodIn_app (goodIn_of _ (by decide +kernel)) ggX8_cycle_X7_draw
set_option maxRecDepth 20000 in
theorem ggX8_cycle_X7_cycleNumbered : GoodIn wsX8_cycle wsX7_cycleNumbered := goodIn_r _ [125, 15, 113, 52, 53, 54, 10, 55, 156, 157, 158, 159, 160, 161, 162, 163, 164] (by decide +kernel) (by decide +kernel)
set_option maxRecDepth 20000 in
theorem gX8_cycle_X7_cycleNumbered : GoodIn wsX8_cycle (wsV RX8 273 RX7 yX7_cycleNumbered wsX7_cycleNumbered) := goodIn_app (goodIn_of _ (by decide +kernel)) ggX8_cycle_X7_cycleNumbered
set_option maxRecDepth 20000 in
theorem ggX8_cycle_X7_periodOf : GoodIn wsX8_cycle wsX7_periodOf := goodIn_r _ [129, 15, 113, 130, 131, 132, 10, 133, 32, 52, 53, 54, 55, 156, 157, 158, 159, 160, 161, 162, 163, 164] (by decide +kernel) (by decide +kernel)
set_option maxRecDepth 20000 in
theorem gX8_cycle_X7_periodOf : GoodIn wsX8_cycle (wsV RX8 255 RX7 yX7_periodOf wsX7_periodOf) := goodIn_app (goodIn_of _ (by decide +kernel)) ggX8_cycle_X7_periodOf
set_option maxRecDepth 20000 in
theorem ggX8_cycle_X7_amplitudeOf : GoodIn wsX8_cycle wsX7_amplitudeOf := goodIn_r _ [137, 15, 113, 14, 107, 108, 28, 109, 110, 111, 112, 130, 131, 132, 10, 133, 32, 52, 53, 54, 55, 114, 115, 116, 19, 117, 21, 61, 62, 63, 64, 156, 157, 158, 159, 160, 161, 162, 163, 164, 165, 166, 167, 168, 169, 170, 171, 172, 173] (by decide +kernel) (by decide +kernel)
set_option maxRecDepth 20000 in
theorem gX8_cycle_X7_amplitudeOf : GoodIn wsX8_cycle (wsV RX8 276 RX7 yX7_amplitudeOf wsX7_amplitudeOf) := goodIn_app (goodIn_of _ (by decide +kernel)) ggX8_cycle_X7_amplitudeOf
set_option maxRecDepth 20000 in
theorem ggX8_cycle_X7_basinOf : GoodIn wsX8_cycle wsX7_basinOf := goodIn_r _ [141, 15, 113, 52, 53, 54, 10, 55, 156, 157, 158, 159, 160, 161, 162, 163, 164] (by decide +kernel) (by decide +kernel)
set_option maxRecDepth 20000 in
theorem gX8_cycle_X7_basinOf : GoodIn wsX8_cycle (wsV RX8 261 RX7 yX7_basinOf wsX7_basinOf) := goodIn_app (goodIn_of _ (by decide +kernel)) ggX8_cycle_X7_basinOf
theorem dX8_cycle_0 : decode cX8_cycle 0 = .ok (.iload_n 1, 1) := by decide +kernel
theorem dX8_cycle_1 : decode cX8_cycle 1 = .ok (.invokestatic 123, 3) := by decide +kernel
theorem dX8_cycle_4 : decode cX8_cycle 4 = .ok (.ifCond .eq 12, 3) := by decide +kernel
theorem dX8_cycle_7 : decode cX8_cycle 7 = .ok (.iload_n 3, 1) := by decide +kernel
theorem dX8_cycle_8 : decode cX8_cycle 8 = .ok (.ifCond .lt 8, 3) := by decide +kernel
theorem dX8_cycle_11 : decode cX8_cycle 11 = .ok (.iload_n 3, 1) := by decide +kernel
theorem dX8_cycle_12 : decode cX8_cycle 12 = .ok (.iconst 3, 1) := by decide +kernel
theorem dX8_cycle_13 : decode cX8_cycle 13 = .ok (.if_icmp .le 5, 3) := by decide +kernel
theorem dX8_cycle_16 : decode cX8_cycle 16 = .ok (.iconst (-1), 1) := by decide +kernel
theorem dX8_cycle_17 : decode cX8_cycle 17 = .ok (.ireturn, 1) := by decide +kernel
theorem dX8_cycle_18 : decode cX8_cycle 18 = .ok (.aload_n 0, 1) := by decide +kernel
theorem dX8_cycle_19 : decode cX8_cycle 19 = .ok (.getfield 31, 3) := by decide +kernel
theorem dX8_cycle_22 : decode cX8_cycle 22 = .ok (.aload_n 0, 1) := by decide +kernel
theorem dX8_cycle_23 : decode cX8_cycle 23 = .ok (.getfield 12, 3) := by decide +kernel
theorem dX8_cycle_26 : decode cX8_cycle 26 = .ok (.iload_n 1, 1) := by decide +kernel
theorem dX8_cycle_27 : decode cX8_cycle 27 = .ok (.invokevirtual 245, 3) := by decide +kernel
theorem dX8_cycle_30 : decode cX8_cycle 30 = .ok (.aload_n 0, 1) := by decide +kernel
theorem dX8_cycle_31 : decode cX8_cycle 31 = .ok (.getfield 31, 3) := by decide +kernel
theorem dX8_cycle_34 : decode cX8_cycle 34 = .ok (.iload_n 2, 1) := by decide +kernel
theorem dX8_cycle_35 : decode cX8_cycle 35 = .ok (.invokevirtual 273, 3) := by decide +kernel
theorem dX8_cycle_38 : decode cX8_cycle 38 = .ok (.istore 4, 2) := by decide +kernel
theorem dX8_cycle_40 : decode cX8_cycle 40 = .ok (.iload 4, 2) := by decide +kernel
theorem dX8_cycle_42 : decode cX8_cycle 42 = .ok (.ifCond .ge 6, 3) := by decide +kernel
theorem dX8_cycle_45 : decode cX8_cycle 45 = .ok (.bipush (-2), 2) := by decide +kernel
theorem dX8_cycle_47 : decode cX8_cycle 47 = .ok (.ireturn, 1) := by decide +kernel
theorem dX8_cycle_48 : decode cX8_cycle 48 = .ok (.iload_n 3, 1) := by decide +kernel
theorem dX8_cycle_49 : decode cX8_cycle 49 = .ok (.tableswitch 50 0 2 #[27, 30, 40], 27) := by decide +kernel
theorem dX8_cycle_76 : decode cX8_cycle 76 = .ok (.iload 4, 2) := by decide +kernel
theorem dX8_cycle_78 : decode cX8_cycle 78 = .ok (.ireturn, 1) := by decide +kernel
theorem dX8_cycle_79 : decode cX8_cycle 79 = .ok (.aload_n 0, 1) := by decide +kernel
theorem dX8_cycle_80 : decode cX8_cycle 80 = .ok (.getfield 31, 3) := by decide +kernel
theorem dX8_cycle_83 : decode cX8_cycle 83 = .ok (.iload 4, 2) := by decide +kernel
theorem dX8_cycle_85 : decode cX8_cycle 85 = .ok (.invokevirtual 255, 3) := by decide +kernel
theorem dX8_cycle_88 : decode cX8_cycle 88 = .ok (.ireturn, 1) := by decide +kernel
theorem dX8_cycle_89 : decode cX8_cycle 89 = .ok (.aload_n 0, 1) := by decide +kernel
theorem dX8_cycle_90 : decode cX8_cycle 90 = .ok (.getfield 31, 3) := by decide +kernel
theorem dX8_cycle_93 : decode cX8_cycle 93 = .ok (.iload 4, 2) := by decide +kernel
theorem dX8_cycle_95 : decode cX8_cycle 95 = .ok (.invokevirtual 276, 3) := by decide +kernel
theorem dX8_cycle_98 : decode cX8_cycle 98 = .ok (.ireturn, 1) := by decide +kernel
theorem dX8_cycle_99 : decode cX8_cycle 99 = .ok (.aload_n 0, 1) := by decide +kernel
theorem dX8_cycle_100 : decode cX8_cycle 100 = .ok (.getfield 31, 3) := by decide +kernel
theorem dX8_cycle_103 : decode cX8_cycle 103 = .ok (.iload 4, 2) := by decide +kernel
theorem dX8_cycle_105 : decode cX8_cycle 105 = .ok (.invokevirtual 261, 3) := by decide +kernel
theorem dX8_cycle_108 : decode cX8_cycle 108 = .ok (.ireturn, 1) := by decide +kernel
set_option maxRecDepth 20000 in
theorem ggX8_onCycle_X8_isInput : GoodIn wsX8_onCycle wsX8_isInput := goodIn_r _ [6] (by decide +kernel) (by decide +kernel)
set_option maxRecDepth 20000 in
theorem gX8_onCycle_X8_isInput : GoodIn wsX8_onCycle (va_wsS RX8 123 yX8_isInput wsX8_isInput) := goodIn_app (goodIn_of _ (by decide +kernel)) ggX8_onCycle_X8_isInput
set_option maxRecDepth 20000 in
theorem ggX8_onCycle_X7_draw : GoodIn wsX8_onCycle wsX7_draw := goodIn_r _ [11, 12, 13, 14, 15, 16, 17, 18, 19, 20, 21, 22, 23, 24, 10, 25, 26, 27, 28, 29, 30, 31, 32, 33, 34, 35, 36, 37, 38, 39, 40, 41, 42, 43, 44, 45, 46, 47, 48, 49, 50, 51, 52, 53, 54, 55, 56, 57, 58, 59, 60, 61, 62, 63, 64, 65, 66, 67, 68, 69, 70, 71, 72, 73, 74, 75, 76, 77, 78, 79, 80, 81, 82, 83, 84, 85, 86, 87, 88, 89, 90, 91, 92, 93, 94, 95, 96, 97, 98, 99, 100, 101, 102, 103, 104, 105, 106, 107, 108, 109, 110, 111, 112, 113, 114, 115, 116, 117, 118, 119, 120, 121, 152, 153, 154, 155, 156, 157, 158, 159, 160, 161, 162, 163, 164, 165, 166, 167, 168, 169] (by decide +kernel) (by decide +kernel)
set_option maxRecDepth 20000 in
theorem gX8_onCycle_X7_draw : GoodIn wsX8_onCycle (wsV RX8 245 RX7 yX7_draw wsX7_draw) := goodIn_app (goodIn_of _ (by decide +kernel)) ggX8_onCycle_X7_draw
set_option maxRecDepth 20000 in
theorem ggX8_onCycle_X7_cycleNumbered : GoodIn wsX8_onCycle wsX7_cycleNumbered := goodIn_r _ [125, 15, 113, 52, 53, 54, 10, 55, 152, 153, 154, 155, 156, 157, 158, 159, 160] (by decide +kernel) (by decide +kernel)
set_option maxRecDepth 20000 in
theorem gX8_onCycle_X7_cycleNumbered : GoodIn wsX8_onCycle (wsV RX8 273 RX7 yX7_cycleNumbered wsX7_cycleNumbered) := goodIn_app (goodIn_of _ (by decide +kernel)) ggX8_onCycle_X7_cycleNumbered
set_option maxRecDepth 20000 in
theorem ggX8_onCycle_X7_behindOnCycle : GoodIn wsX8_onCycle wsX7_behindOnCycle := goodIn_r _ [129, 50, 130, 131, 132, 10, 133, 15, 113, 134, 135, 136, 137, 32, 52, 53, 54, 55, 152, 153, 154, 155, 156, 157, 158, 159, 160] (by decide +kernel) (by decide +kernel)
set_option maxRecDepth 20000 in
theorem gX8_onCycle_X7_behindOnCycle : GoodIn wsX8_onCycle (wsV RX8 279 RX7 yX7_behindOnCycle wsX7_behindOnCycle) := goodIn_app (goodIn_of _ (by decide +kernel)) ggX8_onCycle_X7_behindOnCycle
theorem dX8_onCycle_0 : decode cX8_onCycle 0 = .ok (.iload_n 1, 1) := by decide +kernel
theorem dX8_onCycle_1 : decode cX8_onCycle 1 = .ok (.invokestatic 123, 3) := by decide +kernel
theorem dX8_onCycle_4 : decode cX8_onCycle 4 = .ok (.ifCond .eq 7, 3) := by decide +kernel
theorem dX8_onCycle_7 : decode cX8_onCycle 7 = .ok (.iload_n 3, 1) := by decide +kernel
theorem dX8_onCycle_8 : decode cX8_onCycle 8 = .ok (.ifCond .ge 5, 3) := by decide +kernel
theorem dX8_onCycle_11 : decode cX8_onCycle 11 = .ok (.iconst (-1), 1) := by decide +kernel
theorem dX8_onCycle_12 : decode cX8_onCycle 12 = .ok (.ireturn, 1) := by decide +kernel
theorem dX8_onCycle_13 : decode cX8_onCycle 13 = .ok (.aload_n 0, 1) := by decide +kernel
theorem dX8_onCycle_14 : decode cX8_onCycle 14 = .ok (.getfield 31, 3) := by decide +kernel
theorem dX8_onCycle_17 : decode cX8_onCycle 17 = .ok (.aload_n 0, 1) := by decide +kernel
theorem dX8_onCycle_18 : decode cX8_onCycle 18 = .ok (.getfield 12, 3) := by decide +kernel
theorem dX8_onCycle_21 : decode cX8_onCycle 21 = .ok (.iload_n 1, 1) := by decide +kernel
theorem dX8_onCycle_22 : decode cX8_onCycle 22 = .ok (.invokevirtual 245, 3) := by decide +kernel
theorem dX8_onCycle_25 : decode cX8_onCycle 25 = .ok (.aload_n 0, 1) := by decide +kernel
theorem dX8_onCycle_26 : decode cX8_onCycle 26 = .ok (.getfield 31, 3) := by decide +kernel
theorem dX8_onCycle_29 : decode cX8_onCycle 29 = .ok (.iload_n 2, 1) := by decide +kernel
theorem dX8_onCycle_30 : decode cX8_onCycle 30 = .ok (.invokevirtual 273, 3) := by decide +kernel
theorem dX8_onCycle_33 : decode cX8_onCycle 33 = .ok (.istore 4, 2) := by decide +kernel
theorem dX8_onCycle_35 : decode cX8_onCycle 35 = .ok (.iload 4, 2) := by decide +kernel
theorem dX8_onCycle_37 : decode cX8_onCycle 37 = .ok (.ifCond .ge 8, 3) := by decide +kernel
theorem dX8_onCycle_40 : decode cX8_onCycle 40 = .ok (.bipush (-2), 2) := by decide +kernel
theorem dX8_onCycle_42 : decode cX8_onCycle 42 = .ok (.goto 13, 3) := by decide +kernel
theorem dX8_onCycle_45 : decode cX8_onCycle 45 = .ok (.aload_n 0, 1) := by decide +kernel
theorem dX8_onCycle_46 : decode cX8_onCycle 46 = .ok (.getfield 31, 3) := by decide +kernel
theorem dX8_onCycle_49 : decode cX8_onCycle 49 = .ok (.iload 4, 2) := by decide +kernel
theorem dX8_onCycle_51 : decode cX8_onCycle 51 = .ok (.iload_n 3, 1) := by decide +kernel
theorem dX8_onCycle_52 : decode cX8_onCycle 52 = .ok (.invokevirtual 279, 3) := by decide +kernel
theorem dX8_onCycle_55 : decode cX8_onCycle 55 = .ok (.ireturn, 1) := by decide +kernel
set_option maxRecDepth 20000 in
theorem ggX8_reach_X3_take : GoodIn wsX8_reach wsX3_take := goodIn_r _ [10, 11, 12, 13, 14, 15, 16, 108, 109, 110, 111, 112, 113, 114, 115, 116] (by decide +kernel) (by decide +kernel)
set_option maxRecDepth 20000 in
theorem gX8_reach_X3_take : GoodIn wsX8_reach (wsV RX8 235 RX3 yX3_take wsX3_take) := goodIn_app (goodIn_of _ (by decide +kernel)) ggX8_reach_X3_take
set_option maxRecDepth 20000 in
theorem ggX8_reach_X5_search : GoodIn wsX8_reach wsX5_search := goodIn_r _ [21, 22, 23, 24, 25, 26, 27, 20, 28, 29, 30, 31, 32, 9, 33, 11, 16, 34, 35, 36, 37, 38, 39, 40, 41, 42, 43, 44, 45, 46, 47, 48, 49, 50, 51, 52, 53, 54, 55, 56, 57, 58, 59, 60, 61, 62, 63, 64, 65, 66, 67, 68, 69, 70, 71, 72, 73, 74, 75, 76, 77, 78, 79, 80, 81, 82, 83, 84, 85, 86, 87, 88, 89, 104, 105, 106, 107, 108, 109, 110, 111, 112, 113, 114, 115, 116] (by decide +kernel) (by decide +kernel)
set_option maxRecDepth 20000 in
theorem gX8_reach_X5_search : GoodIn wsX8_reach (wsV RX8 282 RX5 yX5_search wsX5_search) := goodIn_app (goodIn_of _ (by decide +kernel)) ggX8_reach_X5_search
theorem dX8_reach_0 : decode cX8_reach 0 = .ok (.iload_n 1, 1) := by decide +kernel
theorem dX8_reach_1 : decode cX8_reach 1 = .ok (.ifCond .lt 18, 3) := by decide +kernel
theorem dX8_reach_4 : decode cX8_reach 4 = .ok (.iload_n 1, 1) := by decide +kernel
theorem dX8_reach_5 : decode cX8_reach 5 = .ok (.bipush 20, 2) := by decide +kernel
theorem dX8_reach_7 : decode cX8_reach 7 = .ok (.if_icmp .gt 12, 3) := by decide +kernel
theorem dX8_reach_10 : decode cX8_reach 10 = .ok (.iload_n 2, 1) := by decide +kernel
theorem dX8_reach_11 : decode cX8_reach 11 = .ok (.ifCond .lt 8, 3) := by decide +kernel
theorem dX8_reach_14 : decode cX8_reach 14 = .ok (.iload_n 2, 1) := by decide +kernel
theorem dX8_reach_15 : decode cX8_reach 15 = .ok (.iconst 1, 1) := by decide +kernel
theorem dX8_reach_16 : decode cX8_reach 16 = .ok (.if_icmp .le 5, 3) := by decide +kernel
theorem dX8_reach_19 : decode cX8_reach 19 = .ok (.iconst (-1), 1) := by decide +kernel
theorem dX8_reach_20 : decode cX8_reach 20 = .ok (.ireturn, 1) := by decide +kernel
theorem dX8_reach_21 : decode cX8_reach 21 = .ok (.aload_n 0, 1) := by decide +kernel
theorem dX8_reach_22 : decode cX8_reach 22 = .ok (.getfield 18, 3) := by decide +kernel
theorem dX8_reach_25 : decode cX8_reach 25 = .ok (.aload_n 0, 1) := by decide +kernel
theorem dX8_reach_26 : decode cX8_reach 26 = .ok (.getfield 12, 3) := by decide +kernel
theorem dX8_reach_29 : decode cX8_reach 29 = .ok (.invokevirtual 235, 3) := by decide +kernel
theorem dX8_reach_32 : decode cX8_reach 32 = .ok (.aload_n 0, 1) := by decide +kernel
theorem dX8_reach_33 : decode cX8_reach 33 = .ok (.getfield 38, 3) := by decide +kernel
theorem dX8_reach_36 : decode cX8_reach 36 = .ok (.aload_n 0, 1) := by decide +kernel
theorem dX8_reach_37 : decode cX8_reach 37 = .ok (.getfield 18, 3) := by decide +kernel
theorem dX8_reach_40 : decode cX8_reach 40 = .ok (.iload_n 1, 1) := by decide +kernel
theorem dX8_reach_41 : decode cX8_reach 41 = .ok (.iconst 0, 1) := by decide +kernel
theorem dX8_reach_42 : decode cX8_reach 42 = .ok (.invokevirtual 282, 3) := by decide +kernel
theorem dX8_reach_45 : decode cX8_reach 45 = .ok (.iload_n 2, 1) := by decide +kernel
theorem dX8_reach_46 : decode cX8_reach 46 = .ok (.ifCond .ne 13, 3) := by decide +kernel
theorem dX8_reach_49 : decode cX8_reach 49 = .ok (.aload_n 0, 1) := by decide +kernel
theorem dX8_reach_50 : decode cX8_reach 50 = .ok (.getfield 38, 3) := by decide +kernel
theorem dX8_reach_53 : decode cX8_reach 53 = .ok (.getfield 286, 3) := by decide +kernel
theorem dX8_reach_56 : decode cX8_reach 56 = .ok (.goto 18, 3) := by decide +kernel
theorem dX8_reach_59 : decode cX8_reach 59 = .ok (.aload_n 0, 1) := by decide +kernel
theorem dX8_reach_60 : decode cX8_reach 60 = .ok (.getfield 38, 3) := by decide +kernel
theorem dX8_reach_63 : decode cX8_reach 63 = .ok (.getfield 289, 3) := by decide +kernel
theorem dX8_reach_66 : decode cX8_reach 66 = .ok (.ifCond .eq 7, 3) := by decide +kernel
theorem dX8_reach_69 : decode cX8_reach 69 = .ok (.iconst 1, 1) := by decide +kernel
theorem dX8_reach_70 : decode cX8_reach 70 = .ok (.goto 4, 3) := by decide +kernel
theorem dX8_reach_73 : decode cX8_reach 73 = .ok (.iconst 0, 1) := by decide +kernel
theorem dX8_reach_74 : decode cX8_reach 74 = .ok (.ireturn, 1) := by decide +kernel
set_option maxRecDepth 20000 in
theorem ggX8_scale_X3_take : GoodIn wsX8_scale wsX3_take := goodIn_r _ [10, 11, 12, 13, 14, 15, 16, 108, 109, 110, 111, 112, 113, 114, 115, 116] (by decide +kernel) (by decide +kernel)
set_option maxRecDepth 20000 in
theorem gX8_scale_X3_take : GoodIn wsX8_scale (wsV RX8 235 RX3 yX3_take wsX3_take) := goodIn_app (goodIn_of _ (by decide +kernel)) ggX8_scale_X3_take
set_option maxRecDepth 20000 in
theorem ggX8_scale_X5_search : GoodIn wsX8_scale wsX5_search := goodIn_r _ [21, 22, 23, 24, 25, 26, 27, 20, 28, 29, 30, 31, 32, 9, 33, 11, 16, 34, 35, 36, 37, 38, 39, 40, 41, 42, 43, 44, 45, 46, 47, 48, 49, 50, 51, 52, 53, 54, 55, 56, 57, 58, 59, 60, 61, 62, 63, 64, 65, 66, 67, 68, 69, 70, 71, 72, 73, 74, 75, 76, 77, 78, 79, 80, 81, 82, 83, 84, 85, 86, 87, 88, 89, 104, 105, 106, 107, 108, 109, 110, 111, 112, 113, 114, 115, 116] (by decide +kernel) (by decide +kernel)
set_option maxRecDepth 20000 in
theorem gX8_scale_X5_search : GoodIn wsX8_scale (wsV RX8 282 RX5 yX5_search wsX5_search) := goodIn_app (goodIn_of _ (by decide +kernel)) ggX8_scale_X5_search
theorem dX8_scale_0 : decode cX8_scale 0 = .ok (.iload_n 1, 1) := by decide +kernel
theorem dX8_scale_1 : decode cX8_scale 1 = .ok (.ifCond .lt 9, 3) := by decide +kernel
theorem dX8_scale_4 : decode cX8_scale 4 = .ok (.iload_n 1, 1) := by decide +kernel
theorem dX8_scale_5 : decode cX8_scale 5 = .ok (.bipush 20, 2) := by decide +kernel
theorem dX8_scale_7 : decode cX8_scale 7 = .ok (.if_icmp .le 5, 3) := by decide +kernel
theorem dX8_scale_10 : decode cX8_scale 10 = .ok (.iconst (-1), 1) := by decide +kernel
theorem dX8_scale_11 : decode cX8_scale 11 = .ok (.ireturn, 1) := by decide +kernel
theorem dX8_scale_12 : decode cX8_scale 12 = .ok (.aload_n 0, 1) := by decide +kernel
theorem dX8_scale_13 : decode cX8_scale 13 = .ok (.getfield 18, 3) := by decide +kernel
theorem dX8_scale_16 : decode cX8_scale 16 = .ok (.aload_n 0, 1) := by decide +kernel
theorem dX8_scale_17 : decode cX8_scale 17 = .ok (.getfield 12, 3) := by decide +kernel
theorem dX8_scale_20 : decode cX8_scale 20 = .ok (.invokevirtual 235, 3) := by decide +kernel
theorem dX8_scale_23 : decode cX8_scale 23 = .ok (.iconst 0, 1) := by decide +kernel
theorem dX8_scale_24 : decode cX8_scale 24 = .ok (.istore_n 2, 1) := by decide +kernel
theorem dX8_scale_25 : decode cX8_scale 25 = .ok (.iload_n 2, 1) := by decide +kernel
theorem dX8_scale_26 : decode cX8_scale 26 = .ok (.getstatic 95, 3) := by decide +kernel
theorem dX8_scale_29 : decode cX8_scale 29 = .ok (.bipush 6, 2) := by decide +kernel
theorem dX8_scale_31 : decode cX8_scale 31 = .ok (.iaload, 1) := by decide +kernel
theorem dX8_scale_32 : decode cX8_scale 32 = .ok (.if_icmp .gt 36, 3) := by decide +kernel
theorem dX8_scale_35 : decode cX8_scale 35 = .ok (.aload_n 0, 1) := by decide +kernel
theorem dX8_scale_36 : decode cX8_scale 36 = .ok (.getfield 38, 3) := by decide +kernel
theorem dX8_scale_39 : decode cX8_scale 39 = .ok (.aload_n 0, 1) := by decide +kernel
theorem dX8_scale_40 : decode cX8_scale 40 = .ok (.getfield 18, 3) := by decide +kernel
theorem dX8_scale_43 : decode cX8_scale 43 = .ok (.iload_n 1, 1) := by decide +kernel
theorem dX8_scale_44 : decode cX8_scale 44 = .ok (.iload_n 2, 1) := by decide +kernel
theorem dX8_scale_45 : decode cX8_scale 45 = .ok (.ishr, 1) := by decide +kernel
theorem dX8_scale_46 : decode cX8_scale 46 = .ok (.iconst 1, 1) := by decide +kernel
theorem dX8_scale_47 : decode cX8_scale 47 = .ok (.invokevirtual 282, 3) := by decide +kernel
theorem dX8_scale_50 : decode cX8_scale 50 = .ok (.aload_n 0, 1) := by decide +kernel
theorem dX8_scale_51 : decode cX8_scale 51 = .ok (.getfield 38, 3) := by decide +kernel
theorem dX8_scale_54 : decode cX8_scale 54 = .ok (.getfield 289, 3) := by decide +kernel
theorem dX8_scale_57 : decode cX8_scale 57 = .ok (.ifCond .ne 5, 3) := by decide +kernel
theorem dX8_scale_60 : decode cX8_scale 60 = .ok (.iload_n 2, 1) := by decide +kernel
theorem dX8_scale_61 : decode cX8_scale 61 = .ok (.ireturn, 1) := by decide +kernel
theorem dX8_scale_62 : decode cX8_scale 62 = .ok (.iinc 2 1, 3) := by decide +kernel
theorem dX8_scale_65 : decode cX8_scale 65 = .ok (.goto (-40), 3) := by decide +kernel
theorem dX8_scale_68 : decode cX8_scale 68 = .ok (.bipush (-2), 2) := by decide +kernel
theorem dX8_scale_70 : decode cX8_scale 70 = .ok (.ireturn, 1) := by decide +kernel
set_option maxRecDepth 20000 in
theorem ggX8_quietest_X8_isInput : GoodIn wsX8_quietest wsX8_isInput := goodIn_r _ [8] (by decide +kernel) (by decide +kernel)
set_option maxRecDepth 20000 in
theorem gX8_quietest_X8_isInput : GoodIn wsX8_quietest (va_wsS RX8 123 yX8_isInput wsX8_isInput) := goodIn_app (goodIn_of _ (by decide +kernel)) ggX8_quietest_X8_isInput
set_option maxRecDepth 20000 in
theorem ggX8_quietest_X3_take : GoodIn wsX8_quietest wsX3_take := goodIn_r _ [13, 14, 15, 16, 17, 18, 19, 143, 144, 145, 146, 147, 148, 149, 150, 151] (by decide +kernel) (by decide +kernel)
set_option maxRecDepth 20000 in
theorem gX8_quietest_X3_take : GoodIn wsX8_quietest (wsV RX8 235 RX3 yX3_take wsX3_take) := goodIn_app (goodIn_of _ (by decide +kernel)) ggX8_quietest_X3_take
set_option maxRecDepth 20000 in
theorem ggX8_quietest_X7_draw : GoodIn wsX8_quietest wsX7_draw := goodIn_r _ [24, 25, 26, 27, 28, 29, 30, 31, 12, 32, 14, 33, 34, 35, 23, 36, 37, 38, 39, 40, 41, 42, 43, 44, 10, 11, 13, 15, 16, 17, 18, 19, 45, 46, 47, 48, 49, 50, 51, 52, 53, 54, 55, 56, 57, 58, 59, 60, 61, 62, 63, 64, 65, 66, 67, 68, 69, 70, 71, 72, 73, 74, 75, 76, 77, 78, 79, 80, 81, 82, 83, 84, 85, 86, 87, 88, 89, 90, 91, 92, 93, 94, 95, 96, 97, 98, 99, 100, 101, 102, 103, 104, 105, 106, 107, 108, 109, 110, 111, 112, 113, 114, 115, 116, 117, 118, 119, 120, 121, 122, 123, 124, 152, 153, 154, 155, 156, 157, 158, 159, 160, 143, 144, 145, 146, 147, 148, 149, 150, 151] (by decide +kernel) (by decide +kernel)
set_option maxRecDepth 20000 in
theorem gX8_quietest_X7_draw : GoodIn wsX8_quietest (wsV RX8 245 RX7 yX7_draw wsX7_draw) := goodIn_app (goodIn_of _ (by decide +kernel)) ggX8_quietest_X7_draw
set_option maxRecDepth 20000 in
theorem ggX8_quietest_X7_loudestOfAll : GoodIn wsX8_quietest wsX7_loudestOfAll := goodIn_r _ [128, 42, 152, 153, 154, 155, 156, 157, 158, 159, 160] (by decide +kernel) (by decide +kernel)
set_option maxRecDepth 20000 in
theorem gX8_quietest_X7_loudestOfAll : GoodIn wsX8_quietest (wsV RX8 267 RX7 yX7_loudestOfAll wsX7_loudestOfAll) := goodIn_app (goodIn_of _ (by decide +kernel)) ggX8_quietest_X7_loudestOfAll
theorem dX8_quietest_0 : decode cX8_quietest 0 = .ok (.iload_n 1, 1) := by decide +kernel
theorem dX8_quietest_1 : decode cX8_quietest 1 = .ok (.invokestatic 123, 3) := by decide +kernel
theorem dX8_quietest_4 : decode cX8_quietest 4 = .ok (.ifCond .eq 12, 3) := by decide +kernel
theorem dX8_quietest_7 : decode cX8_quietest 7 = .ok (.iload_n 2, 1) := by decide +kernel
theorem dX8_quietest_8 : decode cX8_quietest 8 = .ok (.ifCond .lt 8, 3) := by decide +kernel
theorem dX8_quietest_11 : decode cX8_quietest 11 = .ok (.iload_n 2, 1) := by decide +kernel
theorem dX8_quietest_12 : decode cX8_quietest 12 = .ok (.iconst 1, 1) := by decide +kernel
theorem dX8_quietest_13 : decode cX8_quietest 13 = .ok (.if_icmp .le 5, 3) := by decide +kernel
theorem dX8_quietest_16 : decode cX8_quietest 16 = .ok (.iconst (-1), 1) := by decide +kernel
theorem dX8_quietest_17 : decode cX8_quietest 17 = .ok (.ireturn, 1) := by decide +kernel
theorem dX8_quietest_18 : decode cX8_quietest 18 = .ok (.aload_n 0, 1) := by decide +kernel
theorem dX8_quietest_19 : decode cX8_quietest 19 = .ok (.getfield 18, 3) := by decide +kernel
theorem dX8_quietest_22 : decode cX8_quietest 22 = .ok (.aload_n 0, 1) := by decide +kernel
theorem dX8_quietest_23 : decode cX8_quietest 23 = .ok (.getfield 12, 3) := by decide +kernel
theorem dX8_quietest_26 : decode cX8_quietest 26 = .ok (.invokevirtual 235, 3) := by decide +kernel
theorem dX8_quietest_29 : decode cX8_quietest 29 = .ok (.iconst 0, 1) := by decide +kernel
theorem dX8_quietest_30 : decode cX8_quietest 30 = .ok (.istore_n 3, 1) := by decide +kernel
theorem dX8_quietest_31 : decode cX8_quietest 31 = .ok (.bipush 100, 2) := by decide +kernel
theorem dX8_quietest_33 : decode cX8_quietest 33 = .ok (.istore 4, 2) := by decide +kernel
theorem dX8_quietest_35 : decode cX8_quietest 35 = .ok (.iconst 0, 1) := by decide +kernel
theorem dX8_quietest_36 : decode cX8_quietest 36 = .ok (.istore 5, 2) := by decide +kernel
theorem dX8_quietest_38 : decode cX8_quietest 38 = .ok (.iload 5, 2) := by decide +kernel
theorem dX8_quietest_40 : decode cX8_quietest 40 = .ok (.iconst 5, 1) := by decide +kernel
theorem dX8_quietest_41 : decode cX8_quietest 41 = .ok (.if_icmp .ge 56, 3) := by decide +kernel
theorem dX8_quietest_44 : decode cX8_quietest 44 = .ok (.aload_n 0, 1) := by decide +kernel
theorem dX8_quietest_45 : decode cX8_quietest 45 = .ok (.getfield 18, 3) := by decide +kernel
theorem dX8_quietest_48 : decode cX8_quietest 48 = .ok (.getfield 102, 3) := by decide +kernel
theorem dX8_quietest_51 : decode cX8_quietest 51 = .ok (.bipush 7, 2) := by decide +kernel
theorem dX8_quietest_53 : decode cX8_quietest 53 = .ok (.iload 5, 2) := by decide +kernel
theorem dX8_quietest_55 : decode cX8_quietest 55 = .ok (.iastore, 1) := by decide +kernel
theorem dX8_quietest_56 : decode cX8_quietest 56 = .ok (.aload_n 0, 1) := by decide +kernel
theorem dX8_quietest_57 : decode cX8_quietest 57 = .ok (.getfield 31, 3) := by decide +kernel
theorem dX8_quietest_60 : decode cX8_quietest 60 = .ok (.aload_n 0, 1) := by decide +kernel
theorem dX8_quietest_61 : decode cX8_quietest 61 = .ok (.getfield 18, 3) := by decide +kernel
theorem dX8_quietest_64 : decode cX8_quietest 64 = .ok (.iload_n 1, 1) := by decide +kernel
theorem dX8_quietest_65 : decode cX8_quietest 65 = .ok (.invokevirtual 245, 3) := by decide +kernel
theorem dX8_quietest_68 : decode cX8_quietest 68 = .ok (.aload_n 0, 1) := by decide +kernel
theorem dX8_quietest_69 : decode cX8_quietest 69 = .ok (.getfield 31, 3) := by decide +kernel
theorem dX8_quietest_72 : decode cX8_quietest 72 = .ok (.invokevirtual 267, 3) := by decide +kernel
theorem dX8_quietest_75 : decode cX8_quietest 75 = .ok (.istore 6, 2) := by decide +kernel
theorem dX8_quietest_77 : decode cX8_quietest 77 = .ok (.iload 6, 2) := by decide +kernel
theorem dX8_quietest_79 : decode cX8_quietest 79 = .ok (.iload 4, 2) := by decide +kernel
theorem dX8_quietest_81 : decode cX8_quietest 81 = .ok (.if_icmp .ge 10, 3) := by decide +kernel
theorem dX8_quietest_84 : decode cX8_quietest 84 = .ok (.iload 6, 2) := by decide +kernel
theorem dX8_quietest_86 : decode cX8_quietest 86 = .ok (.istore 4, 2) := by decide +kernel
theorem dX8_quietest_88 : decode cX8_quietest 88 = .ok (.iload 5, 2) := by decide +kernel
theorem dX8_quietest_90 : decode cX8_quietest 90 = .ok (.istore_n 3, 1) := by decide +kernel
theorem dX8_quietest_91 : decode cX8_quietest 91 = .ok (.iinc 5 1, 3) := by decide +kernel
theorem dX8_quietest_94 : decode cX8_quietest 94 = .ok (.goto (-56), 3) := by decide +kernel
theorem dX8_quietest_97 : decode cX8_quietest 97 = .ok (.iload_n 2, 1) := by decide +kernel
theorem dX8_quietest_98 : decode cX8_quietest 98 = .ok (.ifCond .ne 7, 3) := by decide +kernel
theorem dX8_quietest_101 : decode cX8_quietest 101 = .ok (.iload_n 3, 1) := by decide +kernel
theorem dX8_quietest_102 : decode cX8_quietest 102 = .ok (.goto 5, 3) := by decide +kernel
theorem dX8_quietest_105 : decode cX8_quietest 105 = .ok (.iload 4, 2) := by decide +kernel
theorem dX8_quietest_107 : decode cX8_quietest 107 = .ok (.ireturn, 1) := by decide +kernel
set_option maxRecDepth 20000 in
theorem ggX8_tamed_X8_isInput : GoodIn wsX8_tamed wsX8_isInput := goodIn_r _ [10] (by decide +kernel) (by decide +kernel)
set_option maxRecDepth 20000 in
theorem gX8_tamed_X8_isInput : GoodIn wsX8_tamed (va_wsS RX8 123 yX8_isInput wsX8_isInput) := goodIn_app (goodIn_of _ (by decide +kernel)) ggX8_tamed_X8_isInput
set_option maxRecDepth 20000 in
theorem ggX8_tamed_X3_take : GoodIn wsX8_tamed wsX3_take := goodIn_r _ [15, 16, 17, 18, 19, 20, 21, 137, 138, 139, 140, 141, 142, 143, 144, 145] (by decide +kernel) (by decide +kernel)
set_option maxRecDepth 20000 in
theorem gX8_tamed_X3_take : GoodIn wsX8_tamed (wsV RX8 235 RX3 yX3_take wsX3_take) := goodIn_app (goodIn_of _ (by decide +kernel)) ggX8_tamed_X3_take
set_option maxRecDepth 20000 in
theorem ggX8_tamed_X7_staysWithin : GoodIn wsX8_tamed wsX7_staysWithin := goodIn_r _ [26, 27, 28, 29, 30, 31, 32, 33, 25, 34, 35, 36, 37, 38, 39, 40, 41, 42, 12, 13, 14, 15, 16, 17, 18, 19, 20, 21, 43, 44, 45, 46, 47, 48, 49, 50, 51, 52, 53, 54, 55, 56, 57, 58, 59, 60, 61, 62, 63, 64, 65, 66, 67, 68, 69, 70, 71, 72, 73, 74, 75, 76, 77, 78, 79, 80, 81, 82, 83, 84, 85, 86, 87, 88, 89, 90, 91, 92, 93, 94, 95, 96, 97, 98, 99, 100, 101, 102, 103, 104, 105, 106, 107, 108, 109, 110, 111, 112, 113, 114, 115, 116, 117, 118, 119, 120, 121, 122, 146, 147, 148, 149, 150, 151, 152, 153, 154, 137, 138, 139, 140, 141, 142, 143, 144, 145] (by decide +kernel) (by decide +kernel)
set_option maxRecDepth 20000 in
theorem gX8_tamed_X7_staysWithin : GoodIn wsX8_tamed (wsV RX8 290 RX7 yX7_staysWithin wsX7_staysWithin) := goodIn_app (goodIn_of _ (by decide +kernel)) ggX8_tamed_X7_staysWithin
theorem dX8_tamed_0 : decode cX8_tamed 0 = .ok (.iload_n 1, 1) := by decide +kernel
theorem dX8_tamed_1 : decode cX8_tamed 1 = .ok (.invokestatic 123, 3) := by decide +kernel
theorem dX8_tamed_4 : decode cX8_tamed 4 = .ok (.ifCond .eq 13, 3) := by decide +kernel
theorem dX8_tamed_7 : decode cX8_tamed 7 = .ok (.iload_n 2, 1) := by decide +kernel
theorem dX8_tamed_8 : decode cX8_tamed 8 = .ok (.ifCond .lt 9, 3) := by decide +kernel
theorem dX8_tamed_11 : decode cX8_tamed 11 = .ok (.iload_n 2, 1) := by decide +kernel
theorem dX8_tamed_12 : decode cX8_tamed 12 = .ok (.bipush 99, 2) := by decide +kernel
theorem dX8_tamed_14 : decode cX8_tamed 14 = .ok (.if_icmp .le 7, 3) := by decide +kernel
theorem dX8_tamed_17 : decode cX8_tamed 17 = .ok (.sipush (-1001), 3) := by decide +kernel
theorem dX8_tamed_20 : decode cX8_tamed 20 = .ok (.ireturn, 1) := by decide +kernel
theorem dX8_tamed_21 : decode cX8_tamed 21 = .ok (.aload_n 0, 1) := by decide +kernel
theorem dX8_tamed_22 : decode cX8_tamed 22 = .ok (.getfield 18, 3) := by decide +kernel
theorem dX8_tamed_25 : decode cX8_tamed 25 = .ok (.aload_n 0, 1) := by decide +kernel
theorem dX8_tamed_26 : decode cX8_tamed 26 = .ok (.getfield 12, 3) := by decide +kernel
theorem dX8_tamed_29 : decode cX8_tamed 29 = .ok (.invokevirtual 235, 3) := by decide +kernel
theorem dX8_tamed_32 : decode cX8_tamed 32 = .ok (.getstatic 95, 3) := by decide +kernel
theorem dX8_tamed_35 : decode cX8_tamed 35 = .ok (.iconst 2, 1) := by decide +kernel
theorem dX8_tamed_36 : decode cX8_tamed 36 = .ok (.iaload, 1) := by decide +kernel
theorem dX8_tamed_37 : decode cX8_tamed 37 = .ok (.istore_n 3, 1) := by decide +kernel
theorem dX8_tamed_38 : decode cX8_tamed 38 = .ok (.iload_n 3, 1) := by decide +kernel
theorem dX8_tamed_39 : decode cX8_tamed 39 = .ok (.getstatic 92, 3) := by decide +kernel
theorem dX8_tamed_42 : decode cX8_tamed 42 = .ok (.iconst 2, 1) := by decide +kernel
theorem dX8_tamed_43 : decode cX8_tamed 43 = .ok (.iaload, 1) := by decide +kernel
theorem dX8_tamed_44 : decode cX8_tamed 44 = .ok (.if_icmp .lt 37, 3) := by decide +kernel
theorem dX8_tamed_47 : decode cX8_tamed 47 = .ok (.aload_n 0, 1) := by decide +kernel
theorem dX8_tamed_48 : decode cX8_tamed 48 = .ok (.getfield 18, 3) := by decide +kernel
theorem dX8_tamed_51 : decode cX8_tamed 51 = .ok (.getfield 102, 3) := by decide +kernel
theorem dX8_tamed_54 : decode cX8_tamed 54 = .ok (.iconst 2, 1) := by decide +kernel
theorem dX8_tamed_55 : decode cX8_tamed 55 = .ok (.iload_n 3, 1) := by decide +kernel
theorem dX8_tamed_56 : decode cX8_tamed 56 = .ok (.iastore, 1) := by decide +kernel
theorem dX8_tamed_57 : decode cX8_tamed 57 = .ok (.aload_n 0, 1) := by decide +kernel
theorem dX8_tamed_58 : decode cX8_tamed 58 = .ok (.getfield 31, 3) := by decide +kernel
theorem dX8_tamed_61 : decode cX8_tamed 61 = .ok (.aload_n 0, 1) := by decide +kernel
theorem dX8_tamed_62 : decode cX8_tamed 62 = .ok (.getfield 18, 3) := by decide +kernel
theorem dX8_tamed_65 : decode cX8_tamed 65 = .ok (.iload_n 1, 1) := by decide +kernel
theorem dX8_tamed_66 : decode cX8_tamed 66 = .ok (.iload_n 2, 1) := by decide +kernel
theorem dX8_tamed_67 : decode cX8_tamed 67 = .ok (.invokevirtual 290, 3) := by decide +kernel
theorem dX8_tamed_70 : decode cX8_tamed 70 = .ok (.ifCond .eq 5, 3) := by decide +kernel
theorem dX8_tamed_73 : decode cX8_tamed 73 = .ok (.iload_n 3, 1) := by decide +kernel
theorem dX8_tamed_74 : decode cX8_tamed 74 = .ok (.ireturn, 1) := by decide +kernel
theorem dX8_tamed_75 : decode cX8_tamed 75 = .ok (.iinc 3 (-1), 3) := by decide +kernel
theorem dX8_tamed_78 : decode cX8_tamed 78 = .ok (.goto (-40), 3) := by decide +kernel
theorem dX8_tamed_81 : decode cX8_tamed 81 = .ok (.sipush (-1002), 3) := by decide +kernel
theorem dX8_tamed_84 : decode cX8_tamed 84 = .ok (.ireturn, 1) := by decide +kernel
set_option maxRecDepth 20000 in
theorem ggX8_lost_X8_isInput : GoodIn wsX8_lost wsX8_isInput := goodIn_r _ [12] (by decide +kernel) (by decide +kernel)
set_option maxRecDepth 20000 in
theorem gX8_lost_X8_isInput : GoodIn wsX8_lost (va_wsS RX8 123 yX8_isInput wsX8_isInput) := goodIn_app (goodIn_of _ (by decide +kernel)) ggX8_lost_X8_isInput
set_option maxRecDepth 20000 in
theorem ggX8_lost_X8_isPart : GoodIn wsX8_lost wsX8_isPart := goodIn_r _ [15] (by decide +kernel) (by decide +kernel)
set_option maxRecDepth 20000 in
theorem gX8_lost_X8_isPart : GoodIn wsX8_lost (va_wsS RX8 192 yX8_isPart wsX8_isPart) := goodIn_app (goodIn_of _ (by decide +kernel)) ggX8_lost_X8_isPart
set_option maxRecDepth 20000 in
theorem ggX8_lost_X3_take : GoodIn wsX8_lost wsX3_take := goodIn_r _ [20, 21, 22, 23, 24, 25, 26, 95, 96, 97, 98, 99, 100, 101, 102, 103] (by decide +kernel) (by decide +kernel)
set_option maxRecDepth 20000 in
theorem gX8_lost_X3_take : GoodIn wsX8_lost (wsV RX8 235 RX3 yX3_take wsX3_take) := goodIn_app (goodIn_of _ (by decide +kernel)) ggX8_lost_X3_take
set_option maxRecDepth 20000 in
theorem ggX8_lost_X3_howManyPasts : GoodIn wsX8_lost wsX3_howManyPasts := goodIn_r _ [30, 21, 95, 96, 97, 98, 99, 100, 101, 102, 103] (by decide +kernel) (by decide +kernel)
set_option maxRecDepth 20000 in
theorem gX8_lost_X3_howManyPasts : GoodIn wsX8_lost (wsV RX8 226 RX3 yX3_howManyPasts wsX3_howManyPasts) := goodIn_app (goodIn_of _ (by decide +kernel)) ggX8_lost_X3_howManyPasts
set_option maxRecDepth 20000 in
theorem ggX8_lost_X3_unpack : GoodIn wsX8_lost wsX3_unpack := goodIn_r _ [34, 21, 35, 36, 7, 37, 26, 38, 39, 40, 19, 41, 95, 96, 97, 98, 99, 100, 101, 102, 103] (by decide +kernel) (by decide +kernel)
set_option maxRecDepth 20000 in
theorem gX8_lost_X3_unpack : GoodIn wsX8_lost (wsV RX8 239 RX3 yX3_unpack wsX3_unpack) := goodIn_app (goodIn_of _ (by decide +kernel)) ggX8_lost_X3_unpack
set_option maxRecDepth 20000 in
theorem ggX8_lost_X3_weigh : GoodIn wsX8_lost wsX3_weigh := goodIn_r _ [45, 46, 47, 48, 19, 49, 50, 51, 21, 26, 52, 53, 54, 55, 56, 57, 58, 59, 60, 61, 62, 63, 64, 65, 66, 67, 68, 69, 70, 71, 38, 39, 40, 41, 72, 73, 74, 75, 95, 96, 97, 98, 99, 100, 101, 102, 103] (by decide +kernel) (by decide +kernel)
set_option maxRecDepth 20000 in
theorem gX8_lost_X3_weigh : GoodIn wsX8_lost (wsV RX8 126 RX3 yX3_weigh wsX3_weigh) := goodIn_app (goodIn_of _ (by decide +kernel)) ggX8_lost_X3_weigh
set_option maxRecDepth 20000 in
theorem ggX8_lost_X3_unit : GoodIn wsX8_lost wsX3_unit := goodIn_r _ [67, 21, 95, 96, 97, 98, 99, 100, 101, 102, 103] (by decide +kernel) (by decide +kernel)
set_option maxRecDepth 20000 in
theorem gX8_lost_X3_unit : GoodIn wsX8_lost (wsV RX8 201 RX3 yX3_unit wsX3_unit) := goodIn_app (goodIn_of _ (by decide +kernel)) ggX8_lost_X3_unit
set_option maxRecDepth 20000 in
theorem ggX8_lost_X8_inLowestTerms : GoodIn wsX8_lost wsX8_inLowestTerms := goodIn_r _ [79, 80] (by decide +kernel) (by decide +kernel)
set_option maxRecDepth 20000 in
theorem gX8_lost_X8_inLowestTerms : GoodIn wsX8_lost (va_wsS RX8 204 yX8_inLowestTerms wsX8_inLowestTerms) := goodIn_app (goodIn_of _ (by decide +kernel)) ggX8_lost_X8_inLowestTerms
theorem dX8_lost_0 : decode cX8_lost 0 = .ok (.iload_n 1, 1) := by decide +kernel
theorem dX8_lost_1 : decode cX8_lost 1 = .ok (.invokestatic 123, 3) := by decide +kernel
theorem dX8_lost_4 : decode cX8_lost 4 = .ok (.ifCond .eq 10, 3) := by decide +kernel
theorem dX8_lost_7 : decode cX8_lost 7 = .ok (.iload_n 2, 1) := by decide +kernel
theorem dX8_lost_8 : decode cX8_lost 8 = .ok (.invokestatic 192, 3) := by decide +kernel
theorem dX8_lost_11 : decode cX8_lost 11 = .ok (.ifCond .ne 7, 3) := by decide +kernel
theorem dX8_lost_14 : decode cX8_lost 14 = .ok (.ldc2_w 195, 3) := by decide +kernel
theorem dX8_lost_17 : decode cX8_lost 17 = .ok (.lreturn, 1) := by decide +kernel
theorem dX8_lost_18 : decode cX8_lost 18 = .ok (.aload_n 0, 1) := by decide +kernel
theorem dX8_lost_19 : decode cX8_lost 19 = .ok (.getfield 18, 3) := by decide +kernel
theorem dX8_lost_22 : decode cX8_lost 22 = .ok (.aload_n 0, 1) := by decide +kernel
theorem dX8_lost_23 : decode cX8_lost 23 = .ok (.getfield 12, 3) := by decide +kernel
theorem dX8_lost_26 : decode cX8_lost 26 = .ok (.invokevirtual 235, 3) := by decide +kernel
theorem dX8_lost_29 : decode cX8_lost 29 = .ok (.aload_n 0, 1) := by decide +kernel
theorem dX8_lost_30 : decode cX8_lost 30 = .ok (.getfield 12, 3) := by decide +kernel
theorem dX8_lost_33 : decode cX8_lost 33 = .ok (.invokevirtual 226, 3) := by decide +kernel
theorem dX8_lost_36 : decode cX8_lost 36 = .ok (.istore_n 3, 1) := by decide +kernel
theorem dX8_lost_37 : decode cX8_lost 37 = .ok (.lconst 0, 1) := by decide +kernel
theorem dX8_lost_38 : decode cX8_lost 38 = .ok (.lstore 4, 2) := by decide +kernel
theorem dX8_lost_40 : decode cX8_lost 40 = .ok (.iconst 0, 1) := by decide +kernel
theorem dX8_lost_41 : decode cX8_lost 41 = .ok (.istore 6, 2) := by decide +kernel
theorem dX8_lost_43 : decode cX8_lost 43 = .ok (.iload 6, 2) := by decide +kernel
theorem dX8_lost_45 : decode cX8_lost 45 = .ok (.iload_n 3, 1) := by decide +kernel
theorem dX8_lost_46 : decode cX8_lost 46 = .ok (.if_icmp .ge 42, 3) := by decide +kernel
theorem dX8_lost_49 : decode cX8_lost 49 = .ok (.aload_n 0, 1) := by decide +kernel
theorem dX8_lost_50 : decode cX8_lost 50 = .ok (.getfield 18, 3) := by decide +kernel
theorem dX8_lost_53 : decode cX8_lost 53 = .ok (.iload 6, 2) := by decide +kernel
theorem dX8_lost_55 : decode cX8_lost 55 = .ok (.invokevirtual 239, 3) := by decide +kernel
theorem dX8_lost_58 : decode cX8_lost 58 = .ok (.aload_n 0, 1) := by decide +kernel
theorem dX8_lost_59 : decode cX8_lost 59 = .ok (.getfield 18, 3) := by decide +kernel
theorem dX8_lost_62 : decode cX8_lost 62 = .ok (.iload_n 1, 1) := by decide +kernel
theorem dX8_lost_63 : decode cX8_lost 63 = .ok (.invokevirtual 126, 3) := by decide +kernel
theorem dX8_lost_66 : decode cX8_lost 66 = .ok (.lload 4, 2) := by decide +kernel
theorem dX8_lost_68 : decode cX8_lost 68 = .ok (.aload_n 0, 1) := by decide +kernel
theorem dX8_lost_69 : decode cX8_lost 69 = .ok (.getfield 18, 3) := by decide +kernel
theorem dX8_lost_72 : decode cX8_lost 72 = .ok (.getfield 146, 3) := by decide +kernel
theorem dX8_lost_75 : decode cX8_lost 75 = .ok (.invokestatic 294, 3) := by decide +kernel
theorem dX8_lost_78 : decode cX8_lost 78 = .ok (.i2l, 1) := by decide +kernel
theorem dX8_lost_79 : decode cX8_lost 79 = .ok (.ladd, 1) := by decide +kernel
theorem dX8_lost_80 : decode cX8_lost 80 = .ok (.lstore 4, 2) := by decide +kernel
theorem dX8_lost_82 : decode cX8_lost 82 = .ok (.iinc 6 1, 3) := by decide +kernel
theorem dX8_lost_85 : decode cX8_lost 85 = .ok (.goto (-42), 3) := by decide +kernel
theorem dX8_lost_88 : decode cX8_lost 88 = .ok (.lload 4, 2) := by decide +kernel
theorem dX8_lost_90 : decode cX8_lost 90 = .ok (.aload_n 0, 1) := by decide +kernel
theorem dX8_lost_91 : decode cX8_lost 91 = .ok (.getfield 12, 3) := by decide +kernel
theorem dX8_lost_94 : decode cX8_lost 94 = .ok (.invokevirtual 201, 3) := by decide +kernel
theorem dX8_lost_97 : decode cX8_lost 97 = .ok (.i2l, 1) := by decide +kernel
theorem dX8_lost_98 : decode cX8_lost 98 = .ok (.iload_n 3, 1) := by decide +kernel
theorem dX8_lost_99 : decode cX8_lost 99 = .ok (.i2l, 1) := by decide +kernel
theorem dX8_lost_100 : decode cX8_lost 100 = .ok (.lmul, 1) := by decide +kernel
theorem dX8_lost_101 : decode cX8_lost 101 = .ok (.iload_n 2, 1) := by decide +kernel
theorem dX8_lost_102 : decode cX8_lost 102 = .ok (.invokestatic 204, 3) := by decide +kernel
theorem dX8_lost_105 : decode cX8_lost 105 = .ok (.lreturn, 1) := by decide +kernel
set_option maxRecDepth 20000 in
theorem ggX8_fits_X8_isRow : GoodIn wsX8_fits wsX8_isRow := goodIn_r _ [12] (by decide +kernel) (by decide +kernel)
set_option maxRecDepth 20000 in
theorem gX8_fits_X8_isRow : GoodIn wsX8_fits (va_wsS RX8 164 yX8_isRow wsX8_isRow) := goodIn_app (goodIn_of _ (by decide +kernel)) ggX8_fits_X8_isRow
set_option maxRecDepth 20000 in
theorem ggX8_fits_X8_isMissing : GoodIn wsX8_fits wsX8_isMissing := goodIn_r _ [16, 8, 17, 119, 120, 121, 122, 123, 124, 125, 126, 127, 128, 129, 130, 131, 132, 142, 143, 144] (by decide +kernel) (by decide +kernel)
set_option maxRecDepth 20000 in
theorem gX8_fits_X8_isMissing : GoodIn wsX8_fits (wsV RX8 167 RX8 yX8_isMissing wsX8_isMissing) := goodIn_app (goodIn_of _ (by decide +kernel)) ggX8_fits_X8_isMissing
set_option maxRecDepth 20000 in
theorem ggX8_fits_X3_take : GoodIn wsX8_fits wsX3_take := goodIn_r _ [22, 23, 24, 25, 26, 27, 28, 133, 134, 135, 136, 137, 138, 139, 140, 141] (by decide +kernel) (by decide +kernel)
set_option maxRecDepth 20000 in
theorem gX8_fits_X3_take : GoodIn wsX8_fits (wsV RX8 235 RX3 yX3_take wsX3_take) := goodIn_app (goodIn_of _ (by decide +kernel)) ggX8_fits_X3_take
set_option maxRecDepth 20000 in
theorem ggX8_fits_X2_follow : GoodIn wsX8_fits wsX2_follow := goodIn_r _ [33, 34, 35, 36, 37, 38, 39, 40, 41, 42, 43, 44, 45, 46, 47, 48, 49, 50, 51, 52, 53, 54, 55, 56, 57, 58, 59, 60, 61, 62, 63, 64, 65, 66, 67, 21, 68, 69, 70, 71, 72, 73, 74, 23, 28, 75, 76, 77, 78, 79, 80, 81, 82, 83, 84, 85, 86, 87, 88, 89, 90, 91, 92, 93, 94, 95, 96, 97, 98, 99, 100, 101, 102, 103, 104, 105, 106, 107, 108, 109, 145, 146, 147, 148, 149, 150, 142, 143, 144, 133, 134, 135, 136, 137, 138, 139, 140, 141] (by decide +kernel) (by decide +kernel)
set_option maxRecDepth 20000 in
theorem gX8_fits_X2_follow : GoodIn wsX8_fits (wsV RX8 185 RX2 yX2_follow wsX2_follow) := goodIn_app (goodIn_of _ (by decide +kernel)) ggX8_fits_X2_follow
set_option maxRecDepth 20000 in
theorem ggX8_fits_X2_hasAsFirst : GoodIn wsX8_fits wsX2_hasAsFirst := goodIn_r _ [113, 37, 114, 115, 116, 32, 117, 34, 118, 42, 142, 143, 144, 145, 146, 147, 148, 149, 150] (by decide +kernel) (by decide +kernel)
set_option maxRecDepth 20000 in
theorem gX8_fits_X2_hasAsFirst : GoodIn wsX8_fits (wsV RX8 302 RX2 yX2_hasAsFirst wsX2_hasAsFirst) := goodIn_app (goodIn_of _ (by decide +kernel)) ggX8_fits_X2_hasAsFirst
theorem dX8_fits_0 : decode cX8_fits 0 = .ok (.iload_n 1, 1) := by decide +kernel
theorem dX8_fits_1 : decode cX8_fits 1 = .ok (.invokestatic 164, 3) := by decide +kernel
theorem dX8_fits_4 : decode cX8_fits 4 = .ok (.ifCond .eq 22, 3) := by decide +kernel
theorem dX8_fits_7 : decode cX8_fits 7 = .ok (.iload_n 2, 1) := by decide +kernel
theorem dX8_fits_8 : decode cX8_fits 8 = .ok (.invokestatic 164, 3) := by decide +kernel
theorem dX8_fits_11 : decode cX8_fits 11 = .ok (.ifCond .eq 15, 3) := by decide +kernel
theorem dX8_fits_14 : decode cX8_fits 14 = .ok (.iload_n 3, 1) := by decide +kernel
theorem dX8_fits_15 : decode cX8_fits 15 = .ok (.ifCond .lt 11, 3) := by decide +kernel
theorem dX8_fits_18 : decode cX8_fits 18 = .ok (.iload_n 3, 1) := by decide +kernel
theorem dX8_fits_19 : decode cX8_fits 19 = .ok (.getstatic 299, 3) := by decide +kernel
theorem dX8_fits_22 : decode cX8_fits 22 = .ok (.arraylength, 1) := by decide +kernel
theorem dX8_fits_23 : decode cX8_fits 23 = .ok (.if_icmp .lt 7, 3) := by decide +kernel
theorem dX8_fits_26 : decode cX8_fits 26 = .ok (.sipush (-1001), 3) := by decide +kernel
theorem dX8_fits_29 : decode cX8_fits 29 = .ok (.ireturn, 1) := by decide +kernel
theorem dX8_fits_30 : decode cX8_fits 30 = .ok (.aload_n 0, 1) := by decide +kernel
theorem dX8_fits_31 : decode cX8_fits 31 = .ok (.iload_n 1, 1) := by decide +kernel
theorem dX8_fits_32 : decode cX8_fits 32 = .ok (.invokevirtual 167, 3) := by decide +kernel
theorem dX8_fits_35 : decode cX8_fits 35 = .ok (.ifCond .ne 11, 3) := by decide +kernel
theorem dX8_fits_38 : decode cX8_fits 38 = .ok (.aload_n 0, 1) := by decide +kernel
theorem dX8_fits_39 : decode cX8_fits 39 = .ok (.iload_n 2, 1) := by decide +kernel
theorem dX8_fits_40 : decode cX8_fits 40 = .ok (.invokevirtual 167, 3) := by decide +kernel
theorem dX8_fits_43 : decode cX8_fits 43 = .ok (.ifCond .eq 7, 3) := by decide +kernel
theorem dX8_fits_46 : decode cX8_fits 46 = .ok (.sipush (-1011), 3) := by decide +kernel
theorem dX8_fits_49 : decode cX8_fits 49 = .ok (.ireturn, 1) := by decide +kernel
theorem dX8_fits_50 : decode cX8_fits 50 = .ok (.getstatic 299, 3) := by decide +kernel
theorem dX8_fits_53 : decode cX8_fits 53 = .ok (.iload_n 3, 1) := by decide +kernel
theorem dX8_fits_54 : decode cX8_fits 54 = .ok (.iaload, 1) := by decide +kernel
theorem dX8_fits_55 : decode cX8_fits 55 = .ok (.istore 4, 2) := by decide +kernel
theorem dX8_fits_57 : decode cX8_fits 57 = .ok (.iconst 0, 1) := by decide +kernel
theorem dX8_fits_58 : decode cX8_fits 58 = .ok (.istore 5, 2) := by decide +kernel
theorem dX8_fits_60 : decode cX8_fits 60 = .ok (.iconst 0, 1) := by decide +kernel
theorem dX8_fits_61 : decode cX8_fits 61 = .ok (.istore 6, 2) := by decide +kernel
theorem dX8_fits_63 : decode cX8_fits 63 = .ok (.sipush (-1002), 3) := by decide +kernel
theorem dX8_fits_66 : decode cX8_fits 66 = .ok (.istore 7, 2) := by decide +kernel
theorem dX8_fits_68 : decode cX8_fits 68 = .ok (.getstatic 95, 3) := by decide +kernel
theorem dX8_fits_71 : decode cX8_fits 71 = .ok (.iload 4, 2) := by decide +kernel
theorem dX8_fits_73 : decode cX8_fits 73 = .ok (.iaload, 1) := by decide +kernel
theorem dX8_fits_74 : decode cX8_fits 74 = .ok (.istore 8, 2) := by decide +kernel
theorem dX8_fits_76 : decode cX8_fits 76 = .ok (.iload 8, 2) := by decide +kernel
theorem dX8_fits_78 : decode cX8_fits 78 = .ok (.getstatic 92, 3) := by decide +kernel
theorem dX8_fits_81 : decode cX8_fits 81 = .ok (.iload 4, 2) := by decide +kernel
theorem dX8_fits_83 : decode cX8_fits 83 = .ok (.iaload, 1) := by decide +kernel
theorem dX8_fits_84 : decode cX8_fits 84 = .ok (.if_icmp .lt 84, 3) := by decide +kernel
theorem dX8_fits_87 : decode cX8_fits 87 = .ok (.aload_n 0, 1) := by decide +kernel
theorem dX8_fits_88 : decode cX8_fits 88 = .ok (.getfield 18, 3) := by decide +kernel
theorem dX8_fits_91 : decode cX8_fits 91 = .ok (.aload_n 0, 1) := by decide +kernel
theorem dX8_fits_92 : decode cX8_fits 92 = .ok (.getfield 12, 3) := by decide +kernel
theorem dX8_fits_95 : decode cX8_fits 95 = .ok (.invokevirtual 235, 3) := by decide +kernel
theorem dX8_fits_98 : decode cX8_fits 98 = .ok (.aload_n 0, 1) := by decide +kernel
theorem dX8_fits_99 : decode cX8_fits 99 = .ok (.getfield 18, 3) := by decide +kernel
theorem dX8_fits_102 : decode cX8_fits 102 = .ok (.getfield 102, 3) := by decide +kernel
theorem dX8_fits_105 : decode cX8_fits 105 = .ok (.iload 4, 2) := by decide +kernel
theorem dX8_fits_107 : decode cX8_fits 107 = .ok (.iload 8, 2) := by decide +kernel
theorem dX8_fits_109 : decode cX8_fits 109 = .ok (.iastore, 1) := by decide +kernel
theorem dX8_fits_110 : decode cX8_fits 110 = .ok (.aload_n 0, 1) := by decide +kernel
theorem dX8_fits_111 : decode cX8_fits 111 = .ok (.getfield 45, 3) := by decide +kernel
theorem dX8_fits_114 : decode cX8_fits 114 = .ok (.aload_n 0, 1) := by decide +kernel
theorem dX8_fits_115 : decode cX8_fits 115 = .ok (.getfield 18, 3) := by decide +kernel
theorem dX8_fits_118 : decode cX8_fits 118 = .ok (.aload_n 0, 1) := by decide +kernel
theorem dX8_fits_119 : decode cX8_fits 119 = .ok (.getfield 52, 3) := by decide +kernel
theorem dX8_fits_122 : decode cX8_fits 122 = .ok (.iload_n 1, 1) := by decide +kernel
theorem dX8_fits_123 : decode cX8_fits 123 = .ok (.aaload, 1) := by decide +kernel
theorem dX8_fits_124 : decode cX8_fits 124 = .ok (.invokevirtual 185, 3) := by decide +kernel
theorem dX8_fits_127 : decode cX8_fits 127 = .ok (.aload_n 0, 1) := by decide +kernel
theorem dX8_fits_128 : decode cX8_fits 128 = .ok (.getfield 45, 3) := by decide +kernel
theorem dX8_fits_131 : decode cX8_fits 131 = .ok (.aload_n 0, 1) := by decide +kernel
theorem dX8_fits_132 : decode cX8_fits 132 = .ok (.getfield 52, 3) := by decide +kernel
theorem dX8_fits_135 : decode cX8_fits 135 = .ok (.iload_n 2, 1) := by decide +kernel
theorem dX8_fits_136 : decode cX8_fits 136 = .ok (.aaload, 1) := by decide +kernel
theorem dX8_fits_137 : decode cX8_fits 137 = .ok (.invokevirtual 302, 3) := by decide +kernel
theorem dX8_fits_140 : decode cX8_fits 140 = .ok (.ifCond .eq 22, 3) := by decide +kernel
theorem dX8_fits_143 : decode cX8_fits 143 = .ok (.iinc 6 1, 3) := by decide +kernel
theorem dX8_fits_146 : decode cX8_fits 146 = .ok (.iload 8, 2) := by decide +kernel
theorem dX8_fits_148 : decode cX8_fits 148 = .ok (.istore 7, 2) := by decide +kernel
theorem dX8_fits_150 : decode cX8_fits 150 = .ok (.iload 5, 2) := by decide +kernel
theorem dX8_fits_152 : decode cX8_fits 152 = .ok (.iconst 1, 1) := by decide +kernel
theorem dX8_fits_153 : decode cX8_fits 153 = .ok (.iload 8, 2) := by decide +kernel
theorem dX8_fits_155 : decode cX8_fits 155 = .ok (.bipush 31, 2) := by decide +kernel
theorem dX8_fits_157 : decode cX8_fits 157 = .ok (.iand, 1) := by decide +kernel
theorem dX8_fits_158 : decode cX8_fits 158 = .ok (.ishl, 1) := by decide +kernel
theorem dX8_fits_159 : decode cX8_fits 159 = .ok (.ior, 1) := by decide +kernel
theorem dX8_fits_160 : decode cX8_fits 160 = .ok (.istore 5, 2) := by decide +kernel
theorem dX8_fits_162 : decode cX8_fits 162 = .ok (.iinc 8 (-1), 3) := by decide +kernel
theorem dX8_fits_165 : decode cX8_fits 165 = .ok (.goto (-89), 3) := by decide +kernel
theorem dX8_fits_168 : decode cX8_fits 168 = .ok (.iload_n 3, 1) := by decide +kernel
theorem dX8_fits_169 : decode cX8_fits 169 = .ok (.iconst 4, 1) := by decide +kernel
theorem dX8_fits_170 : decode cX8_fits 170 = .ok (.if_icmp .ge 8, 3) := by decide +kernel
theorem dX8_fits_173 : decode cX8_fits 173 = .ok (.iload 5, 2) := by decide +kernel
theorem dX8_fits_175 : decode cX8_fits 175 = .ok (.goto 15, 3) := by decide +kernel
theorem dX8_fits_178 : decode cX8_fits 178 = .ok (.iload_n 3, 1) := by decide +kernel
theorem dX8_fits_179 : decode cX8_fits 179 = .ok (.iconst 4, 1) := by decide +kernel
theorem dX8_fits_180 : decode cX8_fits 180 = .ok (.if_icmp .ne 8, 3) := by decide +kernel
theorem dX8_fits_183 : decode cX8_fits 183 = .ok (.iload 6, 2) := by decide +kernel
theorem dX8_fits_185 : decode cX8_fits 185 = .ok (.goto 5, 3) := by decide +kernel
theorem dX8_fits_188 : decode cX8_fits 188 = .ok (.iload 7, 2) := by decide +kernel
theorem dX8_fits_190 : decode cX8_fits 190 = .ok (.ireturn, 1) := by decide +kernel
set_option maxRecDepth 20000 in
theorem ggX8_judge_X8_isRow : GoodIn wsX8_judge wsX8_isRow := goodIn_r _ [8] (by decide +kernel) (by decide +kernel)
set_option maxRecDepth 20000 in
theorem gX8_judge_X8_isRow : GoodIn wsX8_judge (va_wsS RX8 164 yX8_isRow wsX8_isRow) := goodIn_app (goodIn_of _ (by decide +kernel)) ggX8_judge_X8_isRow
set_option maxRecDepth 20000 in
theorem ggX8_judge_X8_isMissing : GoodIn wsX8_judge wsX8_isMissing := goodIn_r _ [12, 1, 13, 117, 118, 119, 120, 121, 122, 123, 124, 125, 126, 127, 128, 129, 130, 131, 132, 133] (by decide +kernel) (by decide +kernel)
set_option maxRecDepth 20000 in
theorem gX8_judge_X8_isMissing : GoodIn wsX8_judge (wsV RX8 167 RX8 yX8_isMissing wsX8_isMissing) := goodIn_app (goodIn_of _ (by decide +kernel)) ggX8_judge_X8_isMissing
set_option maxRecDepth 20000 in
theorem ggX8_judge_X8_followInThought : GoodIn wsX8_judge wsX8_followInThought := goodIn_r _ [17, 18, 19, 3, 1, 20, 21, 22, 23, 24, 25, 26, 27, 28, 29, 30, 31, 32, 33, 34, 35, 36, 37, 38, 39, 40, 41, 42, 43, 44, 45, 46, 47, 48, 49, 50, 51, 52, 53, 54, 55, 56, 57, 58, 59, 60, 61, 62, 63, 64, 65, 66, 67, 68, 69, 70, 71, 72, 73, 74, 75, 76, 77, 78, 79, 80, 81, 82, 83, 84, 85, 86, 87, 88, 89, 90, 91, 92, 93, 94, 95, 96, 97, 98, 99, 100, 101, 102, 103, 104, 105, 106, 107, 108, 109, 110, 111, 117, 118, 119, 120, 121, 122, 123, 124, 125, 126, 127, 128, 129, 130, 140, 141, 142, 143, 144, 145, 146, 147, 148, 134, 135, 136, 137, 138, 139, 131, 132, 133] (by decide +kernel) (by decide +kernel)
set_option maxRecDepth 20000 in
theorem gX8_judge_X8_followInThought : GoodIn wsX8_judge (wsV RX8 170 RX8 yX8_followInThought wsX8_followInThought) := goodIn_app (goodIn_of _ (by decide +kernel)) ggX8_judge_X8_followInThought
set_option maxRecDepth 20000 in
theorem ggX8_judge_X2_howManyLike : GoodIn wsX8_judge wsX2_howManyLike := goodIn_r _ [115, 36, 39, 116, 44, 134, 135, 136, 137, 138, 139, 131, 132, 133] (by decide +kernel) (by decide +kernel)
set_option maxRecDepth 20000 in
theorem gX8_judge_X2_howManyLike : GoodIn wsX8_judge (wsV RX8 309 RX2 yX2_howManyLike wsX2_howManyLike) := goodIn_app (goodIn_of _ (by decide +kernel)) ggX8_judge_X2_howManyLike
theorem dX8_judge_0 : decode cX8_judge 0 = .ok (.iload_n 1, 1) := by decide +kernel
theorem dX8_judge_1 : decode cX8_judge 1 = .ok (.invokestatic 164, 3) := by decide +kernel
theorem dX8_judge_4 : decode cX8_judge 4 = .ok (.ifCond .eq 10, 3) := by decide +kernel
theorem dX8_judge_7 : decode cX8_judge 7 = .ok (.iload_n 2, 1) := by decide +kernel
theorem dX8_judge_8 : decode cX8_judge 8 = .ok (.invokestatic 164, 3) := by decide +kernel
theorem dX8_judge_11 : decode cX8_judge 11 = .ok (.ifCond .ne 5, 3) := by decide +kernel
theorem dX8_judge_14 : decode cX8_judge 14 = .ok (.iconst (-1), 1) := by decide +kernel
theorem dX8_judge_15 : decode cX8_judge 15 = .ok (.ireturn, 1) := by decide +kernel
theorem dX8_judge_16 : decode cX8_judge 16 = .ok (.aload_n 0, 1) := by decide +kernel
theorem dX8_judge_17 : decode cX8_judge 17 = .ok (.iload_n 1, 1) := by decide +kernel
theorem dX8_judge_18 : decode cX8_judge 18 = .ok (.invokevirtual 167, 3) := by decide +kernel
theorem dX8_judge_21 : decode cX8_judge 21 = .ok (.ifCond .ne 11, 3) := by decide +kernel
theorem dX8_judge_24 : decode cX8_judge 24 = .ok (.aload_n 0, 1) := by decide +kernel
theorem dX8_judge_25 : decode cX8_judge 25 = .ok (.iload_n 2, 1) := by decide +kernel
theorem dX8_judge_26 : decode cX8_judge 26 = .ok (.invokevirtual 167, 3) := by decide +kernel
theorem dX8_judge_29 : decode cX8_judge 29 = .ok (.ifCond .eq 6, 3) := by decide +kernel
theorem dX8_judge_32 : decode cX8_judge 32 = .ok (.bipush (-11), 2) := by decide +kernel
theorem dX8_judge_34 : decode cX8_judge 34 = .ok (.ireturn, 1) := by decide +kernel
theorem dX8_judge_35 : decode cX8_judge 35 = .ok (.aload_n 0, 1) := by decide +kernel
theorem dX8_judge_36 : decode cX8_judge 36 = .ok (.iload_n 1, 1) := by decide +kernel
theorem dX8_judge_37 : decode cX8_judge 37 = .ok (.invokevirtual 170, 3) := by decide +kernel
theorem dX8_judge_40 : decode cX8_judge 40 = .ok (.aload_n 0, 1) := by decide +kernel
theorem dX8_judge_41 : decode cX8_judge 41 = .ok (.getfield 52, 3) := by decide +kernel
theorem dX8_judge_44 : decode cX8_judge 44 = .ok (.iload_n 2, 1) := by decide +kernel
theorem dX8_judge_45 : decode cX8_judge 45 = .ok (.aaload, 1) := by decide +kernel
theorem dX8_judge_46 : decode cX8_judge 46 = .ok (.getfield 306, 3) := by decide +kernel
theorem dX8_judge_49 : decode cX8_judge 49 = .ok (.istore_n 3, 1) := by decide +kernel
theorem dX8_judge_50 : decode cX8_judge 50 = .ok (.aload_n 0, 1) := by decide +kernel
theorem dX8_judge_51 : decode cX8_judge 51 = .ok (.getfield 45, 3) := by decide +kernel
theorem dX8_judge_54 : decode cX8_judge 54 = .ok (.aload_n 0, 1) := by decide +kernel
theorem dX8_judge_55 : decode cX8_judge 55 = .ok (.getfield 52, 3) := by decide +kernel
theorem dX8_judge_58 : decode cX8_judge 58 = .ok (.iload_n 2, 1) := by decide +kernel
theorem dX8_judge_59 : decode cX8_judge 59 = .ok (.aaload, 1) := by decide +kernel
theorem dX8_judge_60 : decode cX8_judge 60 = .ok (.invokevirtual 309, 3) := by decide +kernel
theorem dX8_judge_63 : decode cX8_judge 63 = .ok (.istore 4, 2) := by decide +kernel
theorem dX8_judge_65 : decode cX8_judge 65 = .ok (.iload 4, 2) := by decide +kernel
theorem dX8_judge_67 : decode cX8_judge 67 = .ok (.iload_n 3, 1) := by decide +kernel
theorem dX8_judge_68 : decode cX8_judge 68 = .ok (.if_icmp .ge 6, 3) := by decide +kernel
theorem dX8_judge_71 : decode cX8_judge 71 = .ok (.iload 4, 2) := by decide +kernel
theorem dX8_judge_73 : decode cX8_judge 73 = .ok (.ireturn, 1) := by decide +kernel
