/-! the code tables' rows and the skeleton's, by name -/
theorem fe_4_0 : am_fetch 4 0 = some (.iload_n 1, 1, 1, 0, 0) := by decide +kernel
theorem fe_4_1 : am_fetch 4 1 = some (.ifCond .lt 19, 3, 2, 20, 0) := by decide +kernel
theorem fe_4_4 : am_fetch 4 4 = some (.iload_n 1, 1, 1, 0, 0) := by decide +kernel
theorem fe_4_5 : am_fetch 4 5 = some (.aload_n 0, 1, 1, 0, 0) := by decide +kernel
theorem fe_4_6 : am_fetch 4 6 = some (.getfield 13, 3, 3, 6, 0) := by decide +kernel
theorem fe_4_9 : am_fetch 4 9 = some (.arraylength, 1, 3, 0, 0) := by decide +kernel
theorem fe_4_10 : am_fetch 4 10 = some (.if_icmp .ge 10, 3, 2, 20, 0) := by decide +kernel
theorem fe_4_13 : am_fetch 4 13 = some (.aload_n 0, 1, 1, 0, 0) := by decide +kernel
theorem fe_4_14 : am_fetch 4 14 = some (.getfield 13, 3, 3, 6, 0) := by decide +kernel
theorem fe_4_17 : am_fetch 4 17 = some (.iload_n 1, 1, 1, 0, 0) := by decide +kernel
theorem fe_4_18 : am_fetch 4 18 = some (.iload_n 2, 1, 1, 0, 0) := by decide +kernel
theorem fe_4_19 : am_fetch 4 19 = some (.iastore, 1, 4, 0, 0) := by decide +kernel
theorem fe_4_20 : am_fetch 4 20 = some (.return_, 1, 8, 0, 0) := by decide +kernel
theorem fe_12_0 : am_fetch 12 0 = some (.iload_n 1, 1, 1, 0, 0) := by decide +kernel
theorem fe_12_1 : am_fetch 12 1 = some (.ifCond .lt 21, 3, 2, 22, 0) := by decide +kernel
theorem fe_12_4 : am_fetch 12 4 = some (.iload_n 1, 1, 1, 0, 0) := by decide +kernel
theorem fe_12_5 : am_fetch 12 5 = some (.aload_n 0, 1, 1, 0, 0) := by decide +kernel
theorem fe_12_6 : am_fetch 12 6 = some (.getfield 13, 3, 3, 6, 0) := by decide +kernel
theorem fe_12_9 : am_fetch 12 9 = some (.arraylength, 1, 3, 0, 0) := by decide +kernel
theorem fe_12_10 : am_fetch 12 10 = some (.if_icmp .ge 12, 3, 2, 22, 0) := by decide +kernel
theorem fe_12_13 : am_fetch 12 13 = some (.aload_n 0, 1, 1, 0, 0) := by decide +kernel
theorem fe_12_14 : am_fetch 12 14 = some (.getfield 13, 3, 3, 6, 0) := by decide +kernel
theorem fe_12_17 : am_fetch 12 17 = some (.iload_n 1, 1, 1, 0, 0) := by decide +kernel
theorem fe_12_18 : am_fetch 12 18 = some (.iaload, 1, 3, 0, 0) := by decide +kernel
theorem fe_12_19 : am_fetch 12 19 = some (.goto 4, 3, 2, 23, 0) := by decide +kernel
theorem fe_12_22 : am_fetch 12 22 = some (.iconst 0, 1, 0, 0, 0) := by decide +kernel
theorem fe_12_23 : am_fetch 12 23 = some (.ireturn, 1, 8, 0, 0) := by decide +kernel
theorem fe_13_0 : am_fetch 13 0 = some (.aload_n 0, 1, 1, 0, 0) := by decide +kernel
theorem fe_13_1 : am_fetch 13 1 = some (.getfield 20, 3, 3, 2, 2) := by decide +kernel
theorem fe_13_4 : am_fetch 13 4 = some (.ireturn, 1, 8, 0, 0) := by decide +kernel
theorem fe_14_0 : am_fetch 14 0 = some (.iload_n 1, 1, 1, 0, 0) := by decide +kernel
theorem fe_14_1 : am_fetch 14 1 = some (.tableswitch 176 0 11 #[63, 71, 82, 90, 101, 109, 121, 133, 141, 149, 160, 168], 63, 2, 0, 0) := by decide +kernel
theorem fe_14_64 : am_fetch 14 64 = some (.aload_n 0, 1, 1, 0, 0) := by decide +kernel
theorem fe_14_65 : am_fetch 14 65 = some (.getfield 12, 3, 3, 10, 0) := by decide +kernel
theorem fe_14_68 : am_fetch 14 68 = some (.getfield 222, 3, 3, 107, 0) := by decide +kernel
theorem fe_14_71 : am_fetch 14 71 = some (.ireturn, 1, 8, 0, 0) := by decide +kernel
theorem fe_14_72 : am_fetch 14 72 = some (.aload_n 0, 1, 1, 0, 0) := by decide +kernel
theorem fe_14_73 : am_fetch 14 73 = some (.getfield 12, 3, 3, 10, 0) := by decide +kernel
theorem fe_14_76 : am_fetch 14 76 = some (.getfield 18, 3, 3, 107, 8) := by decide +kernel
theorem fe_14_79 : am_fetch 14 79 = some (.getfield 292, 3, 3, 101, 0) := by decide +kernel
theorem fe_14_82 : am_fetch 14 82 = some (.ireturn, 1, 8, 0, 0) := by decide +kernel
theorem fe_14_83 : am_fetch 14 83 = some (.aload_n 0, 1, 1, 0, 0) := by decide +kernel
theorem fe_14_84 : am_fetch 14 84 = some (.getfield 12, 3, 3, 10, 0) := by decide +kernel
theorem fe_14_87 : am_fetch 14 87 = some (.getfield 295, 3, 3, 107, 1) := by decide +kernel
theorem fe_14_90 : am_fetch 14 90 = some (.ireturn, 1, 8, 0, 0) := by decide +kernel
theorem fe_14_91 : am_fetch 14 91 = some (.aload_n 0, 1, 1, 0, 0) := by decide +kernel
theorem fe_14_92 : am_fetch 14 92 = some (.getfield 12, 3, 3, 10, 0) := by decide +kernel
theorem fe_14_95 : am_fetch 14 95 = some (.getfield 248, 3, 3, 107, 9) := by decide +kernel
theorem fe_14_98 : am_fetch 14 98 = some (.getfield 264, 3, 3, 100, 0) := by decide +kernel
theorem fe_14_101 : am_fetch 14 101 = some (.ireturn, 1, 8, 0, 0) := by decide +kernel
theorem fe_14_102 : am_fetch 14 102 = some (.aload_n 0, 1, 1, 0, 0) := by decide +kernel
theorem fe_14_103 : am_fetch 14 103 = some (.getfield 12, 3, 3, 10, 0) := by decide +kernel
theorem fe_14_106 : am_fetch 14 106 = some (.getfield 298, 3, 3, 107, 2) := by decide +kernel
theorem fe_14_109 : am_fetch 14 109 = some (.ireturn, 1, 8, 0, 0) := by decide +kernel
theorem fe_14_110 : am_fetch 14 110 = some (.aload_n 0, 1, 1, 0, 0) := by decide +kernel
theorem fe_14_111 : am_fetch 14 111 = some (.getfield 12, 3, 3, 10, 0) := by decide +kernel
theorem fe_14_114 : am_fetch 14 114 = some (.getfield 129, 3, 3, 107, 5) := by decide +kernel
theorem fe_14_117 : am_fetch 14 117 = some (.iconst 0, 1, 0, 0, 0) := by decide +kernel
theorem fe_14_118 : am_fetch 14 118 = some (.invokevirtual 237, 3, 7, 12, 0) := by decide +kernel
theorem fe_14_121 : am_fetch 14 121 = some (.ireturn, 1, 8, 0, 0) := by decide +kernel
theorem fe_14_122 : am_fetch 14 122 = some (.aload_n 0, 1, 1, 0, 0) := by decide +kernel
theorem fe_14_123 : am_fetch 14 123 = some (.getfield 12, 3, 3, 10, 0) := by decide +kernel
theorem fe_14_126 : am_fetch 14 126 = some (.getfield 129, 3, 3, 107, 5) := by decide +kernel
theorem fe_14_129 : am_fetch 14 129 = some (.iconst 1, 1, 0, 0, 0) := by decide +kernel
theorem fe_14_130 : am_fetch 14 130 = some (.invokevirtual 237, 3, 7, 12, 0) := by decide +kernel
theorem fe_14_133 : am_fetch 14 133 = some (.ireturn, 1, 8, 0, 0) := by decide +kernel
theorem fe_14_134 : am_fetch 14 134 = some (.aload_n 0, 1, 1, 0, 0) := by decide +kernel
theorem fe_14_135 : am_fetch 14 135 = some (.getfield 12, 3, 3, 10, 0) := by decide +kernel
theorem fe_14_138 : am_fetch 14 138 = some (.getfield 301, 3, 3, 107, 3) := by decide +kernel
theorem fe_14_141 : am_fetch 14 141 = some (.ireturn, 1, 8, 0, 0) := by decide +kernel
theorem fe_14_142 : am_fetch 14 142 = some (.aload_n 0, 1, 1, 0, 0) := by decide +kernel
theorem fe_14_143 : am_fetch 14 143 = some (.getfield 12, 3, 3, 10, 0) := by decide +kernel
theorem fe_14_146 : am_fetch 14 146 = some (.getfield 304, 3, 3, 107, 4) := by decide +kernel
theorem fe_14_149 : am_fetch 14 149 = some (.ireturn, 1, 8, 0, 0) := by decide +kernel
theorem fe_14_150 : am_fetch 14 150 = some (.aload_n 0, 1, 1, 0, 0) := by decide +kernel
theorem fe_14_151 : am_fetch 14 151 = some (.getfield 12, 3, 3, 10, 0) := by decide +kernel
theorem fe_14_154 : am_fetch 14 154 = some (.getfield 31, 3, 3, 107, 10) := by decide +kernel
theorem fe_14_157 : am_fetch 14 157 = some (.getfield 307, 3, 3, 108, 2) := by decide +kernel
theorem fe_14_160 : am_fetch 14 160 = some (.ireturn, 1, 8, 0, 0) := by decide +kernel
theorem fe_14_161 : am_fetch 14 161 = some (.aload_n 0, 1, 1, 0, 0) := by decide +kernel
theorem fe_14_162 : am_fetch 14 162 = some (.getfield 52, 3, 3, 10, 4) := by decide +kernel
theorem fe_14_165 : am_fetch 14 165 = some (.invokevirtual 204, 3, 7, 13, 0) := by decide +kernel
theorem fe_14_168 : am_fetch 14 168 = some (.ireturn, 1, 8, 0, 0) := by decide +kernel
theorem fe_14_169 : am_fetch 14 169 = some (.aload_n 0, 1, 1, 0, 0) := by decide +kernel
theorem fe_14_170 : am_fetch 14 170 = some (.getfield 45, 3, 3, 10, 3) := by decide +kernel
theorem fe_14_173 : am_fetch 14 173 = some (.getfield 312, 3, 3, 104, 0) := by decide +kernel
theorem fe_14_176 : am_fetch 14 176 = some (.ireturn, 1, 8, 0, 0) := by decide +kernel
theorem fe_14_177 : am_fetch 14 177 = some (.new 69, 3, 9, 0, 0) := by decide +kernel
theorem fe_14_180 : am_fetch 14 180 = some (.dup, 1, 0, 0, 0) := by decide +kernel
theorem fe_15_0 : am_fetch 15 0 = some (.iconst 0, 1, 0, 0, 0) := by decide +kernel
theorem fe_15_1 : am_fetch 15 1 = some (.istore_n 1, 1, 1, 0, 0) := by decide +kernel
theorem fe_15_2 : am_fetch 15 2 = some (.iload_n 1, 1, 1, 0, 0) := by decide +kernel
theorem fe_15_3 : am_fetch 15 3 = some (.aload_n 0, 1, 1, 0, 0) := by decide +kernel
theorem fe_15_4 : am_fetch 15 4 = some (.getfield 13, 3, 3, 6, 0) := by decide +kernel
theorem fe_15_7 : am_fetch 15 7 = some (.arraylength, 1, 3, 0, 0) := by decide +kernel
theorem fe_15_8 : am_fetch 15 8 = some (.if_icmp .ge 16, 3, 2, 24, 0) := by decide +kernel
theorem fe_15_11 : am_fetch 15 11 = some (.aload_n 0, 1, 1, 0, 0) := by decide +kernel
theorem fe_15_12 : am_fetch 15 12 = some (.getfield 13, 3, 3, 6, 0) := by decide +kernel
theorem fe_15_15 : am_fetch 15 15 = some (.iload_n 1, 1, 1, 0, 0) := by decide +kernel
theorem fe_15_16 : am_fetch 15 16 = some (.iconst 0, 1, 0, 0, 0) := by decide +kernel
theorem fe_15_17 : am_fetch 15 17 = some (.iastore, 1, 4, 0, 0) := by decide +kernel
theorem fe_15_18 : am_fetch 15 18 = some (.iinc 1 1, 3, 1, 0, 0) := by decide +kernel
theorem fe_15_21 : am_fetch 15 21 = some (.goto (-19), 3, 2, 2, 0) := by decide +kernel
theorem fe_15_24 : am_fetch 15 24 = some (.return_, 1, 8, 0, 0) := by decide +kernel
theorem fe_16_0 : am_fetch 16 0 = some (.aload_n 0, 1, 1, 0, 0) := by decide +kernel
theorem fe_16_1 : am_fetch 16 1 = some (.getfield 26, 3, 3, 8, 0) := by decide +kernel
theorem fe_16_4 : am_fetch 16 4 = some (.iload_n 1, 1, 1, 0, 0) := by decide +kernel
theorem fe_16_5 : am_fetch 16 5 = some (.iadd, 1, 0, 0, 0) := by decide +kernel
theorem fe_16_6 : am_fetch 16 6 = some (.bipush 60, 2, 0, 0, 0) := by decide +kernel
theorem fe_16_8 : am_fetch 16 8 = some (.irem, 1, 0, 0, 0) := by decide +kernel
theorem fe_16_9 : am_fetch 16 9 = some (.ireturn, 1, 8, 0, 0) := by decide +kernel
theorem fe_17_0 : am_fetch 17 0 = some (.aload_n 0, 1, 1, 0, 0) := by decide +kernel
theorem fe_17_1 : am_fetch 17 1 = some (.getfield 23, 3, 3, 8, 5) := by decide +kernel
theorem fe_17_4 : am_fetch 17 4 = some (.aload_n 0, 1, 1, 0, 0) := by decide +kernel
theorem fe_17_5 : am_fetch 17 5 = some (.iload_n 1, 1, 1, 0, 0) := by decide +kernel
theorem fe_17_6 : am_fetch 17 6 = some (.invokevirtual 40, 3, 7, 16, 0) := by decide +kernel
theorem fe_17_9 : am_fetch 17 9 = some (.invokevirtual 48, 3, 7, 12, 0) := by decide +kernel
theorem fe_17_12 : am_fetch 17 12 = some (.ireturn, 1, 8, 0, 0) := by decide +kernel
theorem fe_18_0 : am_fetch 18 0 = some (.iload_n 1, 1, 1, 0, 0) := by decide +kernel
theorem fe_18_1 : am_fetch 18 1 = some (.ifCond .lt 22, 3, 2, 23, 0) := by decide +kernel
theorem fe_18_4 : am_fetch 18 4 = some (.iload_n 1, 1, 1, 0, 0) := by decide +kernel
theorem fe_18_5 : am_fetch 18 5 = some (.aload_n 0, 1, 1, 0, 0) := by decide +kernel
theorem fe_18_6 : am_fetch 18 6 = some (.getfield 13, 3, 3, 6, 0) := by decide +kernel
theorem fe_18_9 : am_fetch 18 9 = some (.arraylength, 1, 3, 0, 0) := by decide +kernel
theorem fe_18_10 : am_fetch 18 10 = some (.if_icmp .ge 13, 3, 2, 23, 0) := by decide +kernel
theorem fe_18_13 : am_fetch 18 13 = some (.aload_n 0, 1, 1, 0, 0) := by decide +kernel
theorem fe_18_14 : am_fetch 18 14 = some (.getfield 13, 3, 3, 6, 0) := by decide +kernel
theorem fe_18_17 : am_fetch 18 17 = some (.iload_n 1, 1, 1, 0, 0) := by decide +kernel
theorem fe_18_18 : am_fetch 18 18 = some (.dup2, 1, 0, 0, 0) := by decide +kernel
theorem fe_18_19 : am_fetch 18 19 = some (.iaload, 1, 3, 0, 0) := by decide +kernel
theorem fe_18_20 : am_fetch 18 20 = some (.iload_n 2, 1, 1, 0, 0) := by decide +kernel
theorem fe_18_21 : am_fetch 18 21 = some (.iadd, 1, 0, 0, 0) := by decide +kernel
theorem fe_18_22 : am_fetch 18 22 = some (.iastore, 1, 4, 0, 0) := by decide +kernel
theorem fe_18_23 : am_fetch 18 23 = some (.return_, 1, 8, 0, 0) := by decide +kernel
theorem fe_19_0 : am_fetch 19 0 = some (.aload_n 0, 1, 1, 0, 0) := by decide +kernel
theorem fe_19_1 : am_fetch 19 1 = some (.getfield 14, 3, 3, 3, 1) := by decide +kernel
theorem fe_19_4 : am_fetch 19 4 = some (.invokevirtual 40, 3, 7, 15, 0) := by decide +kernel
theorem fe_19_7 : am_fetch 19 7 = some (.iconst 0, 1, 0, 0, 0) := by decide +kernel
theorem fe_19_8 : am_fetch 19 8 = some (.istore_n 1, 1, 1, 0, 0) := by decide +kernel
theorem fe_19_9 : am_fetch 19 9 = some (.iload_n 1, 1, 1, 0, 0) := by decide +kernel
theorem fe_19_10 : am_fetch 19 10 = some (.aload_n 0, 1, 1, 0, 0) := by decide +kernel
theorem fe_19_11 : am_fetch 19 11 = some (.getfield 23, 3, 3, 3, 0) := by decide +kernel
theorem fe_19_14 : am_fetch 19 14 = some (.getfield 27, 3, 3, 108, 1) := by decide +kernel
theorem fe_19_17 : am_fetch 19 17 = some (.if_icmp .ge 25, 3, 2, 42, 0) := by decide +kernel
theorem fe_19_20 : am_fetch 19 20 = some (.aload_n 0, 1, 1, 0, 0) := by decide +kernel
theorem fe_19_21 : am_fetch 19 21 = some (.getfield 14, 3, 3, 3, 1) := by decide +kernel
theorem fe_19_24 : am_fetch 19 24 = some (.aload_n 0, 1, 1, 0, 0) := by decide +kernel
theorem fe_19_25 : am_fetch 19 25 = some (.getfield 23, 3, 3, 3, 0) := by decide +kernel
theorem fe_19_28 : am_fetch 19 28 = some (.iload_n 1, 1, 1, 0, 0) := by decide +kernel
theorem fe_19_29 : am_fetch 19 29 = some (.invokevirtual 37, 3, 7, 17, 0) := by decide +kernel
theorem fe_19_32 : am_fetch 19 32 = some (.iconst 1, 1, 0, 0, 0) := by decide +kernel
theorem fe_19_33 : am_fetch 19 33 = some (.invokevirtual 43, 3, 7, 18, 0) := by decide +kernel
theorem fe_19_36 : am_fetch 19 36 = some (.iinc 1 1, 3, 1, 0, 0) := by decide +kernel
theorem fe_19_39 : am_fetch 19 39 = some (.goto (-30), 3, 2, 9, 0) := by decide +kernel
theorem fe_19_42 : am_fetch 19 42 = some (.return_, 1, 8, 0, 0) := by decide +kernel
theorem fe_20_0 : am_fetch 20 0 = some (.aload_n 0, 1, 1, 0, 0) := by decide +kernel
theorem fe_20_1 : am_fetch 20 1 = some (.invokevirtual 47, 3, 7, 19, 0) := by decide +kernel
theorem fe_20_4 : am_fetch 20 4 = some (.iconst 0, 1, 0, 0, 0) := by decide +kernel
theorem fe_20_5 : am_fetch 20 5 = some (.istore_n 1, 1, 1, 0, 0) := by decide +kernel
theorem fe_20_6 : am_fetch 20 6 = some (.iconst 0, 1, 0, 0, 0) := by decide +kernel
theorem fe_20_7 : am_fetch 20 7 = some (.istore_n 2, 1, 1, 0, 0) := by decide +kernel
theorem fe_20_8 : am_fetch 20 8 = some (.iload_n 2, 1, 1, 0, 0) := by decide +kernel
theorem fe_20_9 : am_fetch 20 9 = some (.bipush 31, 2, 0, 0, 0) := by decide +kernel
theorem fe_20_11 : am_fetch 20 11 = some (.if_icmp .ge 28, 3, 2, 39, 0) := by decide +kernel
theorem fe_20_14 : am_fetch 20 14 = some (.iload_n 1, 1, 1, 0, 0) := by decide +kernel
theorem fe_20_15 : am_fetch 20 15 = some (.aload_n 0, 1, 1, 0, 0) := by decide +kernel
theorem fe_20_16 : am_fetch 20 16 = some (.getfield 14, 3, 3, 3, 1) := by decide +kernel
theorem fe_20_19 : am_fetch 20 19 = some (.iload_n 2, 1, 1, 0, 0) := by decide +kernel
theorem fe_20_20 : am_fetch 20 20 = some (.invokevirtual 50, 3, 7, 12, 0) := by decide +kernel
theorem fe_20_23 : am_fetch 20 23 = some (.ifCond .le 7, 3, 2, 30, 0) := by decide +kernel
theorem fe_20_26 : am_fetch 20 26 = some (.iconst 1, 1, 0, 0, 0) := by decide +kernel
theorem fe_20_27 : am_fetch 20 27 = some (.goto 4, 3, 2, 31, 0) := by decide +kernel
theorem fe_20_30 : am_fetch 20 30 = some (.iconst 0, 1, 0, 0, 0) := by decide +kernel
theorem fe_20_31 : am_fetch 20 31 = some (.iadd, 1, 0, 0, 0) := by decide +kernel
theorem fe_20_32 : am_fetch 20 32 = some (.istore_n 1, 1, 1, 0, 0) := by decide +kernel
theorem fe_20_33 : am_fetch 20 33 = some (.iinc 2 1, 3, 1, 0, 0) := by decide +kernel
theorem fe_20_36 : am_fetch 20 36 = some (.goto (-28), 3, 2, 8, 0) := by decide +kernel
theorem fe_20_39 : am_fetch 20 39 = some (.iload_n 1, 1, 1, 0, 0) := by decide +kernel
theorem fe_20_40 : am_fetch 20 40 = some (.ireturn, 1, 8, 0, 0) := by decide +kernel
theorem fe_21_0 : am_fetch 21 0 = some (.aload_n 0, 1, 1, 0, 0) := by decide +kernel
theorem fe_21_1 : am_fetch 21 1 = some (.getfield 23, 3, 3, 3, 0) := by decide +kernel
theorem fe_21_4 : am_fetch 21 4 = some (.getfield 27, 3, 3, 108, 1) := by decide +kernel
theorem fe_21_7 : am_fetch 21 7 = some (.ifCond .ne 5, 3, 2, 12, 0) := by decide +kernel
theorem fe_21_10 : am_fetch 21 10 = some (.iconst (-1), 1, 0, 0, 0) := by decide +kernel
theorem fe_21_11 : am_fetch 21 11 = some (.ireturn, 1, 8, 0, 0) := by decide +kernel
theorem fe_21_12 : am_fetch 21 12 = some (.aload_n 0, 1, 1, 0, 0) := by decide +kernel
theorem fe_21_13 : am_fetch 21 13 = some (.invokevirtual 47, 3, 7, 19, 0) := by decide +kernel
theorem fe_21_16 : am_fetch 21 16 = some (.iconst 0, 1, 0, 0, 0) := by decide +kernel
theorem fe_21_17 : am_fetch 21 17 = some (.istore_n 1, 1, 1, 0, 0) := by decide +kernel
theorem fe_21_18 : am_fetch 21 18 = some (.iconst 1, 1, 0, 0, 0) := by decide +kernel
theorem fe_21_19 : am_fetch 21 19 = some (.istore_n 2, 1, 1, 0, 0) := by decide +kernel
theorem fe_21_20 : am_fetch 21 20 = some (.iload_n 2, 1, 1, 0, 0) := by decide +kernel
theorem fe_21_21 : am_fetch 21 21 = some (.bipush 31, 2, 0, 0, 0) := by decide +kernel
theorem fe_21_23 : am_fetch 21 23 = some (.if_icmp .ge 30, 3, 2, 53, 0) := by decide +kernel
theorem fe_21_26 : am_fetch 21 26 = some (.aload_n 0, 1, 1, 0, 0) := by decide +kernel
theorem fe_21_27 : am_fetch 21 27 = some (.getfield 14, 3, 3, 3, 1) := by decide +kernel
theorem fe_21_30 : am_fetch 21 30 = some (.iload_n 2, 1, 1, 0, 0) := by decide +kernel
theorem fe_21_31 : am_fetch 21 31 = some (.invokevirtual 50, 3, 7, 12, 0) := by decide +kernel
theorem fe_21_34 : am_fetch 21 34 = some (.aload_n 0, 1, 1, 0, 0) := by decide +kernel
theorem fe_21_35 : am_fetch 21 35 = some (.getfield 14, 3, 3, 3, 1) := by decide +kernel
theorem fe_21_38 : am_fetch 21 38 = some (.iload_n 1, 1, 1, 0, 0) := by decide +kernel
theorem fe_21_39 : am_fetch 21 39 = some (.invokevirtual 50, 3, 7, 12, 0) := by decide +kernel
theorem fe_21_42 : am_fetch 21 42 = some (.if_icmp .le 5, 3, 2, 47, 0) := by decide +kernel
theorem fe_21_45 : am_fetch 21 45 = some (.iload_n 2, 1, 1, 0, 0) := by decide +kernel
theorem fe_21_46 : am_fetch 21 46 = some (.istore_n 1, 1, 1, 0, 0) := by decide +kernel
theorem fe_21_47 : am_fetch 21 47 = some (.iinc 2 1, 3, 1, 0, 0) := by decide +kernel
theorem fe_21_50 : am_fetch 21 50 = some (.goto (-30), 3, 2, 20, 0) := by decide +kernel
theorem fe_21_53 : am_fetch 21 53 = some (.iload_n 1, 1, 1, 0, 0) := by decide +kernel
theorem fe_21_54 : am_fetch 21 54 = some (.ireturn, 1, 8, 0, 0) := by decide +kernel
theorem fe_22_0 : am_fetch 22 0 = some (.aload_n 0, 1, 1, 0, 0) := by decide +kernel
theorem fe_22_1 : am_fetch 22 1 = some (.getfield 14, 3, 3, 8, 3) := by decide +kernel
theorem fe_22_4 : am_fetch 22 4 = some (.aload_n 0, 1, 1, 0, 0) := by decide +kernel
theorem fe_22_5 : am_fetch 22 5 = some (.iload_n 1, 1, 1, 0, 0) := by decide +kernel
theorem fe_22_6 : am_fetch 22 6 = some (.invokevirtual 40, 3, 7, 16, 0) := by decide +kernel
theorem fe_22_9 : am_fetch 22 9 = some (.invokevirtual 48, 3, 7, 12, 0) := by decide +kernel
theorem fe_22_12 : am_fetch 22 12 = some (.ireturn, 1, 8, 0, 0) := by decide +kernel
theorem fe_23_0 : am_fetch 23 0 = some (.aload_n 0, 1, 1, 0, 0) := by decide +kernel
theorem fe_23_1 : am_fetch 23 1 = some (.iconst 0, 1, 0, 0, 0) := by decide +kernel
theorem fe_23_2 : am_fetch 23 2 = some (.putfield 53, 3, 4, 3, 3) := by decide +kernel
theorem fe_23_5 : am_fetch 23 5 = some (.iconst 0, 1, 0, 0, 0) := by decide +kernel
theorem fe_23_6 : am_fetch 23 6 = some (.istore_n 1, 1, 1, 0, 0) := by decide +kernel
theorem fe_23_7 : am_fetch 23 7 = some (.iconst 0, 1, 0, 0, 0) := by decide +kernel
theorem fe_23_8 : am_fetch 23 8 = some (.istore_n 2, 1, 1, 0, 0) := by decide +kernel
theorem fe_23_9 : am_fetch 23 9 = some (.iload_n 2, 1, 1, 0, 0) := by decide +kernel
theorem fe_23_10 : am_fetch 23 10 = some (.aload_n 0, 1, 1, 0, 0) := by decide +kernel
theorem fe_23_11 : am_fetch 23 11 = some (.getfield 23, 3, 3, 3, 0) := by decide +kernel
theorem fe_23_14 : am_fetch 23 14 = some (.getfield 27, 3, 3, 108, 1) := by decide +kernel
theorem fe_23_17 : am_fetch 23 17 = some (.if_icmp .ge 80, 3, 2, 97, 0) := by decide +kernel
theorem fe_23_20 : am_fetch 23 20 = some (.iload_n 1, 1, 1, 0, 0) := by decide +kernel
theorem fe_23_21 : am_fetch 23 21 = some (.iconst 1, 1, 0, 0, 0) := by decide +kernel
theorem fe_23_22 : am_fetch 23 22 = some (.aload_n 0, 1, 1, 0, 0) := by decide +kernel
theorem fe_23_23 : am_fetch 23 23 = some (.getfield 23, 3, 3, 3, 0) := by decide +kernel
theorem fe_23_26 : am_fetch 23 26 = some (.iload_n 2, 1, 1, 0, 0) := by decide +kernel
theorem fe_23_27 : am_fetch 23 27 = some (.invokevirtual 37, 3, 7, 17, 0) := by decide +kernel
theorem fe_23_30 : am_fetch 23 30 = some (.ishl, 1, 0, 0, 0) := by decide +kernel
theorem fe_23_31 : am_fetch 23 31 = some (.ior, 1, 0, 0, 0) := by decide +kernel
theorem fe_23_32 : am_fetch 23 32 = some (.istore_n 1, 1, 1, 0, 0) := by decide +kernel
theorem fe_23_33 : am_fetch 23 33 = some (.iload_n 2, 1, 1, 0, 0) := by decide +kernel
theorem fe_23_34 : am_fetch 23 34 = some (.aload_n 0, 1, 1, 0, 0) := by decide +kernel
theorem fe_23_35 : am_fetch 23 35 = some (.getfield 23, 3, 3, 3, 0) := by decide +kernel
theorem fe_23_38 : am_fetch 23 38 = some (.getfield 27, 3, 3, 108, 1) := by decide +kernel
theorem fe_23_41 : am_fetch 23 41 = some (.iconst 1, 1, 0, 0, 0) := by decide +kernel
theorem fe_23_42 : am_fetch 23 42 = some (.isub, 1, 0, 0, 0) := by decide +kernel
theorem fe_23_43 : am_fetch 23 43 = some (.if_icmp .eq 24, 3, 2, 67, 0) := by decide +kernel
theorem fe_23_46 : am_fetch 23 46 = some (.aload_n 0, 1, 1, 0, 0) := by decide +kernel
theorem fe_23_47 : am_fetch 23 47 = some (.getfield 23, 3, 3, 3, 0) := by decide +kernel
theorem fe_23_50 : am_fetch 23 50 = some (.iload_n 2, 1, 1, 0, 0) := by decide +kernel
theorem fe_23_51 : am_fetch 23 51 = some (.iconst 1, 1, 0, 0, 0) := by decide +kernel
theorem fe_23_52 : am_fetch 23 52 = some (.iadd, 1, 0, 0, 0) := by decide +kernel
theorem fe_23_53 : am_fetch 23 53 = some (.invokevirtual 33, 3, 7, 22, 0) := by decide +kernel
theorem fe_23_56 : am_fetch 23 56 = some (.aload_n 0, 1, 1, 0, 0) := by decide +kernel
theorem fe_23_57 : am_fetch 23 57 = some (.getfield 23, 3, 3, 3, 0) := by decide +kernel
theorem fe_23_60 : am_fetch 23 60 = some (.iload_n 2, 1, 1, 0, 0) := by decide +kernel
theorem fe_23_61 : am_fetch 23 61 = some (.invokevirtual 33, 3, 7, 22, 0) := by decide +kernel
theorem fe_23_64 : am_fetch 23 64 = some (.if_icmp .eq 27, 3, 2, 91, 0) := by decide +kernel
theorem fe_23_67 : am_fetch 23 67 = some (.aload_n 0, 1, 1, 0, 0) := by decide +kernel
theorem fe_23_68 : am_fetch 23 68 = some (.getfield 20, 3, 3, 3, 2) := by decide +kernel
theorem fe_23_71 : am_fetch 23 71 = some (.aload_n 0, 1, 1, 0, 0) := by decide +kernel
theorem fe_23_72 : am_fetch 23 72 = some (.getfield 53, 3, 3, 3, 3) := by decide +kernel
theorem fe_23_75 : am_fetch 23 75 = some (.iload_n 1, 1, 1, 0, 0) := by decide +kernel
theorem fe_23_76 : am_fetch 23 76 = some (.invokevirtual 56, 3, 7, 4, 0) := by decide +kernel
theorem fe_23_79 : am_fetch 23 79 = some (.aload_n 0, 1, 1, 0, 0) := by decide +kernel
theorem fe_23_80 : am_fetch 23 80 = some (.dup, 1, 0, 0, 0) := by decide +kernel
theorem fe_23_81 : am_fetch 23 81 = some (.getfield 53, 3, 3, 3, 3) := by decide +kernel
theorem fe_23_84 : am_fetch 23 84 = some (.iconst 1, 1, 0, 0, 0) := by decide +kernel
theorem fe_23_85 : am_fetch 23 85 = some (.iadd, 1, 0, 0, 0) := by decide +kernel
theorem fe_23_86 : am_fetch 23 86 = some (.putfield 53, 3, 4, 3, 3) := by decide +kernel
theorem fe_23_89 : am_fetch 23 89 = some (.iconst 0, 1, 0, 0, 0) := by decide +kernel
theorem fe_23_90 : am_fetch 23 90 = some (.istore_n 1, 1, 1, 0, 0) := by decide +kernel
theorem fe_23_91 : am_fetch 23 91 = some (.iinc 2 1, 3, 1, 0, 0) := by decide +kernel
theorem fe_23_94 : am_fetch 23 94 = some (.goto (-85), 3, 2, 9, 0) := by decide +kernel
theorem fe_23_97 : am_fetch 23 97 = some (.return_, 1, 8, 0, 0) := by decide +kernel
theorem fe_24_0 : am_fetch 24 0 = some (.iconst 0, 1, 0, 0, 0) := by decide +kernel
theorem fe_24_1 : am_fetch 24 1 = some (.istore_n 2, 1, 1, 0, 0) := by decide +kernel
theorem fe_24_2 : am_fetch 24 2 = some (.iload_n 2, 1, 1, 0, 0) := by decide +kernel
theorem fe_24_3 : am_fetch 24 3 = some (.iload_n 1, 1, 1, 0, 0) := by decide +kernel
theorem fe_24_4 : am_fetch 24 4 = some (.if_icmp .ge 30, 3, 2, 34, 0) := by decide +kernel
theorem fe_24_7 : am_fetch 24 7 = some (.aload_n 0, 1, 1, 0, 0) := by decide +kernel
theorem fe_24_8 : am_fetch 24 8 = some (.getfield 20, 3, 3, 3, 2) := by decide +kernel
theorem fe_24_11 : am_fetch 24 11 = some (.iload_n 2, 1, 1, 0, 0) := by decide +kernel
theorem fe_24_12 : am_fetch 24 12 = some (.invokevirtual 50, 3, 7, 12, 0) := by decide +kernel
theorem fe_24_15 : am_fetch 24 15 = some (.aload_n 0, 1, 1, 0, 0) := by decide +kernel
theorem fe_24_16 : am_fetch 24 16 = some (.getfield 20, 3, 3, 3, 2) := by decide +kernel
theorem fe_24_19 : am_fetch 24 19 = some (.iload_n 1, 1, 1, 0, 0) := by decide +kernel
theorem fe_24_20 : am_fetch 24 20 = some (.invokevirtual 50, 3, 7, 12, 0) := by decide +kernel
theorem fe_24_23 : am_fetch 24 23 = some (.if_icmp .ne 5, 3, 2, 28, 0) := by decide +kernel
theorem fe_24_26 : am_fetch 24 26 = some (.iconst 0, 1, 0, 0, 0) := by decide +kernel
theorem fe_24_27 : am_fetch 24 27 = some (.ireturn, 1, 8, 0, 0) := by decide +kernel
theorem fe_24_28 : am_fetch 24 28 = some (.iinc 2 1, 3, 1, 0, 0) := by decide +kernel
theorem fe_24_31 : am_fetch 24 31 = some (.goto (-29), 3, 2, 2, 0) := by decide +kernel
theorem fe_24_34 : am_fetch 24 34 = some (.iconst 1, 1, 0, 0, 0) := by decide +kernel
theorem fe_24_35 : am_fetch 24 35 = some (.ireturn, 1, 8, 0, 0) := by decide +kernel
theorem fe_25_0 : am_fetch 25 0 = some (.aload_n 0, 1, 1, 0, 0) := by decide +kernel
theorem fe_25_1 : am_fetch 25 1 = some (.invokevirtual 59, 3, 7, 23, 0) := by decide +kernel
theorem fe_25_4 : am_fetch 25 4 = some (.iconst 0, 1, 0, 0, 0) := by decide +kernel
theorem fe_25_5 : am_fetch 25 5 = some (.istore_n 1, 1, 1, 0, 0) := by decide +kernel
theorem fe_25_6 : am_fetch 25 6 = some (.iconst 0, 1, 0, 0, 0) := by decide +kernel
theorem fe_25_7 : am_fetch 25 7 = some (.istore_n 2, 1, 1, 0, 0) := by decide +kernel
theorem fe_25_8 : am_fetch 25 8 = some (.iload_n 2, 1, 1, 0, 0) := by decide +kernel
theorem fe_25_9 : am_fetch 25 9 = some (.aload_n 0, 1, 1, 0, 0) := by decide +kernel
theorem fe_25_10 : am_fetch 25 10 = some (.getfield 53, 3, 3, 3, 3) := by decide +kernel
theorem fe_25_13 : am_fetch 25 13 = some (.if_icmp .ge 25, 3, 2, 38, 0) := by decide +kernel
theorem fe_25_16 : am_fetch 25 16 = some (.iload_n 1, 1, 1, 0, 0) := by decide +kernel
theorem fe_25_17 : am_fetch 25 17 = some (.aload_n 0, 1, 1, 0, 0) := by decide +kernel
theorem fe_25_18 : am_fetch 25 18 = some (.iload_n 2, 1, 1, 0, 0) := by decide +kernel
theorem fe_25_19 : am_fetch 25 19 = some (.invokevirtual 62, 3, 7, 24, 0) := by decide +kernel
theorem fe_25_22 : am_fetch 25 22 = some (.ifCond .eq 7, 3, 2, 29, 0) := by decide +kernel
theorem fe_25_25 : am_fetch 25 25 = some (.iconst 1, 1, 0, 0, 0) := by decide +kernel
theorem fe_25_26 : am_fetch 25 26 = some (.goto 4, 3, 2, 30, 0) := by decide +kernel
theorem fe_25_29 : am_fetch 25 29 = some (.iconst 0, 1, 0, 0, 0) := by decide +kernel
theorem fe_25_30 : am_fetch 25 30 = some (.iadd, 1, 0, 0, 0) := by decide +kernel
theorem fe_25_31 : am_fetch 25 31 = some (.istore_n 1, 1, 1, 0, 0) := by decide +kernel
theorem fe_25_32 : am_fetch 25 32 = some (.iinc 2 1, 3, 1, 0, 0) := by decide +kernel
theorem fe_25_35 : am_fetch 25 35 = some (.goto (-27), 3, 2, 8, 0) := by decide +kernel
theorem fe_25_38 : am_fetch 25 38 = some (.iload_n 1, 1, 1, 0, 0) := by decide +kernel
theorem fe_25_39 : am_fetch 25 39 = some (.ireturn, 1, 8, 0, 0) := by decide +kernel
theorem fe_26_0 : am_fetch 26 0 = some (.iload_n 0, 1, 1, 0, 0) := by decide +kernel
theorem fe_26_1 : am_fetch 26 1 = some (.iload_n 0, 1, 1, 0, 0) := by decide +kernel
theorem fe_26_2 : am_fetch 26 2 = some (.iconst 1, 1, 0, 0, 0) := by decide +kernel
theorem fe_26_3 : am_fetch 26 3 = some (.iushr, 1, 0, 0, 0) := by decide +kernel
theorem fe_26_4 : am_fetch 26 4 = some (.ldc_w 265, 3, 6, 5, 1431655765) := by decide +kernel
theorem fe_26_7 : am_fetch 26 7 = some (.iand, 1, 0, 0, 0) := by decide +kernel
theorem fe_26_8 : am_fetch 26 8 = some (.isub, 1, 0, 0, 0) := by decide +kernel
theorem fe_26_9 : am_fetch 26 9 = some (.istore_n 0, 1, 1, 0, 0) := by decide +kernel
theorem fe_26_10 : am_fetch 26 10 = some (.iload_n 0, 1, 1, 0, 0) := by decide +kernel
theorem fe_26_11 : am_fetch 26 11 = some (.ldc_w 266, 3, 6, 5, 858993459) := by decide +kernel
theorem fe_26_14 : am_fetch 26 14 = some (.iand, 1, 0, 0, 0) := by decide +kernel
theorem fe_26_15 : am_fetch 26 15 = some (.iload_n 0, 1, 1, 0, 0) := by decide +kernel
theorem fe_26_16 : am_fetch 26 16 = some (.iconst 2, 1, 0, 0, 0) := by decide +kernel
theorem fe_26_17 : am_fetch 26 17 = some (.iushr, 1, 0, 0, 0) := by decide +kernel
theorem fe_26_18 : am_fetch 26 18 = some (.ldc_w 266, 3, 6, 5, 858993459) := by decide +kernel
theorem fe_26_21 : am_fetch 26 21 = some (.iand, 1, 0, 0, 0) := by decide +kernel
theorem fe_26_22 : am_fetch 26 22 = some (.iadd, 1, 0, 0, 0) := by decide +kernel
theorem fe_26_23 : am_fetch 26 23 = some (.istore_n 0, 1, 1, 0, 0) := by decide +kernel
theorem fe_26_24 : am_fetch 26 24 = some (.iload_n 0, 1, 1, 0, 0) := by decide +kernel
theorem fe_26_25 : am_fetch 26 25 = some (.iload_n 0, 1, 1, 0, 0) := by decide +kernel
theorem fe_26_26 : am_fetch 26 26 = some (.iconst 4, 1, 0, 0, 0) := by decide +kernel
theorem fe_26_27 : am_fetch 26 27 = some (.iushr, 1, 0, 0, 0) := by decide +kernel
theorem fe_26_28 : am_fetch 26 28 = some (.iadd, 1, 0, 0, 0) := by decide +kernel
theorem fe_26_29 : am_fetch 26 29 = some (.ldc_w 267, 3, 6, 5, 252645135) := by decide +kernel
theorem fe_26_32 : am_fetch 26 32 = some (.iand, 1, 0, 0, 0) := by decide +kernel
theorem fe_26_33 : am_fetch 26 33 = some (.istore_n 0, 1, 1, 0, 0) := by decide +kernel
theorem fe_26_34 : am_fetch 26 34 = some (.iload_n 0, 1, 1, 0, 0) := by decide +kernel
theorem fe_26_35 : am_fetch 26 35 = some (.iload_n 0, 1, 1, 0, 0) := by decide +kernel
theorem fe_26_36 : am_fetch 26 36 = some (.bipush 8, 2, 0, 0, 0) := by decide +kernel
theorem fe_26_38 : am_fetch 26 38 = some (.iushr, 1, 0, 0, 0) := by decide +kernel
theorem fe_26_39 : am_fetch 26 39 = some (.iadd, 1, 0, 0, 0) := by decide +kernel
theorem fe_26_40 : am_fetch 26 40 = some (.istore_n 0, 1, 1, 0, 0) := by decide +kernel
theorem fe_26_41 : am_fetch 26 41 = some (.iload_n 0, 1, 1, 0, 0) := by decide +kernel
theorem fe_26_42 : am_fetch 26 42 = some (.iload_n 0, 1, 1, 0, 0) := by decide +kernel
theorem fe_26_43 : am_fetch 26 43 = some (.bipush 16, 2, 0, 0, 0) := by decide +kernel
theorem fe_26_45 : am_fetch 26 45 = some (.iushr, 1, 0, 0, 0) := by decide +kernel
theorem fe_26_46 : am_fetch 26 46 = some (.iadd, 1, 0, 0, 0) := by decide +kernel
theorem fe_26_47 : am_fetch 26 47 = some (.istore_n 0, 1, 1, 0, 0) := by decide +kernel
theorem fe_26_48 : am_fetch 26 48 = some (.iload_n 0, 1, 1, 0, 0) := by decide +kernel
theorem fe_26_49 : am_fetch 26 49 = some (.bipush 63, 2, 0, 0, 0) := by decide +kernel
theorem fe_26_51 : am_fetch 26 51 = some (.iand, 1, 0, 0, 0) := by decide +kernel
theorem fe_26_52 : am_fetch 26 52 = some (.ireturn, 1, 8, 0, 0) := by decide +kernel
theorem fe_27_0 : am_fetch 27 0 = some (.aload_n 0, 1, 1, 0, 0) := by decide +kernel
theorem fe_27_1 : am_fetch 27 1 = some (.invokevirtual 59, 3, 7, 23, 0) := by decide +kernel
theorem fe_27_4 : am_fetch 27 4 = some (.iconst 0, 1, 0, 0, 0) := by decide +kernel
theorem fe_27_5 : am_fetch 27 5 = some (.istore_n 1, 1, 1, 0, 0) := by decide +kernel
theorem fe_27_6 : am_fetch 27 6 = some (.iconst 0, 1, 0, 0, 0) := by decide +kernel
theorem fe_27_7 : am_fetch 27 7 = some (.istore_n 2, 1, 1, 0, 0) := by decide +kernel
theorem fe_27_8 : am_fetch 27 8 = some (.iload_n 2, 1, 1, 0, 0) := by decide +kernel
theorem fe_27_9 : am_fetch 27 9 = some (.aload_n 0, 1, 1, 0, 0) := by decide +kernel
theorem fe_27_10 : am_fetch 27 10 = some (.getfield 53, 3, 3, 3, 3) := by decide +kernel
theorem fe_27_13 : am_fetch 27 13 = some (.if_icmp .ge 25, 3, 2, 38, 0) := by decide +kernel
theorem fe_27_16 : am_fetch 27 16 = some (.iload_n 1, 1, 1, 0, 0) := by decide +kernel
theorem fe_27_17 : am_fetch 27 17 = some (.aload_n 0, 1, 1, 0, 0) := by decide +kernel
theorem fe_27_18 : am_fetch 27 18 = some (.getfield 20, 3, 3, 3, 2) := by decide +kernel
theorem fe_27_21 : am_fetch 27 21 = some (.iload_n 2, 1, 1, 0, 0) := by decide +kernel
theorem fe_27_22 : am_fetch 27 22 = some (.invokevirtual 50, 3, 7, 12, 0) := by decide +kernel
theorem fe_27_25 : am_fetch 27 25 = some (.invokestatic 66, 3, 7, 26, 0) := by decide +kernel
theorem fe_27_28 : am_fetch 27 28 = some (.invokestatic 71, 3, 6, 2, 0) := by decide +kernel
theorem fe_27_31 : am_fetch 27 31 = some (.istore_n 1, 1, 1, 0, 0) := by decide +kernel
theorem fe_27_32 : am_fetch 27 32 = some (.iinc 2 1, 3, 1, 0, 0) := by decide +kernel
theorem fe_27_35 : am_fetch 27 35 = some (.goto (-27), 3, 2, 8, 0) := by decide +kernel
theorem fe_27_38 : am_fetch 27 38 = some (.iload_n 1, 1, 1, 0, 0) := by decide +kernel
theorem fe_27_39 : am_fetch 27 39 = some (.ireturn, 1, 8, 0, 0) := by decide +kernel
theorem fe_28_0 : am_fetch 28 0 = some (.iconst 0, 1, 0, 0, 0) := by decide +kernel
theorem fe_28_1 : am_fetch 28 1 = some (.istore_n 2, 1, 1, 0, 0) := by decide +kernel
theorem fe_28_2 : am_fetch 28 2 = some (.iconst 1, 1, 0, 0, 0) := by decide +kernel
theorem fe_28_3 : am_fetch 28 3 = some (.istore_n 3, 1, 1, 0, 0) := by decide +kernel
theorem fe_28_4 : am_fetch 28 4 = some (.iload_n 3, 1, 1, 0, 0) := by decide +kernel
theorem fe_28_5 : am_fetch 28 5 = some (.aload_n 0, 1, 1, 0, 0) := by decide +kernel
theorem fe_28_6 : am_fetch 28 6 = some (.getfield 23, 3, 3, 3, 0) := by decide +kernel
theorem fe_28_9 : am_fetch 28 9 = some (.getfield 27, 3, 3, 108, 1) := by decide +kernel
theorem fe_28_12 : am_fetch 28 12 = some (.if_icmp .ge 45, 3, 2, 57, 0) := by decide +kernel
theorem fe_28_15 : am_fetch 28 15 = some (.aload_n 0, 1, 1, 0, 0) := by decide +kernel
theorem fe_28_16 : am_fetch 28 16 = some (.getfield 23, 3, 3, 3, 0) := by decide +kernel
theorem fe_28_19 : am_fetch 28 19 = some (.iload_n 3, 1, 1, 0, 0) := by decide +kernel
theorem fe_28_20 : am_fetch 28 20 = some (.invokevirtual 37, 3, 7, 17, 0) := by decide +kernel
theorem fe_28_23 : am_fetch 28 23 = some (.aload_n 0, 1, 1, 0, 0) := by decide +kernel
theorem fe_28_24 : am_fetch 28 24 = some (.getfield 23, 3, 3, 3, 0) := by decide +kernel
theorem fe_28_27 : am_fetch 28 27 = some (.iload_n 3, 1, 1, 0, 0) := by decide +kernel
theorem fe_28_28 : am_fetch 28 28 = some (.iconst 1, 1, 0, 0, 0) := by decide +kernel
theorem fe_28_29 : am_fetch 28 29 = some (.isub, 1, 0, 0, 0) := by decide +kernel
theorem fe_28_30 : am_fetch 28 30 = some (.invokevirtual 37, 3, 7, 17, 0) := by decide +kernel
theorem fe_28_33 : am_fetch 28 33 = some (.isub, 1, 0, 0, 0) := by decide +kernel
theorem fe_28_34 : am_fetch 28 34 = some (.istore 4, 2, 1, 0, 0) := by decide +kernel
theorem fe_28_36 : am_fetch 28 36 = some (.iload_n 2, 1, 1, 0, 0) := by decide +kernel
theorem fe_28_37 : am_fetch 28 37 = some (.iload 4, 2, 1, 0, 0) := by decide +kernel
theorem fe_28_39 : am_fetch 28 39 = some (.iload_n 1, 1, 1, 0, 0) := by decide +kernel
theorem fe_28_40 : am_fetch 28 40 = some (.imul, 1, 0, 0, 0) := by decide +kernel
theorem fe_28_41 : am_fetch 28 41 = some (.ifCond .le 7, 3, 2, 48, 0) := by decide +kernel
theorem fe_28_44 : am_fetch 28 44 = some (.iconst 1, 1, 0, 0, 0) := by decide +kernel
theorem fe_28_45 : am_fetch 28 45 = some (.goto 4, 3, 2, 49, 0) := by decide +kernel
theorem fe_28_48 : am_fetch 28 48 = some (.iconst 0, 1, 0, 0, 0) := by decide +kernel
theorem fe_28_49 : am_fetch 28 49 = some (.iadd, 1, 0, 0, 0) := by decide +kernel
theorem fe_28_50 : am_fetch 28 50 = some (.istore_n 2, 1, 1, 0, 0) := by decide +kernel
theorem fe_28_51 : am_fetch 28 51 = some (.iinc 3 1, 3, 1, 0, 0) := by decide +kernel
theorem fe_28_54 : am_fetch 28 54 = some (.goto (-50), 3, 2, 4, 0) := by decide +kernel
theorem fe_28_57 : am_fetch 28 57 = some (.iload_n 2, 1, 1, 0, 0) := by decide +kernel
theorem fe_28_58 : am_fetch 28 58 = some (.ireturn, 1, 8, 0, 0) := by decide +kernel
theorem fe_29_0 : am_fetch 29 0 = some (.iload_n 1, 1, 1, 0, 0) := by decide +kernel
theorem fe_29_1 : am_fetch 29 1 = some (.tableswitch 104 0 6 #[43, 54, 62, 70, 78, 86, 95], 43, 2, 0, 0) := by decide +kernel
theorem fe_29_44 : am_fetch 29 44 = some (.aload_n 0, 1, 1, 0, 0) := by decide +kernel
theorem fe_29_45 : am_fetch 29 45 = some (.getfield 12, 3, 3, 10, 0) := by decide +kernel
theorem fe_29_48 : am_fetch 29 48 = some (.getfield 31, 3, 3, 107, 10) := by decide +kernel
theorem fe_29_51 : am_fetch 29 51 = some (.getfield 319, 3, 3, 108, 1) := by decide +kernel
theorem fe_29_54 : am_fetch 29 54 = some (.ireturn, 1, 8, 0, 0) := by decide +kernel
theorem fe_29_55 : am_fetch 29 55 = some (.aload_n 0, 1, 1, 0, 0) := by decide +kernel
theorem fe_29_56 : am_fetch 29 56 = some (.getfield 38, 3, 3, 10, 2) := by decide +kernel
theorem fe_29_59 : am_fetch 29 59 = some (.invokevirtual 336, 3, 7, 20, 0) := by decide +kernel
theorem fe_29_62 : am_fetch 29 62 = some (.ireturn, 1, 8, 0, 0) := by decide +kernel
theorem fe_29_63 : am_fetch 29 63 = some (.aload_n 0, 1, 1, 0, 0) := by decide +kernel
theorem fe_29_64 : am_fetch 29 64 = some (.getfield 38, 3, 3, 10, 2) := by decide +kernel
theorem fe_29_67 : am_fetch 29 67 = some (.invokevirtual 339, 3, 7, 21, 0) := by decide +kernel
theorem fe_29_70 : am_fetch 29 70 = some (.ireturn, 1, 8, 0, 0) := by decide +kernel
theorem fe_29_71 : am_fetch 29 71 = some (.aload_n 0, 1, 1, 0, 0) := by decide +kernel
theorem fe_29_72 : am_fetch 29 72 = some (.getfield 38, 3, 3, 10, 2) := by decide +kernel
theorem fe_29_75 : am_fetch 29 75 = some (.invokevirtual 342, 3, 7, 25, 0) := by decide +kernel
theorem fe_29_78 : am_fetch 29 78 = some (.ireturn, 1, 8, 0, 0) := by decide +kernel
theorem fe_29_79 : am_fetch 29 79 = some (.aload_n 0, 1, 1, 0, 0) := by decide +kernel
theorem fe_29_80 : am_fetch 29 80 = some (.getfield 38, 3, 3, 10, 2) := by decide +kernel
theorem fe_29_83 : am_fetch 29 83 = some (.invokevirtual 345, 3, 7, 27, 0) := by decide +kernel
theorem fe_29_86 : am_fetch 29 86 = some (.ireturn, 1, 8, 0, 0) := by decide +kernel
theorem fe_29_87 : am_fetch 29 87 = some (.aload_n 0, 1, 1, 0, 0) := by decide +kernel
theorem fe_29_88 : am_fetch 29 88 = some (.getfield 38, 3, 3, 10, 2) := by decide +kernel
theorem fe_29_91 : am_fetch 29 91 = some (.iconst 1, 1, 0, 0, 0) := by decide +kernel
theorem fe_29_92 : am_fetch 29 92 = some (.invokevirtual 348, 3, 7, 28, 0) := by decide +kernel
theorem fe_29_95 : am_fetch 29 95 = some (.ireturn, 1, 8, 0, 0) := by decide +kernel
theorem fe_29_96 : am_fetch 29 96 = some (.aload_n 0, 1, 1, 0, 0) := by decide +kernel
theorem fe_29_97 : am_fetch 29 97 = some (.getfield 38, 3, 3, 10, 2) := by decide +kernel
theorem fe_29_100 : am_fetch 29 100 = some (.iconst (-1), 1, 0, 0, 0) := by decide +kernel
theorem fe_29_101 : am_fetch 29 101 = some (.invokevirtual 348, 3, 7, 28, 0) := by decide +kernel
theorem fe_29_104 : am_fetch 29 104 = some (.ireturn, 1, 8, 0, 0) := by decide +kernel
theorem fe_29_105 : am_fetch 29 105 = some (.new 69, 3, 9, 0, 0) := by decide +kernel
theorem fe_29_108 : am_fetch 29 108 = some (.dup, 1, 0, 0, 0) := by decide +kernel
theorem fe_30_0 : am_fetch 30 0 = some (.iload_n 0, 1, 1, 0, 0) := by decide +kernel
theorem fe_30_1 : am_fetch 30 1 = some (.ifCond .lt 12, 3, 2, 13, 0) := by decide +kernel
theorem fe_30_4 : am_fetch 30 4 = some (.iload_n 0, 1, 1, 0, 0) := by decide +kernel
theorem fe_30_5 : am_fetch 30 5 = some (.iconst 5, 1, 0, 0, 0) := by decide +kernel
theorem fe_30_6 : am_fetch 30 6 = some (.if_icmp .ge 7, 3, 2, 13, 0) := by decide +kernel
theorem fe_30_9 : am_fetch 30 9 = some (.iconst 1, 1, 0, 0, 0) := by decide +kernel
theorem fe_30_10 : am_fetch 30 10 = some (.goto 4, 3, 2, 14, 0) := by decide +kernel
theorem fe_30_13 : am_fetch 30 13 = some (.iconst 0, 1, 0, 0, 0) := by decide +kernel
theorem fe_30_14 : am_fetch 30 14 = some (.ireturn, 1, 8, 0, 0) := by decide +kernel
theorem fe_31_0 : am_fetch 31 0 = some (.aload_n 0, 1, 1, 0, 0) := by decide +kernel
theorem fe_31_1 : am_fetch 31 1 = some (.getfield 26, 3, 3, 1, 4) := by decide +kernel
theorem fe_31_4 : am_fetch 31 4 = some (.iconst 2, 1, 0, 0, 0) := by decide +kernel
theorem fe_31_5 : am_fetch 31 5 = some (.iload_n 1, 1, 1, 0, 0) := by decide +kernel
theorem fe_31_6 : am_fetch 31 6 = some (.imul, 1, 0, 0, 0) := by decide +kernel
theorem fe_31_7 : am_fetch 31 7 = some (.iload_n 2, 1, 1, 0, 0) := by decide +kernel
theorem fe_31_8 : am_fetch 31 8 = some (.iadd, 1, 0, 0, 0) := by decide +kernel
theorem fe_31_9 : am_fetch 31 9 = some (.invokevirtual 55, 3, 7, 12, 0) := by decide +kernel
theorem fe_31_12 : am_fetch 31 12 = some (.ireturn, 1, 8, 0, 0) := by decide +kernel
theorem fe_32_0 : am_fetch 32 0 = some (.iconst 0, 1, 0, 0, 0) := by decide +kernel
theorem fe_32_1 : am_fetch 32 1 = some (.istore_n 2, 1, 1, 0, 0) := by decide +kernel
theorem fe_32_2 : am_fetch 32 2 = some (.iconst 0, 1, 0, 0, 0) := by decide +kernel
theorem fe_32_3 : am_fetch 32 3 = some (.istore_n 3, 1, 1, 0, 0) := by decide +kernel
theorem fe_32_4 : am_fetch 32 4 = some (.iload_n 3, 1, 1, 0, 0) := by decide +kernel
theorem fe_32_5 : am_fetch 32 5 = some (.aload_n 0, 1, 1, 0, 0) := by decide +kernel
theorem fe_32_6 : am_fetch 32 6 = some (.getfield 32, 3, 3, 1, 0) := by decide +kernel
theorem fe_32_9 : am_fetch 32 9 = some (.if_icmp .ge 51, 3, 2, 60, 0) := by decide +kernel
theorem fe_32_12 : am_fetch 32 12 = some (.iload_n 2, 1, 1, 0, 0) := by decide +kernel
theorem fe_32_13 : am_fetch 32 13 = some (.aload_n 0, 1, 1, 0, 0) := by decide +kernel
theorem fe_32_14 : am_fetch 32 14 = some (.iload_n 3, 1, 1, 0, 0) := by decide +kernel
theorem fe_32_15 : am_fetch 32 15 = some (.iconst 0, 1, 0, 0, 0) := by decide +kernel
theorem fe_32_16 : am_fetch 32 16 = some (.invokevirtual 59, 3, 7, 31, 0) := by decide +kernel
theorem fe_32_19 : am_fetch 32 19 = some (.bipush 20, 2, 0, 0, 0) := by decide +kernel
theorem fe_32_21 : am_fetch 32 21 = some (.iload_n 1, 1, 1, 0, 0) := by decide +kernel
theorem fe_32_22 : am_fetch 32 22 = some (.iadd, 1, 0, 0, 0) := by decide +kernel
theorem fe_32_23 : am_fetch 32 23 = some (.if_icmp .ne 7, 3, 2, 30, 0) := by decide +kernel
theorem fe_32_26 : am_fetch 32 26 = some (.iconst 1, 1, 0, 0, 0) := by decide +kernel
theorem fe_32_27 : am_fetch 32 27 = some (.goto 4, 3, 2, 31, 0) := by decide +kernel
theorem fe_32_30 : am_fetch 32 30 = some (.iconst 0, 1, 0, 0, 0) := by decide +kernel
theorem fe_32_31 : am_fetch 32 31 = some (.iadd, 1, 0, 0, 0) := by decide +kernel
theorem fe_32_32 : am_fetch 32 32 = some (.istore_n 2, 1, 1, 0, 0) := by decide +kernel
theorem fe_32_33 : am_fetch 32 33 = some (.iload_n 2, 1, 1, 0, 0) := by decide +kernel
theorem fe_32_34 : am_fetch 32 34 = some (.aload_n 0, 1, 1, 0, 0) := by decide +kernel
theorem fe_32_35 : am_fetch 32 35 = some (.iload_n 3, 1, 1, 0, 0) := by decide +kernel
theorem fe_32_36 : am_fetch 32 36 = some (.iconst 1, 1, 0, 0, 0) := by decide +kernel
theorem fe_32_37 : am_fetch 32 37 = some (.invokevirtual 59, 3, 7, 31, 0) := by decide +kernel
theorem fe_32_40 : am_fetch 32 40 = some (.bipush 20, 2, 0, 0, 0) := by decide +kernel
theorem fe_32_42 : am_fetch 32 42 = some (.iload_n 1, 1, 1, 0, 0) := by decide +kernel
theorem fe_32_43 : am_fetch 32 43 = some (.iadd, 1, 0, 0, 0) := by decide +kernel
theorem fe_32_44 : am_fetch 32 44 = some (.if_icmp .ne 7, 3, 2, 51, 0) := by decide +kernel
theorem fe_32_47 : am_fetch 32 47 = some (.iconst 1, 1, 0, 0, 0) := by decide +kernel
theorem fe_32_48 : am_fetch 32 48 = some (.goto 4, 3, 2, 52, 0) := by decide +kernel
theorem fe_32_51 : am_fetch 32 51 = some (.iconst 0, 1, 0, 0, 0) := by decide +kernel
theorem fe_32_52 : am_fetch 32 52 = some (.iadd, 1, 0, 0, 0) := by decide +kernel
theorem fe_32_53 : am_fetch 32 53 = some (.istore_n 2, 1, 1, 0, 0) := by decide +kernel
theorem fe_32_54 : am_fetch 32 54 = some (.iinc 3 1, 3, 1, 0, 0) := by decide +kernel
theorem fe_32_57 : am_fetch 32 57 = some (.goto (-53), 3, 2, 4, 0) := by decide +kernel
theorem fe_32_60 : am_fetch 32 60 = some (.iload_n 2, 1, 1, 0, 0) := by decide +kernel
theorem fe_32_61 : am_fetch 32 61 = some (.ireturn, 1, 8, 0, 0) := by decide +kernel
theorem fe_33_0 : am_fetch 33 0 = some (.iload_n 1, 1, 1, 0, 0) := by decide +kernel
theorem fe_33_1 : am_fetch 33 1 = some (.invokestatic 153, 3, 7, 30, 0) := by decide +kernel
theorem fe_33_4 : am_fetch 33 4 = some (.ifCond .ne 13, 3, 2, 17, 0) := by decide +kernel
theorem fe_33_7 : am_fetch 33 7 = some (.new 102, 3, 9, 2, 0) := by decide +kernel
theorem fe_33_10 : am_fetch 33 10 = some (.dup, 1, 0, 0, 0) := by decide +kernel
theorem fe_33_17 : am_fetch 33 17 = some (.iload_n 2, 1, 1, 0, 0) := by decide +kernel
theorem fe_33_18 : am_fetch 33 18 = some (.tableswitch 62 0 2 #[26, 38, 50], 26, 2, 0, 0) := by decide +kernel
theorem fe_33_44 : am_fetch 33 44 = some (.aload_n 0, 1, 1, 0, 0) := by decide +kernel
theorem fe_33_45 : am_fetch 33 45 = some (.getfield 12, 3, 3, 10, 0) := by decide +kernel
theorem fe_33_48 : am_fetch 33 48 = some (.getfield 281, 3, 3, 107, 6) := by decide +kernel
theorem fe_33_51 : am_fetch 33 51 = some (.iload_n 1, 1, 1, 0, 0) := by decide +kernel
theorem fe_33_52 : am_fetch 33 52 = some (.invokevirtual 237, 3, 7, 12, 0) := by decide +kernel
theorem fe_33_55 : am_fetch 33 55 = some (.ireturn, 1, 8, 0, 0) := by decide +kernel
theorem fe_33_56 : am_fetch 33 56 = some (.aload_n 0, 1, 1, 0, 0) := by decide +kernel
theorem fe_33_57 : am_fetch 33 57 = some (.getfield 12, 3, 3, 10, 0) := by decide +kernel
theorem fe_33_60 : am_fetch 33 60 = some (.getfield 284, 3, 3, 107, 7) := by decide +kernel
theorem fe_33_63 : am_fetch 33 63 = some (.iload_n 1, 1, 1, 0, 0) := by decide +kernel
theorem fe_33_64 : am_fetch 33 64 = some (.invokevirtual 237, 3, 7, 12, 0) := by decide +kernel
theorem fe_33_67 : am_fetch 33 67 = some (.ireturn, 1, 8, 0, 0) := by decide +kernel
theorem fe_33_68 : am_fetch 33 68 = some (.aload_n 0, 1, 1, 0, 0) := by decide +kernel
theorem fe_33_69 : am_fetch 33 69 = some (.getfield 12, 3, 3, 10, 0) := by decide +kernel
theorem fe_33_72 : am_fetch 33 72 = some (.getfield 18, 3, 3, 107, 8) := by decide +kernel
theorem fe_33_75 : am_fetch 33 75 = some (.iload_n 1, 1, 1, 0, 0) := by decide +kernel
theorem fe_33_76 : am_fetch 33 76 = some (.invokevirtual 287, 3, 7, 32, 0) := by decide +kernel
theorem fe_33_79 : am_fetch 33 79 = some (.ireturn, 1, 8, 0, 0) := by decide +kernel
theorem fe_33_80 : am_fetch 33 80 = some (.new 69, 3, 9, 0, 0) := by decide +kernel
theorem fe_33_83 : am_fetch 33 83 = some (.dup, 1, 0, 0, 0) := by decide +kernel
theorem fe_34_0 : am_fetch 34 0 = some (.iload_n 1, 1, 1, 0, 0) := by decide +kernel
theorem fe_34_1 : am_fetch 34 1 = some (.ifCond .lt 15, 3, 2, 16, 0) := by decide +kernel
theorem fe_34_4 : am_fetch 34 4 = some (.iload_n 1, 1, 1, 0, 0) := by decide +kernel
theorem fe_34_5 : am_fetch 34 5 = some (.aload_n 0, 1, 1, 0, 0) := by decide +kernel
theorem fe_34_6 : am_fetch 34 6 = some (.getfield 32, 3, 3, 1, 0) := by decide +kernel
theorem fe_34_9 : am_fetch 34 9 = some (.if_icmp .ge 7, 3, 2, 16, 0) := by decide +kernel
theorem fe_34_12 : am_fetch 34 12 = some (.iconst 1, 1, 0, 0, 0) := by decide +kernel
theorem fe_34_13 : am_fetch 34 13 = some (.goto 4, 3, 2, 17, 0) := by decide +kernel
theorem fe_34_16 : am_fetch 34 16 = some (.iconst 0, 1, 0, 0, 0) := by decide +kernel
theorem fe_34_17 : am_fetch 34 17 = some (.ireturn, 1, 8, 0, 0) := by decide +kernel
theorem fe_35_0 : am_fetch 35 0 = some (.iload_n 1, 1, 1, 0, 0) := by decide +kernel
theorem fe_35_1 : am_fetch 35 1 = some (.istore_n 2, 1, 1, 0, 0) := by decide +kernel
theorem fe_35_2 : am_fetch 35 2 = some (.iconst 0, 1, 0, 0, 0) := by decide +kernel
theorem fe_35_3 : am_fetch 35 3 = some (.istore_n 3, 1, 1, 0, 0) := by decide +kernel
theorem fe_35_4 : am_fetch 35 4 = some (.iload_n 3, 1, 1, 0, 0) := by decide +kernel
theorem fe_35_5 : am_fetch 35 5 = some (.bipush 12, 2, 0, 0, 0) := by decide +kernel
theorem fe_35_7 : am_fetch 35 7 = some (.if_icmp .ge 31, 3, 2, 38, 0) := by decide +kernel
theorem fe_35_10 : am_fetch 35 10 = some (.aload_n 0, 1, 1, 0, 0) := by decide +kernel
theorem fe_35_11 : am_fetch 35 11 = some (.iload_n 2, 1, 1, 0, 0) := by decide +kernel
theorem fe_35_12 : am_fetch 35 12 = some (.invokevirtual 40, 3, 7, 34, 0) := by decide +kernel
theorem fe_35_15 : am_fetch 35 15 = some (.ifCond .eq 23, 3, 2, 38, 0) := by decide +kernel
theorem fe_35_18 : am_fetch 35 18 = some (.aload_n 0, 1, 1, 0, 0) := by decide +kernel
theorem fe_35_19 : am_fetch 35 19 = some (.iload_n 2, 1, 1, 0, 0) := by decide +kernel
theorem fe_35_20 : am_fetch 35 20 = some (.aload_n 0, 1, 1, 0, 0) := by decide +kernel
theorem fe_35_21 : am_fetch 35 21 = some (.getfield 14, 3, 3, 1, 1) := by decide +kernel
theorem fe_35_24 : am_fetch 35 24 = some (.iload_n 2, 1, 1, 0, 0) := by decide +kernel
theorem fe_35_25 : am_fetch 35 25 = some (.invokevirtual 55, 3, 7, 12, 0) := by decide +kernel
theorem fe_35_28 : am_fetch 35 28 = some (.invokevirtual 59, 3, 7, 31, 0) := by decide +kernel
theorem fe_35_31 : am_fetch 35 31 = some (.istore_n 2, 1, 1, 0, 0) := by decide +kernel
theorem fe_35_32 : am_fetch 35 32 = some (.iinc 3 1, 3, 1, 0, 0) := by decide +kernel
theorem fe_35_35 : am_fetch 35 35 = some (.goto (-31), 3, 2, 4, 0) := by decide +kernel
theorem fe_35_38 : am_fetch 35 38 = some (.iload_n 3, 1, 1, 0, 0) := by decide +kernel
theorem fe_35_39 : am_fetch 35 39 = some (.ireturn, 1, 8, 0, 0) := by decide +kernel
theorem fe_36_0 : am_fetch 36 0 = some (.iload_n 1, 1, 1, 0, 0) := by decide +kernel
theorem fe_36_1 : am_fetch 36 1 = some (.istore_n 2, 1, 1, 0, 0) := by decide +kernel
theorem fe_36_2 : am_fetch 36 2 = some (.iconst 0, 1, 0, 0, 0) := by decide +kernel
theorem fe_36_3 : am_fetch 36 3 = some (.istore_n 3, 1, 1, 0, 0) := by decide +kernel
theorem fe_36_4 : am_fetch 36 4 = some (.iload_n 3, 1, 1, 0, 0) := by decide +kernel
theorem fe_36_5 : am_fetch 36 5 = some (.bipush 12, 2, 0, 0, 0) := by decide +kernel
theorem fe_36_7 : am_fetch 36 7 = some (.if_icmp .ge 31, 3, 2, 38, 0) := by decide +kernel
theorem fe_36_10 : am_fetch 36 10 = some (.aload_n 0, 1, 1, 0, 0) := by decide +kernel
theorem fe_36_11 : am_fetch 36 11 = some (.iload_n 2, 1, 1, 0, 0) := by decide +kernel
theorem fe_36_12 : am_fetch 36 12 = some (.invokevirtual 40, 3, 7, 34, 0) := by decide +kernel
theorem fe_36_15 : am_fetch 36 15 = some (.ifCond .eq 23, 3, 2, 38, 0) := by decide +kernel
theorem fe_36_18 : am_fetch 36 18 = some (.aload_n 0, 1, 1, 0, 0) := by decide +kernel
theorem fe_36_19 : am_fetch 36 19 = some (.iload_n 2, 1, 1, 0, 0) := by decide +kernel
theorem fe_36_20 : am_fetch 36 20 = some (.aload_n 0, 1, 1, 0, 0) := by decide +kernel
theorem fe_36_21 : am_fetch 36 21 = some (.getfield 14, 3, 3, 1, 1) := by decide +kernel
theorem fe_36_24 : am_fetch 36 24 = some (.iload_n 2, 1, 1, 0, 0) := by decide +kernel
theorem fe_36_25 : am_fetch 36 25 = some (.invokevirtual 55, 3, 7, 12, 0) := by decide +kernel
theorem fe_36_28 : am_fetch 36 28 = some (.invokevirtual 59, 3, 7, 31, 0) := by decide +kernel
theorem fe_36_31 : am_fetch 36 31 = some (.istore_n 2, 1, 1, 0, 0) := by decide +kernel
theorem fe_36_32 : am_fetch 36 32 = some (.iinc 3 1, 3, 1, 0, 0) := by decide +kernel
theorem fe_36_35 : am_fetch 36 35 = some (.goto (-31), 3, 2, 4, 0) := by decide +kernel
theorem fe_36_38 : am_fetch 36 38 = some (.iload_n 2, 1, 1, 0, 0) := by decide +kernel
theorem fe_36_39 : am_fetch 36 39 = some (.bipush 20, 2, 0, 0, 0) := by decide +kernel
theorem fe_36_41 : am_fetch 36 41 = some (.isub, 1, 0, 0, 0) := by decide +kernel
theorem fe_36_42 : am_fetch 36 42 = some (.ireturn, 1, 8, 0, 0) := by decide +kernel
theorem fe_37_0 : am_fetch 37 0 = some (.iload_n 1, 1, 1, 0, 0) := by decide +kernel
theorem fe_37_1 : am_fetch 37 1 = some (.ifCond .lt 12, 3, 2, 13, 0) := by decide +kernel
theorem fe_37_4 : am_fetch 37 4 = some (.iload_n 2, 1, 1, 0, 0) := by decide +kernel
theorem fe_37_5 : am_fetch 37 5 = some (.ifCond .lt 8, 3, 2, 13, 0) := by decide +kernel
theorem fe_37_8 : am_fetch 37 8 = some (.iload_n 2, 1, 1, 0, 0) := by decide +kernel
theorem fe_37_9 : am_fetch 37 9 = some (.iconst 4, 1, 0, 0, 0) := by decide +kernel
theorem fe_37_10 : am_fetch 37 10 = some (.if_icmp .le 14, 3, 2, 24, 0) := by decide +kernel
theorem fe_37_13 : am_fetch 37 13 = some (.new 69, 3, 9, 0, 0) := by decide +kernel
theorem fe_37_16 : am_fetch 37 16 = some (.dup, 1, 0, 0, 0) := by decide +kernel
theorem fe_37_24 : am_fetch 37 24 = some (.iload_n 1, 1, 1, 0, 0) := by decide +kernel
theorem fe_37_25 : am_fetch 37 25 = some (.aload_n 0, 1, 1, 0, 0) := by decide +kernel
theorem fe_37_26 : am_fetch 37 26 = some (.getfield 12, 3, 3, 10, 0) := by decide +kernel
theorem fe_37_29 : am_fetch 37 29 = some (.getfield 248, 3, 3, 107, 9) := by decide +kernel
theorem fe_37_32 : am_fetch 37 32 = some (.getfield 264, 3, 3, 100, 0) := by decide +kernel
theorem fe_37_35 : am_fetch 37 35 = some (.if_icmp .lt 5, 3, 2, 40, 0) := by decide +kernel
theorem fe_37_38 : am_fetch 37 38 = some (.iconst (-1), 1, 0, 0, 0) := by decide +kernel
theorem fe_37_39 : am_fetch 37 39 = some (.ireturn, 1, 8, 0, 0) := by decide +kernel
theorem fe_37_40 : am_fetch 37 40 = some (.iload_n 2, 1, 1, 0, 0) := by decide +kernel
theorem fe_37_41 : am_fetch 37 41 = some (.tableswitch 101 0 3 #[31, 46, 61, 76], 31, 2, 0, 0) := by decide +kernel
theorem fe_37_72 : am_fetch 37 72 = some (.aload_n 0, 1, 1, 0, 0) := by decide +kernel
theorem fe_37_73 : am_fetch 37 73 = some (.getfield 12, 3, 3, 10, 0) := by decide +kernel
theorem fe_37_76 : am_fetch 37 76 = some (.getfield 248, 3, 3, 107, 9) := by decide +kernel
theorem fe_37_79 : am_fetch 37 79 = some (.getfield 266, 3, 3, 100, 1) := by decide +kernel
theorem fe_37_82 : am_fetch 37 82 = some (.iload_n 1, 1, 1, 0, 0) := by decide +kernel
theorem fe_37_83 : am_fetch 37 83 = some (.invokevirtual 237, 3, 7, 12, 0) := by decide +kernel
theorem fe_37_86 : am_fetch 37 86 = some (.ireturn, 1, 8, 0, 0) := by decide +kernel
theorem fe_37_87 : am_fetch 37 87 = some (.aload_n 0, 1, 1, 0, 0) := by decide +kernel
theorem fe_37_88 : am_fetch 37 88 = some (.getfield 12, 3, 3, 10, 0) := by decide +kernel
theorem fe_37_91 : am_fetch 37 91 = some (.getfield 248, 3, 3, 107, 9) := by decide +kernel
theorem fe_37_94 : am_fetch 37 94 = some (.getfield 269, 3, 3, 100, 2) := by decide +kernel
theorem fe_37_97 : am_fetch 37 97 = some (.iload_n 1, 1, 1, 0, 0) := by decide +kernel
theorem fe_37_98 : am_fetch 37 98 = some (.invokevirtual 237, 3, 7, 12, 0) := by decide +kernel
theorem fe_37_101 : am_fetch 37 101 = some (.ireturn, 1, 8, 0, 0) := by decide +kernel
theorem fe_37_102 : am_fetch 37 102 = some (.aload_n 0, 1, 1, 0, 0) := by decide +kernel
theorem fe_37_103 : am_fetch 37 103 = some (.getfield 12, 3, 3, 10, 0) := by decide +kernel
theorem fe_37_106 : am_fetch 37 106 = some (.getfield 248, 3, 3, 107, 9) := by decide +kernel
theorem fe_37_109 : am_fetch 37 109 = some (.getfield 272, 3, 3, 100, 3) := by decide +kernel
theorem fe_37_112 : am_fetch 37 112 = some (.iload_n 1, 1, 1, 0, 0) := by decide +kernel
theorem fe_37_113 : am_fetch 37 113 = some (.invokevirtual 237, 3, 7, 12, 0) := by decide +kernel
theorem fe_37_116 : am_fetch 37 116 = some (.ireturn, 1, 8, 0, 0) := by decide +kernel
theorem fe_37_117 : am_fetch 37 117 = some (.aload_n 0, 1, 1, 0, 0) := by decide +kernel
theorem fe_37_118 : am_fetch 37 118 = some (.getfield 12, 3, 3, 10, 0) := by decide +kernel
theorem fe_37_121 : am_fetch 37 121 = some (.getfield 18, 3, 3, 107, 8) := by decide +kernel
theorem fe_37_124 : am_fetch 37 124 = some (.aload_n 0, 1, 1, 0, 0) := by decide +kernel
theorem fe_37_125 : am_fetch 37 125 = some (.getfield 12, 3, 3, 10, 0) := by decide +kernel
theorem fe_37_128 : am_fetch 37 128 = some (.getfield 248, 3, 3, 107, 9) := by decide +kernel
theorem fe_37_131 : am_fetch 37 131 = some (.getfield 266, 3, 3, 100, 1) := by decide +kernel
theorem fe_37_134 : am_fetch 37 134 = some (.iload_n 1, 1, 1, 0, 0) := by decide +kernel
theorem fe_37_135 : am_fetch 37 135 = some (.invokevirtual 237, 3, 7, 12, 0) := by decide +kernel
theorem fe_37_138 : am_fetch 37 138 = some (.invokevirtual 275, 3, 7, 35, 0) := by decide +kernel
theorem fe_37_141 : am_fetch 37 141 = some (.ireturn, 1, 8, 0, 0) := by decide +kernel
theorem fe_37_142 : am_fetch 37 142 = some (.aload_n 0, 1, 1, 0, 0) := by decide +kernel
theorem fe_37_143 : am_fetch 37 143 = some (.getfield 12, 3, 3, 10, 0) := by decide +kernel
theorem fe_37_146 : am_fetch 37 146 = some (.getfield 18, 3, 3, 107, 8) := by decide +kernel
theorem fe_37_149 : am_fetch 37 149 = some (.aload_n 0, 1, 1, 0, 0) := by decide +kernel
theorem fe_37_150 : am_fetch 37 150 = some (.getfield 12, 3, 3, 10, 0) := by decide +kernel
theorem fe_37_153 : am_fetch 37 153 = some (.getfield 248, 3, 3, 107, 9) := by decide +kernel
theorem fe_37_156 : am_fetch 37 156 = some (.getfield 266, 3, 3, 100, 1) := by decide +kernel
theorem fe_37_159 : am_fetch 37 159 = some (.iload_n 1, 1, 1, 0, 0) := by decide +kernel
theorem fe_37_160 : am_fetch 37 160 = some (.invokevirtual 237, 3, 7, 12, 0) := by decide +kernel
theorem fe_37_163 : am_fetch 37 163 = some (.invokevirtual 278, 3, 7, 36, 0) := by decide +kernel
theorem fe_37_166 : am_fetch 37 166 = some (.ireturn, 1, 8, 0, 0) := by decide +kernel
theorem fe_38_0 : am_fetch 38 0 = some (.aload_n 0, 1, 1, 0, 0) := by decide +kernel
theorem fe_38_1 : am_fetch 38 1 = some (.getfield 20, 3, 3, 8, 4) := by decide +kernel
theorem fe_38_4 : am_fetch 38 4 = some (.aload_n 0, 1, 1, 0, 0) := by decide +kernel
theorem fe_38_5 : am_fetch 38 5 = some (.iload_n 1, 1, 1, 0, 0) := by decide +kernel
theorem fe_38_6 : am_fetch 38 6 = some (.invokevirtual 40, 3, 7, 16, 0) := by decide +kernel
theorem fe_38_9 : am_fetch 38 9 = some (.invokevirtual 48, 3, 7, 12, 0) := by decide +kernel
theorem fe_38_12 : am_fetch 38 12 = some (.ireturn, 1, 8, 0, 0) := by decide +kernel
theorem fe_39_0 : am_fetch 39 0 = some (.iload_n 1, 1, 1, 0, 0) := by decide +kernel
theorem fe_39_1 : am_fetch 39 1 = some (.ifCond .lt 12, 3, 2, 13, 0) := by decide +kernel
theorem fe_39_4 : am_fetch 39 4 = some (.iload_n 2, 1, 1, 0, 0) := by decide +kernel
theorem fe_39_5 : am_fetch 39 5 = some (.ifCond .lt 8, 3, 2, 13, 0) := by decide +kernel
theorem fe_39_8 : am_fetch 39 8 = some (.iload_n 2, 1, 1, 0, 0) := by decide +kernel
theorem fe_39_9 : am_fetch 39 9 = some (.iconst 2, 1, 0, 0, 0) := by decide +kernel
theorem fe_39_10 : am_fetch 39 10 = some (.if_icmp .le 14, 3, 2, 24, 0) := by decide +kernel
theorem fe_39_13 : am_fetch 39 13 = some (.new 69, 3, 9, 0, 0) := by decide +kernel
theorem fe_39_16 : am_fetch 39 16 = some (.dup, 1, 0, 0, 0) := by decide +kernel
theorem fe_39_24 : am_fetch 39 24 = some (.iload_n 1, 1, 1, 0, 0) := by decide +kernel
theorem fe_39_25 : am_fetch 39 25 = some (.aload_n 0, 1, 1, 0, 0) := by decide +kernel
theorem fe_39_26 : am_fetch 39 26 = some (.getfield 12, 3, 3, 10, 0) := by decide +kernel
theorem fe_39_29 : am_fetch 39 29 = some (.getfield 31, 3, 3, 107, 10) := by decide +kernel
theorem fe_39_32 : am_fetch 39 32 = some (.getfield 319, 3, 3, 108, 1) := by decide +kernel
theorem fe_39_35 : am_fetch 39 35 = some (.if_icmp .lt 5, 3, 2, 40, 0) := by decide +kernel
theorem fe_39_38 : am_fetch 39 38 = some (.iconst (-1), 1, 0, 0, 0) := by decide +kernel
theorem fe_39_39 : am_fetch 39 39 = some (.ireturn, 1, 8, 0, 0) := by decide +kernel
theorem fe_39_40 : am_fetch 39 40 = some (.aload_n 0, 1, 1, 0, 0) := by decide +kernel
theorem fe_39_41 : am_fetch 39 41 = some (.getfield 12, 3, 3, 10, 0) := by decide +kernel
theorem fe_39_44 : am_fetch 39 44 = some (.getfield 31, 3, 3, 107, 10) := by decide +kernel
theorem fe_39_47 : am_fetch 39 47 = some (.getfield 319, 3, 3, 108, 1) := by decide +kernel
theorem fe_39_50 : am_fetch 39 50 = some (.iconst 1, 1, 0, 0, 0) := by decide +kernel
theorem fe_39_51 : am_fetch 39 51 = some (.isub, 1, 0, 0, 0) := by decide +kernel
theorem fe_39_52 : am_fetch 39 52 = some (.iload_n 1, 1, 1, 0, 0) := by decide +kernel
theorem fe_39_53 : am_fetch 39 53 = some (.isub, 1, 0, 0, 0) := by decide +kernel
theorem fe_39_54 : am_fetch 39 54 = some (.istore_n 3, 1, 1, 0, 0) := by decide +kernel
theorem fe_39_55 : am_fetch 39 55 = some (.iload_n 2, 1, 1, 0, 0) := by decide +kernel
theorem fe_39_56 : am_fetch 39 56 = some (.lookupswitch 52 #[(0, 28), (1, 40)], 28, 2, 0, 0) := by decide +kernel
theorem fe_39_84 : am_fetch 39 84 = some (.aload_n 0, 1, 1, 0, 0) := by decide +kernel
theorem fe_39_85 : am_fetch 39 85 = some (.getfield 12, 3, 3, 10, 0) := by decide +kernel
theorem fe_39_88 : am_fetch 39 88 = some (.getfield 31, 3, 3, 107, 10) := by decide +kernel
theorem fe_39_91 : am_fetch 39 91 = some (.iload_n 3, 1, 1, 0, 0) := by decide +kernel
theorem fe_39_92 : am_fetch 39 92 = some (.invokevirtual 322, 3, 7, 22, 0) := by decide +kernel
theorem fe_39_95 : am_fetch 39 95 = some (.ireturn, 1, 8, 0, 0) := by decide +kernel
theorem fe_39_96 : am_fetch 39 96 = some (.aload_n 0, 1, 1, 0, 0) := by decide +kernel
theorem fe_39_97 : am_fetch 39 97 = some (.getfield 12, 3, 3, 10, 0) := by decide +kernel
theorem fe_39_100 : am_fetch 39 100 = some (.getfield 31, 3, 3, 107, 10) := by decide +kernel
theorem fe_39_103 : am_fetch 39 103 = some (.iload_n 3, 1, 1, 0, 0) := by decide +kernel
theorem fe_39_104 : am_fetch 39 104 = some (.invokevirtual 325, 3, 7, 38, 0) := by decide +kernel
theorem fe_39_107 : am_fetch 39 107 = some (.ireturn, 1, 8, 0, 0) := by decide +kernel
theorem fe_39_108 : am_fetch 39 108 = some (.aload_n 0, 1, 1, 0, 0) := by decide +kernel
theorem fe_39_109 : am_fetch 39 109 = some (.getfield 12, 3, 3, 10, 0) := by decide +kernel
theorem fe_39_112 : am_fetch 39 112 = some (.getfield 31, 3, 3, 107, 10) := by decide +kernel
theorem fe_39_115 : am_fetch 39 115 = some (.iload_n 3, 1, 1, 0, 0) := by decide +kernel
theorem fe_39_116 : am_fetch 39 116 = some (.invokevirtual 328, 3, 7, 17, 0) := by decide +kernel
theorem fe_39_119 : am_fetch 39 119 = some (.ireturn, 1, 8, 0, 0) := by decide +kernel
theorem fe_40_0 : am_fetch 40 0 = some (.iconst 0, 1, 0, 0, 0) := by decide +kernel
theorem fe_40_1 : am_fetch 40 1 = some (.istore_n 2, 1, 1, 0, 0) := by decide +kernel
theorem fe_40_2 : am_fetch 40 2 = some (.iconst 0, 1, 0, 0, 0) := by decide +kernel
theorem fe_40_3 : am_fetch 40 3 = some (.istore_n 3, 1, 1, 0, 0) := by decide +kernel
theorem fe_40_4 : am_fetch 40 4 = some (.iload_n 3, 1, 1, 0, 0) := by decide +kernel
theorem fe_40_5 : am_fetch 40 5 = some (.aload_n 0, 1, 1, 0, 0) := by decide +kernel
theorem fe_40_6 : am_fetch 40 6 = some (.getfield 23, 3, 3, 3, 0) := by decide +kernel
theorem fe_40_9 : am_fetch 40 9 = some (.getfield 27, 3, 3, 108, 1) := by decide +kernel
theorem fe_40_12 : am_fetch 40 12 = some (.if_icmp .ge 34, 3, 2, 46, 0) := by decide +kernel
theorem fe_40_15 : am_fetch 40 15 = some (.aload_n 0, 1, 1, 0, 0) := by decide +kernel
theorem fe_40_16 : am_fetch 40 16 = some (.getfield 23, 3, 3, 3, 0) := by decide +kernel
theorem fe_40_19 : am_fetch 40 19 = some (.iload_n 3, 1, 1, 0, 0) := by decide +kernel
theorem fe_40_20 : am_fetch 40 20 = some (.invokevirtual 33, 3, 7, 22, 0) := by decide +kernel
theorem fe_40_23 : am_fetch 40 23 = some (.iload_n 1, 1, 1, 0, 0) := by decide +kernel
theorem fe_40_24 : am_fetch 40 24 = some (.if_icmp .ne 16, 3, 2, 40, 0) := by decide +kernel
theorem fe_40_27 : am_fetch 40 27 = some (.iload_n 2, 1, 1, 0, 0) := by decide +kernel
theorem fe_40_28 : am_fetch 40 28 = some (.iconst 1, 1, 0, 0, 0) := by decide +kernel
theorem fe_40_29 : am_fetch 40 29 = some (.aload_n 0, 1, 1, 0, 0) := by decide +kernel
theorem fe_40_30 : am_fetch 40 30 = some (.getfield 23, 3, 3, 3, 0) := by decide +kernel
theorem fe_40_33 : am_fetch 40 33 = some (.iload_n 3, 1, 1, 0, 0) := by decide +kernel
theorem fe_40_34 : am_fetch 40 34 = some (.invokevirtual 37, 3, 7, 17, 0) := by decide +kernel
theorem fe_40_37 : am_fetch 40 37 = some (.ishl, 1, 0, 0, 0) := by decide +kernel
theorem fe_40_38 : am_fetch 40 38 = some (.ior, 1, 0, 0, 0) := by decide +kernel
theorem fe_40_39 : am_fetch 40 39 = some (.istore_n 2, 1, 1, 0, 0) := by decide +kernel
theorem fe_40_40 : am_fetch 40 40 = some (.iinc 3 1, 3, 1, 0, 0) := by decide +kernel
theorem fe_40_43 : am_fetch 40 43 = some (.goto (-39), 3, 2, 4, 0) := by decide +kernel
theorem fe_40_46 : am_fetch 40 46 = some (.iload_n 2, 1, 1, 0, 0) := by decide +kernel
theorem fe_40_47 : am_fetch 40 47 = some (.ireturn, 1, 8, 0, 0) := by decide +kernel
theorem fe_41_0 : am_fetch 41 0 = some (.iload_n 1, 1, 1, 0, 0) := by decide +kernel
theorem fe_41_1 : am_fetch 41 1 = some (.ifCond .ge 14, 3, 2, 15, 0) := by decide +kernel
theorem fe_41_4 : am_fetch 41 4 = some (.new 69, 3, 9, 0, 0) := by decide +kernel
theorem fe_41_7 : am_fetch 41 7 = some (.dup, 1, 0, 0, 0) := by decide +kernel
theorem fe_41_15 : am_fetch 41 15 = some (.aload_n 0, 1, 1, 0, 0) := by decide +kernel
theorem fe_41_16 : am_fetch 41 16 = some (.getfield 38, 3, 3, 10, 2) := by decide +kernel
theorem fe_41_19 : am_fetch 41 19 = some (.iload_n 1, 1, 1, 0, 0) := by decide +kernel
theorem fe_41_20 : am_fetch 41 20 = some (.invokevirtual 333, 3, 7, 40, 0) := by decide +kernel
theorem fe_41_23 : am_fetch 41 23 = some (.ireturn, 1, 8, 0, 0) := by decide +kernel
theorem fe_42_0 : am_fetch 42 0 = some (.aload_n 0, 1, 1, 0, 0) := by decide +kernel
theorem fe_42_1 : am_fetch 42 1 = some (.getfield 29, 3, 3, 1, 5) := by decide +kernel
theorem fe_42_4 : am_fetch 42 4 = some (.iconst 2, 1, 0, 0, 0) := by decide +kernel
theorem fe_42_5 : am_fetch 42 5 = some (.iload_n 1, 1, 1, 0, 0) := by decide +kernel
theorem fe_42_6 : am_fetch 42 6 = some (.imul, 1, 0, 0, 0) := by decide +kernel
theorem fe_42_7 : am_fetch 42 7 = some (.iload_n 2, 1, 1, 0, 0) := by decide +kernel
theorem fe_42_8 : am_fetch 42 8 = some (.iadd, 1, 0, 0, 0) := by decide +kernel
theorem fe_42_9 : am_fetch 42 9 = some (.invokevirtual 55, 3, 7, 12, 0) := by decide +kernel
theorem fe_42_12 : am_fetch 42 12 = some (.ireturn, 1, 8, 0, 0) := by decide +kernel
theorem fe_43_0 : am_fetch 43 0 = some (.iconst 0, 1, 0, 0, 0) := by decide +kernel
theorem fe_43_1 : am_fetch 43 1 = some (.istore_n 2, 1, 1, 0, 0) := by decide +kernel
theorem fe_43_2 : am_fetch 43 2 = some (.iconst 0, 1, 0, 0, 0) := by decide +kernel
theorem fe_43_3 : am_fetch 43 3 = some (.istore_n 3, 1, 1, 0, 0) := by decide +kernel
theorem fe_43_4 : am_fetch 43 4 = some (.iload_n 3, 1, 1, 0, 0) := by decide +kernel
theorem fe_43_5 : am_fetch 43 5 = some (.aload_n 0, 1, 1, 0, 0) := by decide +kernel
theorem fe_43_6 : am_fetch 43 6 = some (.getfield 26, 3, 3, 0, 0) := by decide +kernel
theorem fe_43_9 : am_fetch 43 9 = some (.if_icmp .ge 29, 3, 2, 38, 0) := by decide +kernel
theorem fe_43_12 : am_fetch 43 12 = some (.iload_n 2, 1, 1, 0, 0) := by decide +kernel
theorem fe_43_13 : am_fetch 43 13 = some (.aload_n 0, 1, 1, 0, 0) := by decide +kernel
theorem fe_43_14 : am_fetch 43 14 = some (.getfield 14, 3, 3, 0, 1) := by decide +kernel
theorem fe_43_17 : am_fetch 43 17 = some (.iload_n 3, 1, 1, 0, 0) := by decide +kernel
theorem fe_43_18 : am_fetch 43 18 = some (.invokevirtual 38, 3, 7, 12, 0) := by decide +kernel
theorem fe_43_21 : am_fetch 43 21 = some (.iload_n 1, 1, 1, 0, 0) := by decide +kernel
theorem fe_43_22 : am_fetch 43 22 = some (.if_icmp .ne 7, 3, 2, 29, 0) := by decide +kernel
theorem fe_43_25 : am_fetch 43 25 = some (.iconst 1, 1, 0, 0, 0) := by decide +kernel
theorem fe_43_26 : am_fetch 43 26 = some (.goto 4, 3, 2, 30, 0) := by decide +kernel
theorem fe_43_29 : am_fetch 43 29 = some (.iconst 0, 1, 0, 0, 0) := by decide +kernel
theorem fe_43_30 : am_fetch 43 30 = some (.iadd, 1, 0, 0, 0) := by decide +kernel
theorem fe_43_31 : am_fetch 43 31 = some (.istore_n 2, 1, 1, 0, 0) := by decide +kernel
theorem fe_43_32 : am_fetch 43 32 = some (.iinc 3 1, 3, 1, 0, 0) := by decide +kernel
theorem fe_43_35 : am_fetch 43 35 = some (.goto (-31), 3, 2, 4, 0) := by decide +kernel
theorem fe_43_38 : am_fetch 43 38 = some (.iload_n 2, 1, 1, 0, 0) := by decide +kernel
theorem fe_43_39 : am_fetch 43 39 = some (.ireturn, 1, 8, 0, 0) := by decide +kernel
theorem fe_44_0 : am_fetch 44 0 = some (.aload_n 0, 1, 1, 0, 0) := by decide +kernel
theorem fe_44_1 : am_fetch 44 1 = some (.getfield 12, 3, 3, 10, 0) := by decide +kernel
theorem fe_44_4 : am_fetch 44 4 = some (.getfield 18, 3, 3, 107, 8) := by decide +kernel
theorem fe_44_7 : am_fetch 44 7 = some (.iload_n 1, 1, 1, 0, 0) := by decide +kernel
theorem fe_44_8 : am_fetch 44 8 = some (.invokevirtual 113, 3, 7, 34, 0) := by decide +kernel
theorem fe_44_11 : am_fetch 44 11 = some (.ifCond .ne 13, 3, 2, 24, 0) := by decide +kernel
theorem fe_44_14 : am_fetch 44 14 = some (.new 102, 3, 9, 2, 0) := by decide +kernel
theorem fe_44_17 : am_fetch 44 17 = some (.dup, 1, 0, 0, 0) := by decide +kernel
theorem fe_44_24 : am_fetch 44 24 = some (.iload_n 2, 1, 1, 0, 0) := by decide +kernel
theorem fe_44_25 : am_fetch 44 25 = some (.tableswitch 134 0 7 #[47, 62, 77, 77, 92, 92, 107, 119], 47, 2, 0, 0) := by decide +kernel
theorem fe_44_72 : am_fetch 44 72 = some (.aload_n 0, 1, 1, 0, 0) := by decide +kernel
theorem fe_44_73 : am_fetch 44 73 = some (.getfield 12, 3, 3, 10, 0) := by decide +kernel
theorem fe_44_76 : am_fetch 44 76 = some (.getfield 18, 3, 3, 107, 8) := by decide +kernel
theorem fe_44_79 : am_fetch 44 79 = some (.getfield 234, 3, 3, 101, 1) := by decide +kernel
theorem fe_44_82 : am_fetch 44 82 = some (.iload_n 1, 1, 1, 0, 0) := by decide +kernel
theorem fe_44_83 : am_fetch 44 83 = some (.invokevirtual 237, 3, 7, 12, 0) := by decide +kernel
theorem fe_44_86 : am_fetch 44 86 = some (.ireturn, 1, 8, 0, 0) := by decide +kernel
theorem fe_44_87 : am_fetch 44 87 = some (.aload_n 0, 1, 1, 0, 0) := by decide +kernel
theorem fe_44_88 : am_fetch 44 88 = some (.getfield 12, 3, 3, 10, 0) := by decide +kernel
theorem fe_44_91 : am_fetch 44 91 = some (.getfield 18, 3, 3, 107, 8) := by decide +kernel
theorem fe_44_94 : am_fetch 44 94 = some (.getfield 240, 3, 3, 101, 2) := by decide +kernel
theorem fe_44_97 : am_fetch 44 97 = some (.iload_n 1, 1, 1, 0, 0) := by decide +kernel
theorem fe_44_98 : am_fetch 44 98 = some (.invokevirtual 237, 3, 7, 12, 0) := by decide +kernel
theorem fe_44_101 : am_fetch 44 101 = some (.ireturn, 1, 8, 0, 0) := by decide +kernel
theorem fe_44_102 : am_fetch 44 102 = some (.aload_n 0, 1, 1, 0, 0) := by decide +kernel
theorem fe_44_103 : am_fetch 44 103 = some (.getfield 12, 3, 3, 10, 0) := by decide +kernel
theorem fe_44_106 : am_fetch 44 106 = some (.getfield 18, 3, 3, 107, 8) := by decide +kernel
theorem fe_44_109 : am_fetch 44 109 = some (.iload_n 1, 1, 1, 0, 0) := by decide +kernel
theorem fe_44_110 : am_fetch 44 110 = some (.iload_n 2, 1, 1, 0, 0) := by decide +kernel
theorem fe_44_111 : am_fetch 44 111 = some (.iconst 2, 1, 0, 0, 0) := by decide +kernel
theorem fe_44_112 : am_fetch 44 112 = some (.isub, 1, 0, 0, 0) := by decide +kernel
theorem fe_44_113 : am_fetch 44 113 = some (.invokevirtual 243, 3, 7, 31, 0) := by decide +kernel
theorem fe_44_116 : am_fetch 44 116 = some (.ireturn, 1, 8, 0, 0) := by decide +kernel
theorem fe_44_117 : am_fetch 44 117 = some (.aload_n 0, 1, 1, 0, 0) := by decide +kernel
theorem fe_44_118 : am_fetch 44 118 = some (.getfield 12, 3, 3, 10, 0) := by decide +kernel
theorem fe_44_121 : am_fetch 44 121 = some (.getfield 18, 3, 3, 107, 8) := by decide +kernel
theorem fe_44_124 : am_fetch 44 124 = some (.iload_n 1, 1, 1, 0, 0) := by decide +kernel
theorem fe_44_125 : am_fetch 44 125 = some (.iload_n 2, 1, 1, 0, 0) := by decide +kernel
theorem fe_44_126 : am_fetch 44 126 = some (.iconst 4, 1, 0, 0, 0) := by decide +kernel
theorem fe_44_127 : am_fetch 44 127 = some (.isub, 1, 0, 0, 0) := by decide +kernel
theorem fe_44_128 : am_fetch 44 128 = some (.invokevirtual 245, 3, 7, 42, 0) := by decide +kernel
theorem fe_44_131 : am_fetch 44 131 = some (.ireturn, 1, 8, 0, 0) := by decide +kernel
theorem fe_44_132 : am_fetch 44 132 = some (.aload_n 0, 1, 1, 0, 0) := by decide +kernel
theorem fe_44_133 : am_fetch 44 133 = some (.getfield 12, 3, 3, 10, 0) := by decide +kernel
theorem fe_44_136 : am_fetch 44 136 = some (.getfield 248, 3, 3, 107, 9) := by decide +kernel
theorem fe_44_139 : am_fetch 44 139 = some (.iload_n 1, 1, 1, 0, 0) := by decide +kernel
theorem fe_44_140 : am_fetch 44 140 = some (.invokevirtual 252, 3, 7, 43, 0) := by decide +kernel
theorem fe_44_143 : am_fetch 44 143 = some (.ireturn, 1, 8, 0, 0) := by decide +kernel
theorem fe_44_144 : am_fetch 44 144 = some (.aload_n 0, 1, 1, 0, 0) := by decide +kernel
theorem fe_44_145 : am_fetch 44 145 = some (.getfield 12, 3, 3, 10, 0) := by decide +kernel
theorem fe_44_148 : am_fetch 44 148 = some (.getfield 18, 3, 3, 107, 8) := by decide +kernel
theorem fe_44_151 : am_fetch 44 151 = some (.getfield 257, 3, 3, 101, 3) := by decide +kernel
theorem fe_44_154 : am_fetch 44 154 = some (.iload_n 1, 1, 1, 0, 0) := by decide +kernel
theorem fe_44_155 : am_fetch 44 155 = some (.invokevirtual 237, 3, 7, 12, 0) := by decide +kernel
theorem fe_44_158 : am_fetch 44 158 = some (.ireturn, 1, 8, 0, 0) := by decide +kernel
theorem fe_44_159 : am_fetch 44 159 = some (.new 69, 3, 9, 0, 0) := by decide +kernel
theorem fe_44_162 : am_fetch 44 162 = some (.dup, 1, 0, 0, 0) := by decide +kernel
theorem fe_45_0 : am_fetch 45 0 = some (.iconst 0, 1, 0, 0, 0) := by decide +kernel
theorem fe_45_1 : am_fetch 45 1 = some (.istore_n 1, 1, 1, 0, 0) := by decide +kernel
theorem fe_45_2 : am_fetch 45 2 = some (.iconst 0, 1, 0, 0, 0) := by decide +kernel
theorem fe_45_3 : am_fetch 45 3 = some (.istore_n 2, 1, 1, 0, 0) := by decide +kernel
theorem fe_45_4 : am_fetch 45 4 = some (.iconst 0, 1, 0, 0, 0) := by decide +kernel
theorem fe_45_5 : am_fetch 45 5 = some (.istore_n 3, 1, 1, 0, 0) := by decide +kernel
theorem fe_45_6 : am_fetch 45 6 = some (.iload_n 3, 1, 1, 0, 0) := by decide +kernel
theorem fe_45_7 : am_fetch 45 7 = some (.aload_n 0, 1, 1, 0, 0) := by decide +kernel
theorem fe_45_8 : am_fetch 45 8 = some (.iconst 1, 1, 0, 0, 0) := by decide +kernel
theorem fe_45_9 : am_fetch 45 9 = some (.invokevirtual 20, 3, 7, 14, 0) := by decide +kernel
theorem fe_45_12 : am_fetch 45 12 = some (.if_icmp .ge 196, 3, 2, 208, 0) := by decide +kernel
theorem fe_45_15 : am_fetch 45 15 = some (.aload_n 0, 1, 1, 0, 0) := by decide +kernel
theorem fe_45_16 : am_fetch 45 16 = some (.iload_n 3, 1, 1, 0, 0) := by decide +kernel
theorem fe_45_17 : am_fetch 45 17 = some (.iconst 4, 1, 0, 0, 0) := by decide +kernel
theorem fe_45_18 : am_fetch 45 18 = some (.invokevirtual 23, 3, 7, 44, 0) := by decide +kernel
theorem fe_45_21 : am_fetch 45 21 = some (.istore 4, 2, 1, 0, 0) := by decide +kernel
theorem fe_45_23 : am_fetch 45 23 = some (.aload_n 0, 1, 1, 0, 0) := by decide +kernel
theorem fe_45_24 : am_fetch 45 24 = some (.iload_n 3, 1, 1, 0, 0) := by decide +kernel
theorem fe_45_25 : am_fetch 45 25 = some (.iconst 5, 1, 0, 0, 0) := by decide +kernel
theorem fe_45_26 : am_fetch 45 26 = some (.invokevirtual 23, 3, 7, 44, 0) := by decide +kernel
theorem fe_45_29 : am_fetch 45 29 = some (.istore 5, 2, 1, 0, 0) := by decide +kernel
theorem fe_45_31 : am_fetch 45 31 = some (.aload_n 0, 1, 1, 0, 0) := by decide +kernel
theorem fe_45_32 : am_fetch 45 32 = some (.iload_n 3, 1, 1, 0, 0) := by decide +kernel
theorem fe_45_33 : am_fetch 45 33 = some (.bipush 7, 2, 0, 0, 0) := by decide +kernel
theorem fe_45_35 : am_fetch 45 35 = some (.invokevirtual 23, 3, 7, 44, 0) := by decide +kernel
theorem fe_45_38 : am_fetch 45 38 = some (.istore 6, 2, 1, 0, 0) := by decide +kernel
theorem fe_45_40 : am_fetch 45 40 = some (.iload_n 1, 1, 1, 0, 0) := by decide +kernel
theorem fe_45_41 : am_fetch 45 41 = some (.iload 4, 2, 1, 0, 0) := by decide +kernel
theorem fe_45_43 : am_fetch 45 43 = some (.iload 5, 2, 1, 0, 0) := by decide +kernel
theorem fe_45_45 : am_fetch 45 45 = some (.iadd, 1, 0, 0, 0) := by decide +kernel
theorem fe_45_46 : am_fetch 45 46 = some (.iadd, 1, 0, 0, 0) := by decide +kernel
theorem fe_45_47 : am_fetch 45 47 = some (.istore_n 1, 1, 1, 0, 0) := by decide +kernel
theorem fe_45_48 : am_fetch 45 48 = some (.iload_n 2, 1, 1, 0, 0) := by decide +kernel
theorem fe_45_49 : am_fetch 45 49 = some (.aload_n 0, 1, 1, 0, 0) := by decide +kernel
theorem fe_45_50 : am_fetch 45 50 = some (.iload_n 3, 1, 1, 0, 0) := by decide +kernel
theorem fe_45_51 : am_fetch 45 51 = some (.bipush 6, 2, 0, 0, 0) := by decide +kernel
theorem fe_45_53 : am_fetch 45 53 = some (.invokevirtual 23, 3, 7, 44, 0) := by decide +kernel
theorem fe_45_56 : am_fetch 45 56 = some (.iadd, 1, 0, 0, 0) := by decide +kernel
theorem fe_45_57 : am_fetch 45 57 = some (.istore_n 2, 1, 1, 0, 0) := by decide +kernel
theorem fe_45_58 : am_fetch 45 58 = some (.aload_n 0, 1, 1, 0, 0) := by decide +kernel
theorem fe_45_59 : am_fetch 45 59 = some (.iload_n 3, 1, 1, 0, 0) := by decide +kernel
theorem fe_45_60 : am_fetch 45 60 = some (.iconst 0, 1, 0, 0, 0) := by decide +kernel
theorem fe_45_61 : am_fetch 45 61 = some (.invokevirtual 23, 3, 7, 44, 0) := by decide +kernel
theorem fe_45_64 : am_fetch 45 64 = some (.iload 4, 2, 1, 0, 0) := by decide +kernel
theorem fe_45_66 : am_fetch 45 66 = some (.iload 5, 2, 1, 0, 0) := by decide +kernel
theorem fe_45_68 : am_fetch 45 68 = some (.iadd, 1, 0, 0, 0) := by decide +kernel
theorem fe_45_69 : am_fetch 45 69 = some (.iload 6, 2, 1, 0, 0) := by decide +kernel
theorem fe_45_71 : am_fetch 45 71 = some (.iadd, 1, 0, 0, 0) := by decide +kernel
theorem fe_45_72 : am_fetch 45 72 = some (.iconst 2, 1, 0, 0, 0) := by decide +kernel
theorem fe_45_73 : am_fetch 45 73 = some (.irem, 1, 0, 0, 0) := by decide +kernel
theorem fe_45_74 : am_fetch 45 74 = some (.if_icmp .ne 118, 3, 2, 192, 0) := by decide +kernel
theorem fe_45_77 : am_fetch 45 77 = some (.iload 6, 2, 1, 0, 0) := by decide +kernel
theorem fe_45_79 : am_fetch 45 79 = some (.ifCond .gt 17, 3, 2, 96, 0) := by decide +kernel
theorem fe_45_82 : am_fetch 45 82 = some (.iload 4, 2, 1, 0, 0) := by decide +kernel
theorem fe_45_84 : am_fetch 45 84 = some (.iload 5, 2, 1, 0, 0) := by decide +kernel
theorem fe_45_86 : am_fetch 45 86 = some (.isub, 1, 0, 0, 0) := by decide +kernel
theorem fe_45_87 : am_fetch 45 87 = some (.aload_n 0, 1, 1, 0, 0) := by decide +kernel
theorem fe_45_88 : am_fetch 45 88 = some (.iload_n 3, 1, 1, 0, 0) := by decide +kernel
theorem fe_45_89 : am_fetch 45 89 = some (.iconst 0, 1, 0, 0, 0) := by decide +kernel
theorem fe_45_90 : am_fetch 45 90 = some (.invokevirtual 23, 3, 7, 44, 0) := by decide +kernel
theorem fe_45_93 : am_fetch 45 93 = some (.if_icmp .ne 99, 3, 2, 192, 0) := by decide +kernel
theorem fe_45_96 : am_fetch 45 96 = some (.aload_n 0, 1, 1, 0, 0) := by decide +kernel
theorem fe_45_97 : am_fetch 45 97 = some (.iload_n 3, 1, 1, 0, 0) := by decide +kernel
theorem fe_45_98 : am_fetch 45 98 = some (.iconst 2, 1, 0, 0, 0) := by decide +kernel
theorem fe_45_99 : am_fetch 45 99 = some (.invokevirtual 23, 3, 7, 44, 0) := by decide +kernel
theorem fe_45_102 : am_fetch 45 102 = some (.iload_n 3, 1, 1, 0, 0) := by decide +kernel
theorem fe_45_103 : am_fetch 45 103 = some (.if_icmp .le 89, 3, 2, 192, 0) := by decide +kernel
theorem fe_45_106 : am_fetch 45 106 = some (.aload_n 0, 1, 1, 0, 0) := by decide +kernel
theorem fe_45_107 : am_fetch 45 107 = some (.iload_n 3, 1, 1, 0, 0) := by decide +kernel
theorem fe_45_108 : am_fetch 45 108 = some (.iconst 3, 1, 0, 0, 0) := by decide +kernel
theorem fe_45_109 : am_fetch 45 109 = some (.invokevirtual 23, 3, 7, 44, 0) := by decide +kernel
theorem fe_45_112 : am_fetch 45 112 = some (.iload_n 3, 1, 1, 0, 0) := by decide +kernel
theorem fe_45_113 : am_fetch 45 113 = some (.if_icmp .le 79, 3, 2, 192, 0) := by decide +kernel
theorem fe_45_116 : am_fetch 45 116 = some (.aload_n 0, 1, 1, 0, 0) := by decide +kernel
theorem fe_45_117 : am_fetch 45 117 = some (.iload_n 3, 1, 1, 0, 0) := by decide +kernel
theorem fe_45_118 : am_fetch 45 118 = some (.iconst 2, 1, 0, 0, 0) := by decide +kernel
theorem fe_45_119 : am_fetch 45 119 = some (.invokevirtual 23, 3, 7, 44, 0) := by decide +kernel
theorem fe_45_122 : am_fetch 45 122 = some (.aload_n 0, 1, 1, 0, 0) := by decide +kernel
theorem fe_45_123 : am_fetch 45 123 = some (.iconst 1, 1, 0, 0, 0) := by decide +kernel
theorem fe_45_124 : am_fetch 45 124 = some (.invokevirtual 20, 3, 7, 14, 0) := by decide +kernel
theorem fe_45_127 : am_fetch 45 127 = some (.if_icmp .lt 25, 3, 2, 152, 0) := by decide +kernel
theorem fe_45_130 : am_fetch 45 130 = some (.aload_n 0, 1, 1, 0, 0) := by decide +kernel
theorem fe_45_131 : am_fetch 45 131 = some (.iload_n 3, 1, 1, 0, 0) := by decide +kernel
theorem fe_45_132 : am_fetch 45 132 = some (.iconst 2, 1, 0, 0, 0) := by decide +kernel
theorem fe_45_133 : am_fetch 45 133 = some (.invokevirtual 23, 3, 7, 44, 0) := by decide +kernel
theorem fe_45_136 : am_fetch 45 136 = some (.bipush 19, 2, 0, 0, 0) := by decide +kernel
theorem fe_45_138 : am_fetch 45 138 = some (.if_icmp .le 54, 3, 2, 192, 0) := by decide +kernel
theorem fe_45_141 : am_fetch 45 141 = some (.aload_n 0, 1, 1, 0, 0) := by decide +kernel
theorem fe_45_142 : am_fetch 45 142 = some (.iload_n 3, 1, 1, 0, 0) := by decide +kernel
theorem fe_45_143 : am_fetch 45 143 = some (.iconst 2, 1, 0, 0, 0) := by decide +kernel
theorem fe_45_144 : am_fetch 45 144 = some (.invokevirtual 23, 3, 7, 44, 0) := by decide +kernel
theorem fe_45_147 : am_fetch 45 147 = some (.bipush 25, 2, 0, 0, 0) := by decide +kernel
theorem fe_45_149 : am_fetch 45 149 = some (.if_icmp .ge 43, 3, 2, 192, 0) := by decide +kernel
theorem fe_45_152 : am_fetch 45 152 = some (.aload_n 0, 1, 1, 0, 0) := by decide +kernel
theorem fe_45_153 : am_fetch 45 153 = some (.iload_n 3, 1, 1, 0, 0) := by decide +kernel
theorem fe_45_154 : am_fetch 45 154 = some (.iconst 3, 1, 0, 0, 0) := by decide +kernel
theorem fe_45_155 : am_fetch 45 155 = some (.invokevirtual 23, 3, 7, 44, 0) := by decide +kernel
theorem fe_45_158 : am_fetch 45 158 = some (.aload_n 0, 1, 1, 0, 0) := by decide +kernel
theorem fe_45_159 : am_fetch 45 159 = some (.iconst 1, 1, 0, 0, 0) := by decide +kernel
theorem fe_45_160 : am_fetch 45 160 = some (.invokevirtual 20, 3, 7, 14, 0) := by decide +kernel
theorem fe_45_163 : am_fetch 45 163 = some (.if_icmp .lt 25, 3, 2, 188, 0) := by decide +kernel
theorem fe_45_166 : am_fetch 45 166 = some (.aload_n 0, 1, 1, 0, 0) := by decide +kernel
theorem fe_45_167 : am_fetch 45 167 = some (.iload_n 3, 1, 1, 0, 0) := by decide +kernel
theorem fe_45_168 : am_fetch 45 168 = some (.iconst 3, 1, 0, 0, 0) := by decide +kernel
theorem fe_45_169 : am_fetch 45 169 = some (.invokevirtual 23, 3, 7, 44, 0) := by decide +kernel
theorem fe_45_172 : am_fetch 45 172 = some (.bipush 19, 2, 0, 0, 0) := by decide +kernel
theorem fe_45_174 : am_fetch 45 174 = some (.if_icmp .le 18, 3, 2, 192, 0) := by decide +kernel
theorem fe_45_177 : am_fetch 45 177 = some (.aload_n 0, 1, 1, 0, 0) := by decide +kernel
theorem fe_45_178 : am_fetch 45 178 = some (.iload_n 3, 1, 1, 0, 0) := by decide +kernel
theorem fe_45_179 : am_fetch 45 179 = some (.iconst 3, 1, 0, 0, 0) := by decide +kernel
theorem fe_45_180 : am_fetch 45 180 = some (.invokevirtual 23, 3, 7, 44, 0) := by decide +kernel
theorem fe_45_183 : am_fetch 45 183 = some (.bipush 25, 2, 0, 0, 0) := by decide +kernel
theorem fe_45_185 : am_fetch 45 185 = some (.if_icmp .ge 7, 3, 2, 192, 0) := by decide +kernel
theorem fe_45_188 : am_fetch 45 188 = some (.iconst 1, 1, 0, 0, 0) := by decide +kernel
theorem fe_45_189 : am_fetch 45 189 = some (.goto 4, 3, 2, 193, 0) := by decide +kernel
theorem fe_45_192 : am_fetch 45 192 = some (.iconst 0, 1, 0, 0, 0) := by decide +kernel
theorem fe_45_193 : am_fetch 45 193 = some (.istore 7, 2, 1, 0, 0) := by decide +kernel
theorem fe_45_195 : am_fetch 45 195 = some (.iload 7, 2, 1, 0, 0) := by decide +kernel
theorem fe_45_197 : am_fetch 45 197 = some (.ifCond .ne 5, 3, 2, 202, 0) := by decide +kernel
theorem fe_45_200 : am_fetch 45 200 = some (.iconst 0, 1, 0, 0, 0) := by decide +kernel
theorem fe_45_201 : am_fetch 45 201 = some (.ireturn, 1, 8, 0, 0) := by decide +kernel
theorem fe_45_202 : am_fetch 45 202 = some (.iinc 3 1, 3, 1, 0, 0) := by decide +kernel
theorem fe_45_205 : am_fetch 45 205 = some (.goto (-199), 3, 2, 6, 0) := by decide +kernel
theorem fe_45_208 : am_fetch 45 208 = some (.iload_n 1, 1, 1, 0, 0) := by decide +kernel
theorem fe_45_209 : am_fetch 45 209 = some (.aload_n 0, 1, 1, 0, 0) := by decide +kernel
theorem fe_45_210 : am_fetch 45 210 = some (.bipush 9, 2, 0, 0, 0) := by decide +kernel
theorem fe_45_212 : am_fetch 45 212 = some (.invokevirtual 20, 3, 7, 14, 0) := by decide +kernel
theorem fe_45_215 : am_fetch 45 215 = some (.if_icmp .ne 16, 3, 2, 231, 0) := by decide +kernel
theorem fe_45_218 : am_fetch 45 218 = some (.iload_n 2, 1, 1, 0, 0) := by decide +kernel
theorem fe_45_219 : am_fetch 45 219 = some (.aload_n 0, 1, 1, 0, 0) := by decide +kernel
theorem fe_45_220 : am_fetch 45 220 = some (.iconst 3, 1, 0, 0, 0) := by decide +kernel
theorem fe_45_221 : am_fetch 45 221 = some (.invokevirtual 20, 3, 7, 14, 0) := by decide +kernel
theorem fe_45_224 : am_fetch 45 224 = some (.if_icmp .ne 7, 3, 2, 231, 0) := by decide +kernel
theorem fe_45_227 : am_fetch 45 227 = some (.iconst 1, 1, 0, 0, 0) := by decide +kernel
theorem fe_45_228 : am_fetch 45 228 = some (.goto 4, 3, 2, 232, 0) := by decide +kernel
theorem fe_45_231 : am_fetch 45 231 = some (.iconst 0, 1, 0, 0, 0) := by decide +kernel
theorem fe_45_232 : am_fetch 45 232 = some (.ireturn, 1, 8, 0, 0) := by decide +kernel
theorem fe_46_0 : am_fetch 46 0 = some (.aload_n 0, 1, 1, 0, 0) := by decide +kernel
theorem fe_46_1 : am_fetch 46 1 = some (.getfield 23, 3, 3, 5, 3) := by decide +kernel
theorem fe_46_4 : am_fetch 46 4 = some (.invokevirtual 37, 3, 7, 15, 0) := by decide +kernel
theorem fe_46_7 : am_fetch 46 7 = some (.aload_n 0, 1, 1, 0, 0) := by decide +kernel
theorem fe_46_8 : am_fetch 46 8 = some (.getfield 26, 3, 3, 5, 0) := by decide +kernel
theorem fe_46_11 : am_fetch 46 11 = some (.getfield 66, 3, 3, 101, 0) := by decide +kernel
theorem fe_46_14 : am_fetch 46 14 = some (.iconst 1, 1, 0, 0, 0) := by decide +kernel
theorem fe_46_15 : am_fetch 46 15 = some (.isub, 1, 0, 0, 0) := by decide +kernel
theorem fe_46_16 : am_fetch 46 16 = some (.istore_n 2, 1, 1, 0, 0) := by decide +kernel
theorem fe_46_17 : am_fetch 46 17 = some (.iload_n 2, 1, 1, 0, 0) := by decide +kernel
theorem fe_46_18 : am_fetch 46 18 = some (.ifCond .lt 73, 3, 2, 91, 0) := by decide +kernel
theorem fe_46_21 : am_fetch 46 21 = some (.aload_n 0, 1, 1, 0, 0) := by decide +kernel
theorem fe_46_22 : am_fetch 46 22 = some (.getfield 23, 3, 3, 5, 3) := by decide +kernel
theorem fe_46_25 : am_fetch 46 25 = some (.aload_n 0, 1, 1, 0, 0) := by decide +kernel
theorem fe_46_26 : am_fetch 46 26 = some (.getfield 26, 3, 3, 5, 0) := by decide +kernel
theorem fe_46_29 : am_fetch 46 29 = some (.iload_n 2, 1, 1, 0, 0) := by decide +kernel
theorem fe_46_30 : am_fetch 46 30 = some (.iconst 0, 1, 0, 0, 0) := by decide +kernel
theorem fe_46_31 : am_fetch 46 31 = some (.invokevirtual 55, 3, 7, 31, 0) := by decide +kernel
theorem fe_46_34 : am_fetch 46 34 = some (.invokevirtual 48, 3, 7, 12, 0) := by decide +kernel
theorem fe_46_37 : am_fetch 46 37 = some (.istore_n 3, 1, 1, 0, 0) := by decide +kernel
theorem fe_46_38 : am_fetch 46 38 = some (.aload_n 0, 1, 1, 0, 0) := by decide +kernel
theorem fe_46_39 : am_fetch 46 39 = some (.getfield 23, 3, 3, 5, 3) := by decide +kernel
theorem fe_46_42 : am_fetch 46 42 = some (.aload_n 0, 1, 1, 0, 0) := by decide +kernel
theorem fe_46_43 : am_fetch 46 43 = some (.getfield 26, 3, 3, 5, 0) := by decide +kernel
theorem fe_46_46 : am_fetch 46 46 = some (.iload_n 2, 1, 1, 0, 0) := by decide +kernel
theorem fe_46_47 : am_fetch 46 47 = some (.iconst 1, 1, 0, 0, 0) := by decide +kernel
theorem fe_46_48 : am_fetch 46 48 = some (.invokevirtual 55, 3, 7, 31, 0) := by decide +kernel
theorem fe_46_51 : am_fetch 46 51 = some (.invokevirtual 48, 3, 7, 12, 0) := by decide +kernel
theorem fe_46_54 : am_fetch 46 54 = some (.istore 4, 2, 1, 0, 0) := by decide +kernel
theorem fe_46_56 : am_fetch 46 56 = some (.aload_n 0, 1, 1, 0, 0) := by decide +kernel
theorem fe_46_57 : am_fetch 46 57 = some (.getfield 23, 3, 3, 5, 3) := by decide +kernel
theorem fe_46_60 : am_fetch 46 60 = some (.iload_n 2, 1, 1, 0, 0) := by decide +kernel
theorem fe_46_61 : am_fetch 46 61 = some (.iconst 1, 1, 0, 0, 0) := by decide +kernel
theorem fe_46_62 : am_fetch 46 62 = some (.iload_n 1, 1, 1, 0, 0) := by decide +kernel
theorem fe_46_63 : am_fetch 46 63 = some (.ifCond .eq 12, 3, 2, 75, 0) := by decide +kernel
theorem fe_46_66 : am_fetch 46 66 = some (.iload_n 3, 1, 1, 0, 0) := by decide +kernel
theorem fe_46_67 : am_fetch 46 67 = some (.iload 4, 2, 1, 0, 0) := by decide +kernel
theorem fe_46_69 : am_fetch 46 69 = some (.invokestatic 77, 3, 6, 2, 0) := by decide +kernel
theorem fe_46_72 : am_fetch 46 72 = some (.goto 9, 3, 2, 81, 0) := by decide +kernel
theorem fe_46_75 : am_fetch 46 75 = some (.iload_n 3, 1, 1, 0, 0) := by decide +kernel
theorem fe_46_76 : am_fetch 46 76 = some (.iload 4, 2, 1, 0, 0) := by decide +kernel
theorem fe_46_78 : am_fetch 46 78 = some (.invokestatic 82, 3, 6, 3, 0) := by decide +kernel
theorem fe_46_81 : am_fetch 46 81 = some (.iadd, 1, 0, 0, 0) := by decide +kernel
theorem fe_46_82 : am_fetch 46 82 = some (.invokevirtual 52, 3, 7, 4, 0) := by decide +kernel
theorem fe_46_85 : am_fetch 46 85 = some (.iinc 2 (-1), 3, 1, 0, 0) := by decide +kernel
theorem fe_46_88 : am_fetch 46 88 = some (.goto (-71), 3, 2, 17, 0) := by decide +kernel
theorem fe_46_91 : am_fetch 46 91 = some (.aload_n 0, 1, 1, 0, 0) := by decide +kernel
theorem fe_46_92 : am_fetch 46 92 = some (.getfield 23, 3, 3, 5, 3) := by decide +kernel
theorem fe_46_95 : am_fetch 46 95 = some (.iconst 0, 1, 0, 0, 0) := by decide +kernel
theorem fe_46_96 : am_fetch 46 96 = some (.invokevirtual 48, 3, 7, 12, 0) := by decide +kernel
theorem fe_46_99 : am_fetch 46 99 = some (.ireturn, 1, 8, 0, 0) := by decide +kernel
theorem fe_47_0 : am_fetch 47 0 = some (.aload_n 0, 1, 1, 0, 0) := by decide +kernel
theorem fe_47_1 : am_fetch 47 1 = some (.getfield 25, 3, 3, 10, 1) := by decide +kernel
theorem fe_47_4 : am_fetch 47 4 = some (.iload_n 1, 1, 1, 0, 0) := by decide +kernel
theorem fe_47_5 : am_fetch 47 5 = some (.invokevirtual 385, 3, 7, 46, 0) := by decide +kernel
theorem fe_47_8 : am_fetch 47 8 = some (.ireturn, 1, 8, 0, 0) := by decide +kernel
theorem fe_48_0 : am_fetch 48 0 = some (.aload_n 0, 1, 1, 0, 0) := by decide +kernel
theorem fe_48_1 : am_fetch 48 1 = some (.iconst 2, 1, 0, 0, 0) := by decide +kernel
theorem fe_48_2 : am_fetch 48 2 = some (.invokevirtual 20, 3, 7, 14, 0) := by decide +kernel
theorem fe_48_5 : am_fetch 48 5 = some (.aload_n 0, 1, 1, 0, 0) := by decide +kernel
theorem fe_48_6 : am_fetch 48 6 = some (.iconst 3, 1, 0, 0, 0) := by decide +kernel
theorem fe_48_7 : am_fetch 48 7 = some (.invokevirtual 20, 3, 7, 14, 0) := by decide +kernel
theorem fe_48_10 : am_fetch 48 10 = some (.iadd, 1, 0, 0, 0) := by decide +kernel
theorem fe_48_11 : am_fetch 48 11 = some (.istore_n 1, 1, 1, 0, 0) := by decide +kernel
theorem fe_48_12 : am_fetch 48 12 = some (.aload_n 0, 1, 1, 0, 0) := by decide +kernel
theorem fe_48_13 : am_fetch 48 13 = some (.iconst 3, 1, 0, 0, 0) := by decide +kernel
theorem fe_48_14 : am_fetch 48 14 = some (.invokevirtual 20, 3, 7, 14, 0) := by decide +kernel
theorem fe_48_17 : am_fetch 48 17 = some (.istore_n 2, 1, 1, 0, 0) := by decide +kernel
theorem fe_48_18 : am_fetch 48 18 = some (.iconst 0, 1, 0, 0, 0) := by decide +kernel
theorem fe_48_19 : am_fetch 48 19 = some (.istore_n 3, 1, 1, 0, 0) := by decide +kernel
theorem fe_48_20 : am_fetch 48 20 = some (.iconst 0, 1, 0, 0, 0) := by decide +kernel
theorem fe_48_21 : am_fetch 48 21 = some (.istore 4, 2, 1, 0, 0) := by decide +kernel
theorem fe_48_23 : am_fetch 48 23 = some (.aload_n 0, 1, 1, 0, 0) := by decide +kernel
theorem fe_48_24 : am_fetch 48 24 = some (.iconst 0, 1, 0, 0, 0) := by decide +kernel
theorem fe_48_25 : am_fetch 48 25 = some (.invokevirtual 27, 3, 7, 29, 0) := by decide +kernel
theorem fe_48_28 : am_fetch 48 28 = some (.istore 5, 2, 1, 0, 0) := by decide +kernel
theorem fe_48_30 : am_fetch 48 30 = some (.iconst 0, 1, 0, 0, 0) := by decide +kernel
theorem fe_48_31 : am_fetch 48 31 = some (.istore 6, 2, 1, 0, 0) := by decide +kernel
theorem fe_48_33 : am_fetch 48 33 = some (.iload 6, 2, 1, 0, 0) := by decide +kernel
theorem fe_48_35 : am_fetch 48 35 = some (.iconst 5, 1, 0, 0, 0) := by decide +kernel
theorem fe_48_36 : am_fetch 48 36 = some (.if_icmp .ge 39, 3, 2, 75, 0) := by decide +kernel
theorem fe_48_39 : am_fetch 48 39 = some (.iload_n 1, 1, 1, 0, 0) := by decide +kernel
theorem fe_48_40 : am_fetch 48 40 = some (.aload_n 0, 1, 1, 0, 0) := by decide +kernel
theorem fe_48_41 : am_fetch 48 41 = some (.iload 6, 2, 1, 0, 0) := by decide +kernel
theorem fe_48_43 : am_fetch 48 43 = some (.iconst 0, 1, 0, 0, 0) := by decide +kernel
theorem fe_48_44 : am_fetch 48 44 = some (.invokevirtual 30, 3, 7, 33, 0) := by decide +kernel
theorem fe_48_47 : am_fetch 48 47 = some (.iadd, 1, 0, 0, 0) := by decide +kernel
theorem fe_48_48 : am_fetch 48 48 = some (.istore_n 1, 1, 1, 0, 0) := by decide +kernel
theorem fe_48_49 : am_fetch 48 49 = some (.iload_n 2, 1, 1, 0, 0) := by decide +kernel
theorem fe_48_50 : am_fetch 48 50 = some (.aload_n 0, 1, 1, 0, 0) := by decide +kernel
theorem fe_48_51 : am_fetch 48 51 = some (.iload 6, 2, 1, 0, 0) := by decide +kernel
theorem fe_48_53 : am_fetch 48 53 = some (.iconst 1, 1, 0, 0, 0) := by decide +kernel
theorem fe_48_54 : am_fetch 48 54 = some (.invokevirtual 30, 3, 7, 33, 0) := by decide +kernel
theorem fe_48_57 : am_fetch 48 57 = some (.iadd, 1, 0, 0, 0) := by decide +kernel
theorem fe_48_58 : am_fetch 48 58 = some (.istore_n 2, 1, 1, 0, 0) := by decide +kernel
theorem fe_48_59 : am_fetch 48 59 = some (.iload_n 3, 1, 1, 0, 0) := by decide +kernel
theorem fe_48_60 : am_fetch 48 60 = some (.aload_n 0, 1, 1, 0, 0) := by decide +kernel
theorem fe_48_61 : am_fetch 48 61 = some (.iload 6, 2, 1, 0, 0) := by decide +kernel
theorem fe_48_63 : am_fetch 48 63 = some (.iconst 2, 1, 0, 0, 0) := by decide +kernel
theorem fe_48_64 : am_fetch 48 64 = some (.invokevirtual 30, 3, 7, 33, 0) := by decide +kernel
theorem fe_48_67 : am_fetch 48 67 = some (.iadd, 1, 0, 0, 0) := by decide +kernel
theorem fe_48_68 : am_fetch 48 68 = some (.istore_n 3, 1, 1, 0, 0) := by decide +kernel
theorem fe_48_69 : am_fetch 48 69 = some (.iinc 6 1, 3, 1, 0, 0) := by decide +kernel
theorem fe_48_72 : am_fetch 48 72 = some (.goto (-39), 3, 2, 33, 0) := by decide +kernel
theorem fe_48_75 : am_fetch 48 75 = some (.iconst 0, 1, 0, 0, 0) := by decide +kernel
theorem fe_48_76 : am_fetch 48 76 = some (.istore 6, 2, 1, 0, 0) := by decide +kernel
theorem fe_48_78 : am_fetch 48 78 = some (.iload 6, 2, 1, 0, 0) := by decide +kernel
theorem fe_48_80 : am_fetch 48 80 = some (.aload_n 0, 1, 1, 0, 0) := by decide +kernel
theorem fe_48_81 : am_fetch 48 81 = some (.iconst 3, 1, 0, 0, 0) := by decide +kernel
theorem fe_48_82 : am_fetch 48 82 = some (.invokevirtual 20, 3, 7, 14, 0) := by decide +kernel
theorem fe_48_85 : am_fetch 48 85 = some (.if_icmp .ge 108, 3, 2, 193, 0) := by decide +kernel
theorem fe_48_88 : am_fetch 48 88 = some (.aload_n 0, 1, 1, 0, 0) := by decide +kernel
theorem fe_48_89 : am_fetch 48 89 = some (.iload 6, 2, 1, 0, 0) := by decide +kernel
theorem fe_48_91 : am_fetch 48 91 = some (.iconst 3, 1, 0, 0, 0) := by decide +kernel
theorem fe_48_92 : am_fetch 48 92 = some (.invokevirtual 33, 3, 7, 37, 0) := by decide +kernel
theorem fe_48_95 : am_fetch 48 95 = some (.iconst 1, 1, 0, 0, 0) := by decide +kernel
theorem fe_48_96 : am_fetch 48 96 = some (.if_icmp .lt 80, 3, 2, 176, 0) := by decide +kernel
theorem fe_48_99 : am_fetch 48 99 = some (.aload_n 0, 1, 1, 0, 0) := by decide +kernel
theorem fe_48_100 : am_fetch 48 100 = some (.iload 6, 2, 1, 0, 0) := by decide +kernel
theorem fe_48_102 : am_fetch 48 102 = some (.iconst 3, 1, 0, 0, 0) := by decide +kernel
theorem fe_48_103 : am_fetch 48 103 = some (.invokevirtual 33, 3, 7, 37, 0) := by decide +kernel
theorem fe_48_106 : am_fetch 48 106 = some (.aload_n 0, 1, 1, 0, 0) := by decide +kernel
theorem fe_48_107 : am_fetch 48 107 = some (.iconst 1, 1, 0, 0, 0) := by decide +kernel
theorem fe_48_108 : am_fetch 48 108 = some (.invokevirtual 20, 3, 7, 14, 0) := by decide +kernel
theorem fe_48_111 : am_fetch 48 111 = some (.aload_n 0, 1, 1, 0, 0) := by decide +kernel
theorem fe_48_112 : am_fetch 48 112 = some (.iload 6, 2, 1, 0, 0) := by decide +kernel
theorem fe_48_114 : am_fetch 48 114 = some (.iconst 0, 1, 0, 0, 0) := by decide +kernel
theorem fe_48_115 : am_fetch 48 115 = some (.invokevirtual 33, 3, 7, 37, 0) := by decide +kernel
theorem fe_48_118 : am_fetch 48 118 = some (.isub, 1, 0, 0, 0) := by decide +kernel
theorem fe_48_119 : am_fetch 48 119 = some (.if_icmp .gt 57, 3, 2, 176, 0) := by decide +kernel
theorem fe_48_122 : am_fetch 48 122 = some (.aload_n 0, 1, 1, 0, 0) := by decide +kernel
theorem fe_48_123 : am_fetch 48 123 = some (.iload 6, 2, 1, 0, 0) := by decide +kernel
theorem fe_48_125 : am_fetch 48 125 = some (.iconst 1, 1, 0, 0, 0) := by decide +kernel
theorem fe_48_126 : am_fetch 48 126 = some (.invokevirtual 33, 3, 7, 37, 0) := by decide +kernel
theorem fe_48_129 : am_fetch 48 129 = some (.iload 4, 2, 1, 0, 0) := by decide +kernel
theorem fe_48_131 : am_fetch 48 131 = some (.if_icmp .le 45, 3, 2, 176, 0) := by decide +kernel
theorem fe_48_134 : am_fetch 48 134 = some (.aload_n 0, 1, 1, 0, 0) := by decide +kernel
theorem fe_48_135 : am_fetch 48 135 = some (.iload 6, 2, 1, 0, 0) := by decide +kernel
theorem fe_48_137 : am_fetch 48 137 = some (.iconst 1, 1, 0, 0, 0) := by decide +kernel
theorem fe_48_138 : am_fetch 48 138 = some (.invokevirtual 33, 3, 7, 37, 0) := by decide +kernel
theorem fe_48_141 : am_fetch 48 141 = some (.aload_n 0, 1, 1, 0, 0) := by decide +kernel
theorem fe_48_142 : am_fetch 48 142 = some (.iconst 0, 1, 0, 0, 0) := by decide +kernel
theorem fe_48_143 : am_fetch 48 143 = some (.invokevirtual 20, 3, 7, 14, 0) := by decide +kernel
theorem fe_48_146 : am_fetch 48 146 = some (.if_icmp .gt 30, 3, 2, 176, 0) := by decide +kernel
theorem fe_48_149 : am_fetch 48 149 = some (.aload_n 0, 1, 1, 0, 0) := by decide +kernel
theorem fe_48_150 : am_fetch 48 150 = some (.iload 6, 2, 1, 0, 0) := by decide +kernel
theorem fe_48_152 : am_fetch 48 152 = some (.iconst 4, 1, 0, 0, 0) := by decide +kernel
theorem fe_48_153 : am_fetch 48 153 = some (.invokevirtual 33, 3, 7, 37, 0) := by decide +kernel
theorem fe_48_156 : am_fetch 48 156 = some (.ifCond .lt 20, 3, 2, 176, 0) := by decide +kernel
theorem fe_48_159 : am_fetch 48 159 = some (.aload_n 0, 1, 1, 0, 0) := by decide +kernel
theorem fe_48_160 : am_fetch 48 160 = some (.iload 6, 2, 1, 0, 0) := by decide +kernel
theorem fe_48_162 : am_fetch 48 162 = some (.iconst 2, 1, 0, 0, 0) := by decide +kernel
theorem fe_48_163 : am_fetch 48 163 = some (.invokevirtual 33, 3, 7, 37, 0) := by decide +kernel
theorem fe_48_166 : am_fetch 48 166 = some (.aload_n 0, 1, 1, 0, 0) := by decide +kernel
theorem fe_48_167 : am_fetch 48 167 = some (.iload 6, 2, 1, 0, 0) := by decide +kernel
theorem fe_48_169 : am_fetch 48 169 = some (.iconst 0, 1, 0, 0, 0) := by decide +kernel
theorem fe_48_170 : am_fetch 48 170 = some (.invokevirtual 33, 3, 7, 37, 0) := by decide +kernel
theorem fe_48_173 : am_fetch 48 173 = some (.if_icmp .le 5, 3, 2, 178, 0) := by decide +kernel
theorem fe_48_176 : am_fetch 48 176 = some (.iconst 0, 1, 0, 0, 0) := by decide +kernel
theorem fe_48_177 : am_fetch 48 177 = some (.ireturn, 1, 8, 0, 0) := by decide +kernel
theorem fe_48_178 : am_fetch 48 178 = some (.aload_n 0, 1, 1, 0, 0) := by decide +kernel
theorem fe_48_179 : am_fetch 48 179 = some (.iload 6, 2, 1, 0, 0) := by decide +kernel
theorem fe_48_181 : am_fetch 48 181 = some (.iconst 1, 1, 0, 0, 0) := by decide +kernel
theorem fe_48_182 : am_fetch 48 182 = some (.invokevirtual 33, 3, 7, 37, 0) := by decide +kernel
theorem fe_48_185 : am_fetch 48 185 = some (.istore 4, 2, 1, 0, 0) := by decide +kernel
theorem fe_48_187 : am_fetch 48 187 = some (.iinc 6 1, 3, 1, 0, 0) := by decide +kernel
theorem fe_48_190 : am_fetch 48 190 = some (.goto (-112), 3, 2, 78, 0) := by decide +kernel
theorem fe_48_193 : am_fetch 48 193 = some (.iconst 0, 1, 0, 0, 0) := by decide +kernel
theorem fe_48_194 : am_fetch 48 194 = some (.istore 6, 2, 1, 0, 0) := by decide +kernel
theorem fe_48_196 : am_fetch 48 196 = some (.iload 6, 2, 1, 0, 0) := by decide +kernel
theorem fe_48_198 : am_fetch 48 198 = some (.iload 5, 2, 1, 0, 0) := by decide +kernel
theorem fe_48_200 : am_fetch 48 200 = some (.if_icmp .ge 59, 3, 2, 259, 0) := by decide +kernel
theorem fe_48_203 : am_fetch 48 203 = some (.aload_n 0, 1, 1, 0, 0) := by decide +kernel
theorem fe_48_204 : am_fetch 48 204 = some (.aload_n 0, 1, 1, 0, 0) := by decide +kernel
theorem fe_48_205 : am_fetch 48 205 = some (.iload 6, 2, 1, 0, 0) := by decide +kernel
theorem fe_48_207 : am_fetch 48 207 = some (.iconst 0, 1, 0, 0, 0) := by decide +kernel
theorem fe_48_208 : am_fetch 48 208 = some (.invokevirtual 36, 3, 7, 39, 0) := by decide +kernel
theorem fe_48_211 : am_fetch 48 211 = some (.invokevirtual 39, 3, 7, 41, 0) := by decide +kernel
theorem fe_48_214 : am_fetch 48 214 = some (.aload_n 0, 1, 1, 0, 0) := by decide +kernel
theorem fe_48_215 : am_fetch 48 215 = some (.iload 6, 2, 1, 0, 0) := by decide +kernel
theorem fe_48_217 : am_fetch 48 217 = some (.iconst 2, 1, 0, 0, 0) := by decide +kernel
theorem fe_48_218 : am_fetch 48 218 = some (.invokevirtual 36, 3, 7, 39, 0) := by decide +kernel
theorem fe_48_221 : am_fetch 48 221 = some (.ishr, 1, 0, 0, 0) := by decide +kernel
theorem fe_48_222 : am_fetch 48 222 = some (.iconst 1, 1, 0, 0, 0) := by decide +kernel
theorem fe_48_223 : am_fetch 48 223 = some (.iand, 1, 0, 0, 0) := by decide +kernel
theorem fe_48_224 : am_fetch 48 224 = some (.ifCond .eq 27, 3, 2, 251, 0) := by decide +kernel
theorem fe_48_227 : am_fetch 48 227 = some (.iload 6, 2, 1, 0, 0) := by decide +kernel
theorem fe_48_229 : am_fetch 48 229 = some (.ifCond .le 24, 3, 2, 253, 0) := by decide +kernel
theorem fe_48_232 : am_fetch 48 232 = some (.aload_n 0, 1, 1, 0, 0) := by decide +kernel
theorem fe_48_233 : am_fetch 48 233 = some (.iload 6, 2, 1, 0, 0) := by decide +kernel
theorem fe_48_235 : am_fetch 48 235 = some (.iconst 0, 1, 0, 0, 0) := by decide +kernel
theorem fe_48_236 : am_fetch 48 236 = some (.invokevirtual 36, 3, 7, 39, 0) := by decide +kernel
theorem fe_48_239 : am_fetch 48 239 = some (.aload_n 0, 1, 1, 0, 0) := by decide +kernel
theorem fe_48_240 : am_fetch 48 240 = some (.iload 6, 2, 1, 0, 0) := by decide +kernel
theorem fe_48_242 : am_fetch 48 242 = some (.iconst 1, 1, 0, 0, 0) := by decide +kernel
theorem fe_48_243 : am_fetch 48 243 = some (.isub, 1, 0, 0, 0) := by decide +kernel
theorem fe_48_244 : am_fetch 48 244 = some (.iconst 0, 1, 0, 0, 0) := by decide +kernel
theorem fe_48_245 : am_fetch 48 245 = some (.invokevirtual 36, 3, 7, 39, 0) := by decide +kernel
theorem fe_48_248 : am_fetch 48 248 = some (.if_icmp .le 5, 3, 2, 253, 0) := by decide +kernel
theorem fe_48_251 : am_fetch 48 251 = some (.iconst 0, 1, 0, 0, 0) := by decide +kernel
theorem fe_48_252 : am_fetch 48 252 = some (.ireturn, 1, 8, 0, 0) := by decide +kernel
theorem fe_48_253 : am_fetch 48 253 = some (.iinc 6 1, 3, 1, 0, 0) := by decide +kernel
theorem fe_48_256 : am_fetch 48 256 = some (.goto (-60), 3, 2, 196, 0) := by decide +kernel
theorem fe_48_259 : am_fetch 48 259 = some (.iload_n 1, 1, 1, 0, 0) := by decide +kernel
theorem fe_48_260 : am_fetch 48 260 = some (.bipush 40, 2, 0, 0, 0) := by decide +kernel
theorem fe_48_262 : am_fetch 48 262 = some (.if_icmp .ne 153, 3, 2, 415, 0) := by decide +kernel
theorem fe_48_265 : am_fetch 48 265 = some (.iload_n 2, 1, 1, 0, 0) := by decide +kernel
theorem fe_48_266 : am_fetch 48 266 = some (.aload_n 0, 1, 1, 0, 0) := by decide +kernel
theorem fe_48_267 : am_fetch 48 267 = some (.bipush 7, 2, 0, 0, 0) := by decide +kernel
theorem fe_48_269 : am_fetch 48 269 = some (.invokevirtual 20, 3, 7, 14, 0) := by decide +kernel
theorem fe_48_272 : am_fetch 48 272 = some (.if_icmp .ne 143, 3, 2, 415, 0) := by decide +kernel
theorem fe_48_275 : am_fetch 48 275 = some (.iload_n 3, 1, 1, 0, 0) := by decide +kernel
theorem fe_48_276 : am_fetch 48 276 = some (.iconst 2, 1, 0, 0, 0) := by decide +kernel
theorem fe_48_277 : am_fetch 48 277 = some (.aload_n 0, 1, 1, 0, 0) := by decide +kernel
theorem fe_48_278 : am_fetch 48 278 = some (.iconst 1, 1, 0, 0, 0) := by decide +kernel
theorem fe_48_279 : am_fetch 48 279 = some (.invokevirtual 20, 3, 7, 14, 0) := by decide +kernel
theorem fe_48_282 : am_fetch 48 282 = some (.imul, 1, 0, 0, 0) := by decide +kernel
theorem fe_48_283 : am_fetch 48 283 = some (.if_icmp .gt 132, 3, 2, 415, 0) := by decide +kernel
theorem fe_48_286 : am_fetch 48 286 = some (.aload_n 0, 1, 1, 0, 0) := by decide +kernel
theorem fe_48_287 : am_fetch 48 287 = some (.invokestatic 42, 3, 7, 45, 0) := by decide +kernel
theorem fe_48_290 : am_fetch 48 290 = some (.ifCond .eq 125, 3, 2, 415, 0) := by decide +kernel
theorem fe_48_293 : am_fetch 48 293 = some (.iload 5, 2, 1, 0, 0) := by decide +kernel
theorem fe_48_295 : am_fetch 48 295 = some (.aload_n 0, 1, 1, 0, 0) := by decide +kernel
theorem fe_48_296 : am_fetch 48 296 = some (.bipush 9, 2, 0, 0, 0) := by decide +kernel
theorem fe_48_298 : am_fetch 48 298 = some (.invokevirtual 20, 3, 7, 14, 0) := by decide +kernel
theorem fe_48_301 : am_fetch 48 301 = some (.bipush 60, 2, 0, 0, 0) := by decide +kernel
theorem fe_48_303 : am_fetch 48 303 = some (.if_icmp .ge 12, 3, 2, 315, 0) := by decide +kernel
theorem fe_48_306 : am_fetch 48 306 = some (.aload_n 0, 1, 1, 0, 0) := by decide +kernel
theorem fe_48_307 : am_fetch 48 307 = some (.bipush 9, 2, 0, 0, 0) := by decide +kernel
theorem fe_48_309 : am_fetch 48 309 = some (.invokevirtual 20, 3, 7, 14, 0) := by decide +kernel
theorem fe_48_312 : am_fetch 48 312 = some (.goto 5, 3, 2, 317, 0) := by decide +kernel
theorem fe_48_315 : am_fetch 48 315 = some (.bipush 60, 2, 0, 0, 0) := by decide +kernel
theorem fe_48_317 : am_fetch 48 317 = some (.if_icmp .ne 98, 3, 2, 415, 0) := by decide +kernel
theorem fe_48_320 : am_fetch 48 320 = some (.aload_n 0, 1, 1, 0, 0) := by decide +kernel
theorem fe_48_321 : am_fetch 48 321 = some (.iload 5, 2, 1, 0, 0) := by decide +kernel
theorem fe_48_323 : am_fetch 48 323 = some (.iconst 0, 1, 0, 0, 0) := by decide +kernel
theorem fe_48_324 : am_fetch 48 324 = some (.invokevirtual 36, 3, 7, 39, 0) := by decide +kernel
theorem fe_48_327 : am_fetch 48 327 = some (.iconst (-1), 1, 0, 0, 0) := by decide +kernel
theorem fe_48_328 : am_fetch 48 328 = some (.if_icmp .ne 87, 3, 2, 415, 0) := by decide +kernel
theorem fe_48_331 : am_fetch 48 331 = some (.aload_n 0, 1, 1, 0, 0) := by decide +kernel
theorem fe_48_332 : am_fetch 48 332 = some (.iconst 0, 1, 0, 0, 0) := by decide +kernel
theorem fe_48_333 : am_fetch 48 333 = some (.invokevirtual 48, 3, 7, 47, 0) := by decide +kernel
theorem fe_48_336 : am_fetch 48 336 = some (.aload_n 0, 1, 1, 0, 0) := by decide +kernel
theorem fe_48_337 : am_fetch 48 337 = some (.iconst 1, 1, 0, 0, 0) := by decide +kernel
theorem fe_48_338 : am_fetch 48 338 = some (.invokevirtual 48, 3, 7, 47, 0) := by decide +kernel
theorem fe_48_341 : am_fetch 48 341 = some (.if_icmp .gt 74, 3, 2, 415, 0) := by decide +kernel
theorem fe_48_344 : am_fetch 48 344 = some (.aload_n 0, 1, 1, 0, 0) := by decide +kernel
theorem fe_48_345 : am_fetch 48 345 = some (.iconst 0, 1, 0, 0, 0) := by decide +kernel
theorem fe_48_346 : am_fetch 48 346 = some (.invokevirtual 48, 3, 7, 47, 0) := by decide +kernel
theorem fe_48_349 : am_fetch 48 349 = some (.ifCond .le 7, 3, 2, 356, 0) := by decide +kernel
theorem fe_48_352 : am_fetch 48 352 = some (.iconst 1, 1, 0, 0, 0) := by decide +kernel
theorem fe_48_353 : am_fetch 48 353 = some (.goto 4, 3, 2, 357, 0) := by decide +kernel
theorem fe_48_356 : am_fetch 48 356 = some (.iconst 0, 1, 0, 0, 0) := by decide +kernel
theorem fe_48_357 : am_fetch 48 357 = some (.aload_n 0, 1, 1, 0, 0) := by decide +kernel
theorem fe_48_358 : am_fetch 48 358 = some (.iconst 1, 1, 0, 0, 0) := by decide +kernel
theorem fe_48_359 : am_fetch 48 359 = some (.invokevirtual 20, 3, 7, 14, 0) := by decide +kernel
theorem fe_48_362 : am_fetch 48 362 = some (.ifCond .le 7, 3, 2, 369, 0) := by decide +kernel
theorem fe_48_365 : am_fetch 48 365 = some (.iconst 1, 1, 0, 0, 0) := by decide +kernel
theorem fe_48_366 : am_fetch 48 366 = some (.goto 4, 3, 2, 370, 0) := by decide +kernel
theorem fe_48_369 : am_fetch 48 369 = some (.iconst 0, 1, 0, 0, 0) := by decide +kernel
theorem fe_48_370 : am_fetch 48 370 = some (.if_icmp .ne 45, 3, 2, 415, 0) := by decide +kernel
theorem fe_48_373 : am_fetch 48 373 = some (.aload_n 0, 1, 1, 0, 0) := by decide +kernel
theorem fe_48_374 : am_fetch 48 374 = some (.iconst 3, 1, 0, 0, 0) := by decide +kernel
theorem fe_48_375 : am_fetch 48 375 = some (.invokevirtual 27, 3, 7, 29, 0) := by decide +kernel
theorem fe_48_378 : am_fetch 48 378 = some (.iload 5, 2, 1, 0, 0) := by decide +kernel
theorem fe_48_380 : am_fetch 48 380 = some (.if_icmp .gt 35, 3, 2, 415, 0) := by decide +kernel
theorem fe_48_383 : am_fetch 48 383 = some (.aload_n 0, 1, 1, 0, 0) := by decide +kernel
theorem fe_48_384 : am_fetch 48 384 = some (.iconst 5, 1, 0, 0, 0) := by decide +kernel
theorem fe_48_385 : am_fetch 48 385 = some (.invokevirtual 27, 3, 7, 29, 0) := by decide +kernel
theorem fe_48_388 : am_fetch 48 388 = some (.aload_n 0, 1, 1, 0, 0) := by decide +kernel
theorem fe_48_389 : am_fetch 48 389 = some (.bipush 6, 2, 0, 0, 0) := by decide +kernel
theorem fe_48_391 : am_fetch 48 391 = some (.invokevirtual 27, 3, 7, 29, 0) := by decide +kernel
theorem fe_48_394 : am_fetch 48 394 = some (.iadd, 1, 0, 0, 0) := by decide +kernel
theorem fe_48_395 : am_fetch 48 395 = some (.iload 5, 2, 1, 0, 0) := by decide +kernel
theorem fe_48_397 : am_fetch 48 397 = some (.ifCond .ne 7, 3, 2, 404, 0) := by decide +kernel
theorem fe_48_400 : am_fetch 48 400 = some (.iconst 0, 1, 0, 0, 0) := by decide +kernel
theorem fe_48_401 : am_fetch 48 401 = some (.goto 7, 3, 2, 408, 0) := by decide +kernel
theorem fe_48_404 : am_fetch 48 404 = some (.iload 5, 2, 1, 0, 0) := by decide +kernel
theorem fe_48_406 : am_fetch 48 406 = some (.iconst 1, 1, 0, 0, 0) := by decide +kernel
theorem fe_48_407 : am_fetch 48 407 = some (.isub, 1, 0, 0, 0) := by decide +kernel
theorem fe_48_408 : am_fetch 48 408 = some (.if_icmp .gt 7, 3, 2, 415, 0) := by decide +kernel
theorem fe_48_411 : am_fetch 48 411 = some (.iconst 1, 1, 0, 0, 0) := by decide +kernel
theorem fe_48_412 : am_fetch 48 412 = some (.goto 4, 3, 2, 416, 0) := by decide +kernel
theorem fe_48_415 : am_fetch 48 415 = some (.iconst 0, 1, 0, 0, 0) := by decide +kernel
theorem fe_48_416 : am_fetch 48 416 = some (.ireturn, 1, 8, 0, 0) := by decide +kernel
theorem fe_49_0 : am_fetch 49 0 = some (.aload_n 1, 1, 1, 0, 0) := by decide +kernel
theorem fe_49_1 : am_fetch 49 1 = some (.getfield 13, 3, 3, 6, 0) := by decide +kernel
theorem fe_49_4 : am_fetch 49 4 = some (.iconst 0, 1, 0, 0, 0) := by decide +kernel
theorem fe_49_5 : am_fetch 49 5 = some (.aload_n 0, 1, 1, 0, 0) := by decide +kernel
theorem fe_49_6 : am_fetch 49 6 = some (.getfield 13, 3, 3, 6, 0) := by decide +kernel
theorem fe_49_9 : am_fetch 49 9 = some (.iconst 0, 1, 0, 0, 0) := by decide +kernel
theorem fe_49_10 : am_fetch 49 10 = some (.aload_n 1, 1, 1, 0, 0) := by decide +kernel
theorem fe_49_11 : am_fetch 49 11 = some (.getfield 13, 3, 3, 6, 0) := by decide +kernel
theorem fe_49_14 : am_fetch 49 14 = some (.arraylength, 1, 3, 0, 0) := by decide +kernel
theorem fe_49_15 : am_fetch 49 15 = some (.aload_n 0, 1, 1, 0, 0) := by decide +kernel
theorem fe_49_16 : am_fetch 49 16 = some (.getfield 13, 3, 3, 6, 0) := by decide +kernel
theorem fe_49_19 : am_fetch 49 19 = some (.arraylength, 1, 3, 0, 0) := by decide +kernel
theorem fe_49_20 : am_fetch 49 20 = some (.invokestatic 27, 3, 6, 3, 0) := by decide +kernel
theorem fe_49_23 : am_fetch 49 23 = some (.invokestatic 30, 3, 6, 4, 0) := by decide +kernel
theorem fe_49_26 : am_fetch 49 26 = some (.return_, 1, 8, 0, 0) := by decide +kernel
theorem fe_50_0 : am_fetch 50 0 = some (.aload_n 0, 1, 1, 0, 0) := by decide +kernel
theorem fe_50_1 : am_fetch 50 1 = some (.getfield 14, 3, 3, 5, 1) := by decide +kernel
theorem fe_50_4 : am_fetch 50 4 = some (.aload_n 0, 1, 1, 0, 0) := by decide +kernel
theorem fe_50_5 : am_fetch 50 5 = some (.getfield 26, 3, 3, 5, 0) := by decide +kernel
theorem fe_50_8 : am_fetch 50 8 = some (.getfield 30, 3, 3, 101, 1) := by decide +kernel
theorem fe_50_11 : am_fetch 50 11 = some (.invokevirtual 33, 3, 7, 49, 0) := by decide +kernel
theorem fe_50_14 : am_fetch 50 14 = some (.aload_n 0, 1, 1, 0, 0) := by decide +kernel
theorem fe_50_15 : am_fetch 50 15 = some (.getfield 20, 3, 3, 5, 2) := by decide +kernel
theorem fe_50_18 : am_fetch 50 18 = some (.invokevirtual 37, 3, 7, 15, 0) := by decide +kernel
theorem fe_50_21 : am_fetch 50 21 = some (.return_, 1, 8, 0, 0) := by decide +kernel
theorem fe_51_0 : am_fetch 51 0 = some (.iconst 0, 1, 0, 0, 0) := by decide +kernel
theorem fe_51_1 : am_fetch 51 1 = some (.istore_n 1, 1, 1, 0, 0) := by decide +kernel
theorem fe_51_2 : am_fetch 51 2 = some (.iconst 0, 1, 0, 0, 0) := by decide +kernel
theorem fe_51_3 : am_fetch 51 3 = some (.istore_n 2, 1, 1, 0, 0) := by decide +kernel
theorem fe_51_4 : am_fetch 51 4 = some (.iload_n 2, 1, 1, 0, 0) := by decide +kernel
theorem fe_51_5 : am_fetch 51 5 = some (.bipush 12, 2, 0, 0, 0) := by decide +kernel
theorem fe_51_7 : am_fetch 51 7 = some (.if_icmp .ge 59, 3, 2, 66, 0) := by decide +kernel
theorem fe_51_10 : am_fetch 51 10 = some (.aload_n 0, 1, 1, 0, 0) := by decide +kernel
theorem fe_51_11 : am_fetch 51 11 = some (.getfield 26, 3, 3, 5, 0) := by decide +kernel
theorem fe_51_14 : am_fetch 51 14 = some (.iload_n 1, 1, 1, 0, 0) := by decide +kernel
theorem fe_51_15 : am_fetch 51 15 = some (.invokevirtual 40, 3, 7, 34, 0) := by decide +kernel
theorem fe_51_18 : am_fetch 51 18 = some (.ifCond .eq 48, 3, 2, 66, 0) := by decide +kernel
theorem fe_51_21 : am_fetch 51 21 = some (.aload_n 0, 1, 1, 0, 0) := by decide +kernel
theorem fe_51_22 : am_fetch 51 22 = some (.getfield 20, 3, 3, 5, 2) := by decide +kernel
theorem fe_51_25 : am_fetch 51 25 = some (.iload_n 1, 1, 1, 0, 0) := by decide +kernel
theorem fe_51_26 : am_fetch 51 26 = some (.iconst 1, 1, 0, 0, 0) := by decide +kernel
theorem fe_51_27 : am_fetch 51 27 = some (.invokevirtual 44, 3, 7, 18, 0) := by decide +kernel
theorem fe_51_30 : am_fetch 51 30 = some (.aload_n 0, 1, 1, 0, 0) := by decide +kernel
theorem fe_51_31 : am_fetch 51 31 = some (.getfield 14, 3, 3, 5, 1) := by decide +kernel
theorem fe_51_34 : am_fetch 51 34 = some (.iload_n 1, 1, 1, 0, 0) := by decide +kernel
theorem fe_51_35 : am_fetch 51 35 = some (.invokevirtual 48, 3, 7, 12, 0) := by decide +kernel
theorem fe_51_38 : am_fetch 51 38 = some (.istore_n 3, 1, 1, 0, 0) := by decide +kernel
theorem fe_51_39 : am_fetch 51 39 = some (.aload_n 0, 1, 1, 0, 0) := by decide +kernel
theorem fe_51_40 : am_fetch 51 40 = some (.getfield 14, 3, 3, 5, 1) := by decide +kernel
theorem fe_51_43 : am_fetch 51 43 = some (.iload_n 1, 1, 1, 0, 0) := by decide +kernel
theorem fe_51_44 : am_fetch 51 44 = some (.iconst 1, 1, 0, 0, 0) := by decide +kernel
theorem fe_51_45 : am_fetch 51 45 = some (.iload_n 3, 1, 1, 0, 0) := by decide +kernel
theorem fe_51_46 : am_fetch 51 46 = some (.isub, 1, 0, 0, 0) := by decide +kernel
theorem fe_51_47 : am_fetch 51 47 = some (.invokevirtual 52, 3, 7, 4, 0) := by decide +kernel
theorem fe_51_50 : am_fetch 51 50 = some (.aload_n 0, 1, 1, 0, 0) := by decide +kernel
theorem fe_51_51 : am_fetch 51 51 = some (.getfield 26, 3, 3, 5, 0) := by decide +kernel
theorem fe_51_54 : am_fetch 51 54 = some (.iload_n 1, 1, 1, 0, 0) := by decide +kernel
theorem fe_51_55 : am_fetch 51 55 = some (.iload_n 3, 1, 1, 0, 0) := by decide +kernel
theorem fe_51_56 : am_fetch 51 56 = some (.invokevirtual 55, 3, 7, 31, 0) := by decide +kernel
theorem fe_51_59 : am_fetch 51 59 = some (.istore_n 1, 1, 1, 0, 0) := by decide +kernel
theorem fe_51_60 : am_fetch 51 60 = some (.iinc 2 1, 3, 1, 0, 0) := by decide +kernel
theorem fe_51_63 : am_fetch 51 63 = some (.goto (-59), 3, 2, 4, 0) := by decide +kernel
theorem fe_51_66 : am_fetch 51 66 = some (.aload_n 0, 1, 1, 0, 0) := by decide +kernel
theorem fe_51_67 : am_fetch 51 67 = some (.getfield 20, 3, 3, 5, 2) := by decide +kernel
theorem fe_51_70 : am_fetch 51 70 = some (.iload_n 1, 1, 1, 0, 0) := by decide +kernel
theorem fe_51_71 : am_fetch 51 71 = some (.iconst 1, 1, 0, 0, 0) := by decide +kernel
theorem fe_51_72 : am_fetch 51 72 = some (.invokevirtual 44, 3, 7, 18, 0) := by decide +kernel
theorem fe_51_75 : am_fetch 51 75 = some (.iload_n 1, 1, 1, 0, 0) := by decide +kernel
theorem fe_51_76 : am_fetch 51 76 = some (.bipush 20, 2, 0, 0, 0) := by decide +kernel
theorem fe_51_78 : am_fetch 51 78 = some (.isub, 1, 0, 0, 0) := by decide +kernel
theorem fe_51_79 : am_fetch 51 79 = some (.ireturn, 1, 8, 0, 0) := by decide +kernel
theorem fe_52_0 : am_fetch 52 0 = some (.iconst 0, 1, 0, 0, 0) := by decide +kernel
theorem fe_52_1 : am_fetch 52 1 = some (.istore_n 2, 1, 1, 0, 0) := by decide +kernel
theorem fe_52_2 : am_fetch 52 2 = some (.iload_n 2, 1, 1, 0, 0) := by decide +kernel
theorem fe_52_3 : am_fetch 52 3 = some (.aload_n 0, 1, 1, 0, 0) := by decide +kernel
theorem fe_52_4 : am_fetch 52 4 = some (.getfield 13, 3, 3, 6, 0) := by decide +kernel
theorem fe_52_7 : am_fetch 52 7 = some (.arraylength, 1, 3, 0, 0) := by decide +kernel
theorem fe_52_8 : am_fetch 52 8 = some (.if_icmp .ge 25, 3, 2, 33, 0) := by decide +kernel
theorem fe_52_11 : am_fetch 52 11 = some (.aload_n 0, 1, 1, 0, 0) := by decide +kernel
theorem fe_52_12 : am_fetch 52 12 = some (.getfield 13, 3, 3, 6, 0) := by decide +kernel
theorem fe_52_15 : am_fetch 52 15 = some (.iload_n 2, 1, 1, 0, 0) := by decide +kernel
theorem fe_52_16 : am_fetch 52 16 = some (.iaload, 1, 3, 0, 0) := by decide +kernel
theorem fe_52_17 : am_fetch 52 17 = some (.aload_n 1, 1, 1, 0, 0) := by decide +kernel
theorem fe_52_18 : am_fetch 52 18 = some (.iload_n 2, 1, 1, 0, 0) := by decide +kernel
theorem fe_52_19 : am_fetch 52 19 = some (.invokevirtual 19, 3, 7, 12, 0) := by decide +kernel
theorem fe_52_22 : am_fetch 52 22 = some (.if_icmp .eq 5, 3, 2, 27, 0) := by decide +kernel
theorem fe_52_25 : am_fetch 52 25 = some (.iconst 0, 1, 0, 0, 0) := by decide +kernel
theorem fe_52_26 : am_fetch 52 26 = some (.ireturn, 1, 8, 0, 0) := by decide +kernel
theorem fe_52_27 : am_fetch 52 27 = some (.iinc 2 1, 3, 1, 0, 0) := by decide +kernel
theorem fe_52_30 : am_fetch 52 30 = some (.goto (-28), 3, 2, 2, 0) := by decide +kernel
theorem fe_52_33 : am_fetch 52 33 = some (.iconst 1, 1, 0, 0, 0) := by decide +kernel
theorem fe_52_34 : am_fetch 52 34 = some (.ireturn, 1, 8, 0, 0) := by decide +kernel
theorem fe_53_0 : am_fetch 53 0 = some (.aload_n 0, 1, 1, 0, 0) := by decide +kernel
theorem fe_53_1 : am_fetch 53 1 = some (.getfield 26, 3, 3, 5, 0) := by decide +kernel
theorem fe_53_4 : am_fetch 53 4 = some (.iconst 0, 1, 0, 0, 0) := by decide +kernel
theorem fe_53_5 : am_fetch 53 5 = some (.invokevirtual 40, 3, 7, 34, 0) := by decide +kernel
theorem fe_53_8 : am_fetch 53 8 = some (.ifCond .ne 5, 3, 2, 13, 0) := by decide +kernel
theorem fe_53_11 : am_fetch 53 11 = some (.iconst (-1), 1, 0, 0, 0) := by decide +kernel
theorem fe_53_12 : am_fetch 53 12 = some (.ireturn, 1, 8, 0, 0) := by decide +kernel
theorem fe_53_13 : am_fetch 53 13 = some (.aload_n 0, 1, 1, 0, 0) := by decide +kernel
theorem fe_53_14 : am_fetch 53 14 = some (.invokevirtual 59, 3, 7, 50, 0) := by decide +kernel
theorem fe_53_17 : am_fetch 53 17 = some (.iconst 1, 1, 0, 0, 0) := by decide +kernel
theorem fe_53_18 : am_fetch 53 18 = some (.istore_n 1, 1, 1, 0, 0) := by decide +kernel
theorem fe_53_19 : am_fetch 53 19 = some (.iload_n 1, 1, 1, 0, 0) := by decide +kernel
theorem fe_53_20 : am_fetch 53 20 = some (.sipush 4096, 3, 0, 0, 0) := by decide +kernel
theorem fe_53_23 : am_fetch 53 23 = some (.if_icmp .ge 33, 3, 2, 56, 0) := by decide +kernel
theorem fe_53_26 : am_fetch 53 26 = some (.aload_n 0, 1, 1, 0, 0) := by decide +kernel
theorem fe_53_27 : am_fetch 53 27 = some (.invokevirtual 62, 3, 7, 51, 0) := by decide +kernel
theorem fe_53_30 : am_fetch 53 30 = some (.pop, 1, 0, 0, 0) := by decide +kernel
theorem fe_53_31 : am_fetch 53 31 = some (.aload_n 0, 1, 1, 0, 0) := by decide +kernel
theorem fe_53_32 : am_fetch 53 32 = some (.getfield 14, 3, 3, 5, 1) := by decide +kernel
theorem fe_53_35 : am_fetch 53 35 = some (.aload_n 0, 1, 1, 0, 0) := by decide +kernel
theorem fe_53_36 : am_fetch 53 36 = some (.getfield 26, 3, 3, 5, 0) := by decide +kernel
theorem fe_53_39 : am_fetch 53 39 = some (.getfield 30, 3, 3, 101, 1) := by decide +kernel
theorem fe_53_42 : am_fetch 53 42 = some (.invokevirtual 73, 3, 7, 52, 0) := by decide +kernel
theorem fe_53_45 : am_fetch 53 45 = some (.ifCond .eq 5, 3, 2, 50, 0) := by decide +kernel
theorem fe_53_48 : am_fetch 53 48 = some (.iload_n 1, 1, 1, 0, 0) := by decide +kernel
theorem fe_53_49 : am_fetch 53 49 = some (.ireturn, 1, 8, 0, 0) := by decide +kernel
theorem fe_53_50 : am_fetch 53 50 = some (.iinc 1 1, 3, 1, 0, 0) := by decide +kernel
theorem fe_53_53 : am_fetch 53 53 = some (.goto (-34), 3, 2, 19, 0) := by decide +kernel
theorem fe_53_56 : am_fetch 53 56 = some (.sipush 4096, 3, 0, 0, 0) := by decide +kernel
theorem fe_53_59 : am_fetch 53 59 = some (.ireturn, 1, 8, 0, 0) := by decide +kernel
theorem fe_54_0 : am_fetch 54 0 = some (.aload_n 0, 1, 1, 0, 0) := by decide +kernel
theorem fe_54_1 : am_fetch 54 1 = some (.getfield 25, 3, 3, 10, 1) := by decide +kernel
theorem fe_54_4 : am_fetch 54 4 = some (.invokevirtual 382, 3, 7, 53, 0) := by decide +kernel
theorem fe_54_7 : am_fetch 54 7 = some (.ireturn, 1, 8, 0, 0) := by decide +kernel
theorem fe_55_0 : am_fetch 55 0 = some (.aload_n 0, 1, 1, 0, 0) := by decide +kernel
theorem fe_55_1 : am_fetch 55 1 = some (.iload_n 1, 1, 1, 0, 0) := by decide +kernel
theorem fe_55_2 : am_fetch 55 2 = some (.invokevirtual 40, 3, 7, 34, 0) := by decide +kernel
theorem fe_55_5 : am_fetch 55 5 = some (.ifCond .ne 15, 3, 2, 20, 0) := by decide +kernel
theorem fe_55_8 : am_fetch 55 8 = some (.iload_n 1, 1, 1, 0, 0) := by decide +kernel
theorem fe_55_9 : am_fetch 55 9 = some (.bipush 20, 2, 0, 0, 0) := by decide +kernel
theorem fe_55_11 : am_fetch 55 11 = some (.if_icmp .lt 13, 3, 2, 24, 0) := by decide +kernel
theorem fe_55_14 : am_fetch 55 14 = some (.iload_n 1, 1, 1, 0, 0) := by decide +kernel
theorem fe_55_15 : am_fetch 55 15 = some (.bipush 25, 2, 0, 0, 0) := by decide +kernel
theorem fe_55_17 : am_fetch 55 17 = some (.if_icmp .ge 7, 3, 2, 24, 0) := by decide +kernel
theorem fe_55_20 : am_fetch 55 20 = some (.iconst 1, 1, 0, 0, 0) := by decide +kernel
theorem fe_55_21 : am_fetch 55 21 = some (.goto 4, 3, 2, 25, 0) := by decide +kernel
theorem fe_55_24 : am_fetch 55 24 = some (.iconst 0, 1, 0, 0, 0) := by decide +kernel
theorem fe_55_25 : am_fetch 55 25 = some (.ireturn, 1, 8, 0, 0) := by decide +kernel
theorem fe_56_0 : am_fetch 56 0 = some (.iload_n 0, 1, 1, 0, 0) := by decide +kernel
theorem fe_56_1 : am_fetch 56 1 = some (.ifCond .lt 14, 3, 2, 15, 0) := by decide +kernel
theorem fe_56_4 : am_fetch 56 4 = some (.iload_n 0, 1, 1, 0, 0) := by decide +kernel
theorem fe_56_5 : am_fetch 56 5 = some (.sipush 1000, 3, 0, 0, 0) := by decide +kernel
theorem fe_56_8 : am_fetch 56 8 = some (.if_icmp .gt 7, 3, 2, 15, 0) := by decide +kernel
theorem fe_56_11 : am_fetch 56 11 = some (.iconst 1, 1, 0, 0, 0) := by decide +kernel
theorem fe_56_12 : am_fetch 56 12 = some (.goto 4, 3, 2, 16, 0) := by decide +kernel
theorem fe_56_15 : am_fetch 56 15 = some (.iconst 0, 1, 0, 0, 0) := by decide +kernel
theorem fe_56_16 : am_fetch 56 16 = some (.ireturn, 1, 8, 0, 0) := by decide +kernel
theorem fe_57_0 : am_fetch 57 0 = some (.aload_n 0, 1, 1, 0, 0) := by decide +kernel
theorem fe_57_1 : am_fetch 57 1 = some (.getfield 26, 3, 3, 5, 0) := by decide +kernel
theorem fe_57_4 : am_fetch 57 4 = some (.iconst 0, 1, 0, 0, 0) := by decide +kernel
theorem fe_57_5 : am_fetch 57 5 = some (.invokevirtual 40, 3, 7, 34, 0) := by decide +kernel
theorem fe_57_8 : am_fetch 57 8 = some (.ifCond .ne 5, 3, 2, 13, 0) := by decide +kernel
theorem fe_57_11 : am_fetch 57 11 = some (.iconst 0, 1, 0, 0, 0) := by decide +kernel
theorem fe_57_12 : am_fetch 57 12 = some (.ireturn, 1, 8, 0, 0) := by decide +kernel
theorem fe_57_13 : am_fetch 57 13 = some (.aload_n 0, 1, 1, 0, 0) := by decide +kernel
theorem fe_57_14 : am_fetch 57 14 = some (.invokevirtual 59, 3, 7, 50, 0) := by decide +kernel
theorem fe_57_17 : am_fetch 57 17 = some (.iconst 0, 1, 0, 0, 0) := by decide +kernel
theorem fe_57_18 : am_fetch 57 18 = some (.istore_n 3, 1, 1, 0, 0) := by decide +kernel
theorem fe_57_19 : am_fetch 57 19 = some (.iload_n 3, 1, 1, 0, 0) := by decide +kernel
theorem fe_57_20 : am_fetch 57 20 = some (.iload_n 1, 1, 1, 0, 0) := by decide +kernel
theorem fe_57_21 : am_fetch 57 21 = some (.if_icmp .ge 14, 3, 2, 35, 0) := by decide +kernel
theorem fe_57_24 : am_fetch 57 24 = some (.aload_n 0, 1, 1, 0, 0) := by decide +kernel
theorem fe_57_25 : am_fetch 57 25 = some (.invokevirtual 62, 3, 7, 51, 0) := by decide +kernel
theorem fe_57_28 : am_fetch 57 28 = some (.pop, 1, 0, 0, 0) := by decide +kernel
theorem fe_57_29 : am_fetch 57 29 = some (.iinc 3 1, 3, 1, 0, 0) := by decide +kernel
theorem fe_57_32 : am_fetch 57 32 = some (.goto (-13), 3, 2, 19, 0) := by decide +kernel
theorem fe_57_35 : am_fetch 57 35 = some (.aload_n 0, 1, 1, 0, 0) := by decide +kernel
theorem fe_57_36 : am_fetch 57 36 = some (.getfield 20, 3, 3, 5, 2) := by decide +kernel
theorem fe_57_39 : am_fetch 57 39 = some (.iload_n 2, 1, 1, 0, 0) := by decide +kernel
theorem fe_57_40 : am_fetch 57 40 = some (.invokevirtual 48, 3, 7, 12, 0) := by decide +kernel
theorem fe_57_43 : am_fetch 57 43 = some (.ireturn, 1, 8, 0, 0) := by decide +kernel
theorem fe_58_0 : am_fetch 58 0 = some (.aload_n 0, 1, 1, 0, 0) := by decide +kernel
theorem fe_58_1 : am_fetch 58 1 = some (.getfield 20, 3, 3, 5, 2) := by decide +kernel
theorem fe_58_4 : am_fetch 58 4 = some (.invokevirtual 37, 3, 7, 15, 0) := by decide +kernel
theorem fe_58_7 : am_fetch 58 7 = some (.aload_n 0, 1, 1, 0, 0) := by decide +kernel
theorem fe_58_8 : am_fetch 58 8 = some (.getfield 20, 3, 3, 5, 2) := by decide +kernel
theorem fe_58_11 : am_fetch 58 11 = some (.iconst 0, 1, 0, 0, 0) := by decide +kernel
theorem fe_58_12 : am_fetch 58 12 = some (.iload_n 1, 1, 1, 0, 0) := by decide +kernel
theorem fe_58_13 : am_fetch 58 13 = some (.invokevirtual 52, 3, 7, 4, 0) := by decide +kernel
theorem fe_58_16 : am_fetch 58 16 = some (.iconst 0, 1, 0, 0, 0) := by decide +kernel
theorem fe_58_17 : am_fetch 58 17 = some (.istore_n 3, 1, 1, 0, 0) := by decide +kernel
theorem fe_58_18 : am_fetch 58 18 = some (.iload_n 3, 1, 1, 0, 0) := by decide +kernel
theorem fe_58_19 : am_fetch 58 19 = some (.aload_n 0, 1, 1, 0, 0) := by decide +kernel
theorem fe_58_20 : am_fetch 58 20 = some (.getfield 26, 3, 3, 5, 0) := by decide +kernel
theorem fe_58_23 : am_fetch 58 23 = some (.getfield 66, 3, 3, 101, 0) := by decide +kernel
theorem fe_58_26 : am_fetch 58 26 = some (.if_icmp .ge 78, 3, 2, 104, 0) := by decide +kernel
theorem fe_58_29 : am_fetch 58 29 = some (.aload_n 0, 1, 1, 0, 0) := by decide +kernel
theorem fe_58_30 : am_fetch 58 30 = some (.getfield 26, 3, 3, 5, 0) := by decide +kernel
theorem fe_58_33 : am_fetch 58 33 = some (.getfield 30, 3, 3, 101, 1) := by decide +kernel
theorem fe_58_36 : am_fetch 58 36 = some (.iload_n 3, 1, 1, 0, 0) := by decide +kernel
theorem fe_58_37 : am_fetch 58 37 = some (.invokevirtual 48, 3, 7, 12, 0) := by decide +kernel
theorem fe_58_40 : am_fetch 58 40 = some (.istore 4, 2, 1, 0, 0) := by decide +kernel
theorem fe_58_42 : am_fetch 58 42 = some (.aload_n 0, 1, 1, 0, 0) := by decide +kernel
theorem fe_58_43 : am_fetch 58 43 = some (.getfield 20, 3, 3, 5, 2) := by decide +kernel
theorem fe_58_46 : am_fetch 58 46 = some (.iload_n 3, 1, 1, 0, 0) := by decide +kernel
theorem fe_58_47 : am_fetch 58 47 = some (.invokevirtual 48, 3, 7, 12, 0) := by decide +kernel
theorem fe_58_50 : am_fetch 58 50 = some (.istore 5, 2, 1, 0, 0) := by decide +kernel
theorem fe_58_52 : am_fetch 58 52 = some (.aload_n 0, 1, 1, 0, 0) := by decide +kernel
theorem fe_58_53 : am_fetch 58 53 = some (.getfield 20, 3, 3, 5, 2) := by decide +kernel
theorem fe_58_56 : am_fetch 58 56 = some (.aload_n 0, 1, 1, 0, 0) := by decide +kernel
theorem fe_58_57 : am_fetch 58 57 = some (.getfield 26, 3, 3, 5, 0) := by decide +kernel
theorem fe_58_60 : am_fetch 58 60 = some (.iload_n 3, 1, 1, 0, 0) := by decide +kernel
theorem fe_58_61 : am_fetch 58 61 = some (.iload 4, 2, 1, 0, 0) := by decide +kernel
theorem fe_58_63 : am_fetch 58 63 = some (.invokevirtual 55, 3, 7, 31, 0) := by decide +kernel
theorem fe_58_66 : am_fetch 58 66 = some (.iload 5, 2, 1, 0, 0) := by decide +kernel
theorem fe_58_68 : am_fetch 58 68 = some (.iconst 1, 1, 0, 0, 0) := by decide +kernel
theorem fe_58_69 : am_fetch 58 69 = some (.iadd, 1, 0, 0, 0) := by decide +kernel
theorem fe_58_70 : am_fetch 58 70 = some (.iconst 2, 1, 0, 0, 0) := by decide +kernel
theorem fe_58_71 : am_fetch 58 71 = some (.idiv, 1, 0, 0, 0) := by decide +kernel
theorem fe_58_72 : am_fetch 58 72 = some (.invokevirtual 44, 3, 7, 18, 0) := by decide +kernel
theorem fe_58_75 : am_fetch 58 75 = some (.aload_n 0, 1, 1, 0, 0) := by decide +kernel
theorem fe_58_76 : am_fetch 58 76 = some (.getfield 20, 3, 3, 5, 2) := by decide +kernel
theorem fe_58_79 : am_fetch 58 79 = some (.aload_n 0, 1, 1, 0, 0) := by decide +kernel
theorem fe_58_80 : am_fetch 58 80 = some (.getfield 26, 3, 3, 5, 0) := by decide +kernel
theorem fe_58_83 : am_fetch 58 83 = some (.iload_n 3, 1, 1, 0, 0) := by decide +kernel
theorem fe_58_84 : am_fetch 58 84 = some (.iconst 1, 1, 0, 0, 0) := by decide +kernel
theorem fe_58_85 : am_fetch 58 85 = some (.iload 4, 2, 1, 0, 0) := by decide +kernel
theorem fe_58_87 : am_fetch 58 87 = some (.isub, 1, 0, 0, 0) := by decide +kernel
theorem fe_58_88 : am_fetch 58 88 = some (.invokevirtual 55, 3, 7, 31, 0) := by decide +kernel
theorem fe_58_91 : am_fetch 58 91 = some (.iload 5, 2, 1, 0, 0) := by decide +kernel
theorem fe_58_93 : am_fetch 58 93 = some (.iconst 2, 1, 0, 0, 0) := by decide +kernel
theorem fe_58_94 : am_fetch 58 94 = some (.idiv, 1, 0, 0, 0) := by decide +kernel
theorem fe_58_95 : am_fetch 58 95 = some (.invokevirtual 44, 3, 7, 18, 0) := by decide +kernel
theorem fe_58_98 : am_fetch 58 98 = some (.iinc 3 1, 3, 1, 0, 0) := by decide +kernel
theorem fe_58_101 : am_fetch 58 101 = some (.goto (-83), 3, 2, 18, 0) := by decide +kernel
theorem fe_58_104 : am_fetch 58 104 = some (.aload_n 0, 1, 1, 0, 0) := by decide +kernel
theorem fe_58_105 : am_fetch 58 105 = some (.getfield 20, 3, 3, 5, 2) := by decide +kernel
theorem fe_58_108 : am_fetch 58 108 = some (.iload_n 2, 1, 1, 0, 0) := by decide +kernel
theorem fe_58_109 : am_fetch 58 109 = some (.invokevirtual 48, 3, 7, 12, 0) := by decide +kernel
theorem fe_58_112 : am_fetch 58 112 = some (.ireturn, 1, 8, 0, 0) := by decide +kernel
theorem fe_59_0 : am_fetch 59 0 = some (.aload_n 0, 1, 1, 0, 0) := by decide +kernel
theorem fe_59_1 : am_fetch 59 1 = some (.getfield 12, 3, 3, 10, 0) := by decide +kernel
theorem fe_59_4 : am_fetch 59 4 = some (.getfield 18, 3, 3, 107, 8) := by decide +kernel
theorem fe_59_7 : am_fetch 59 7 = some (.iload_n 2, 1, 1, 0, 0) := by decide +kernel
theorem fe_59_8 : am_fetch 59 8 = some (.invokevirtual 99, 3, 7, 55, 0) := by decide +kernel
theorem fe_59_11 : am_fetch 59 11 = some (.ifCond .ne 14, 3, 2, 25, 0) := by decide +kernel
theorem fe_59_14 : am_fetch 59 14 = some (.new 102, 3, 9, 2, 0) := by decide +kernel
theorem fe_59_17 : am_fetch 59 17 = some (.dup, 1, 0, 0, 0) := by decide +kernel
theorem fe_59_25 : am_fetch 59 25 = some (.iload_n 1, 1, 1, 0, 0) := by decide +kernel
theorem fe_59_26 : am_fetch 59 26 = some (.invokestatic 358, 3, 7, 56, 0) := by decide +kernel
theorem fe_59_29 : am_fetch 59 29 = some (.ifCond .eq 12, 3, 2, 41, 0) := by decide +kernel
theorem fe_59_32 : am_fetch 59 32 = some (.iload_n 3, 1, 1, 0, 0) := by decide +kernel
theorem fe_59_33 : am_fetch 59 33 = some (.ifCond .eq 19, 3, 2, 52, 0) := by decide +kernel
theorem fe_59_36 : am_fetch 59 36 = some (.iload_n 3, 1, 1, 0, 0) := by decide +kernel
theorem fe_59_37 : am_fetch 59 37 = some (.iconst 1, 1, 0, 0, 0) := by decide +kernel
theorem fe_59_38 : am_fetch 59 38 = some (.if_icmp .eq 14, 3, 2, 52, 0) := by decide +kernel
theorem fe_59_41 : am_fetch 59 41 = some (.new 69, 3, 9, 0, 0) := by decide +kernel
theorem fe_59_44 : am_fetch 59 44 = some (.dup, 1, 0, 0, 0) := by decide +kernel
theorem fe_59_52 : am_fetch 59 52 = some (.iload_n 3, 1, 1, 0, 0) := by decide +kernel
theorem fe_59_53 : am_fetch 59 53 = some (.ifCond .ne 15, 3, 2, 68, 0) := by decide +kernel
theorem fe_59_56 : am_fetch 59 56 = some (.aload_n 0, 1, 1, 0, 0) := by decide +kernel
theorem fe_59_57 : am_fetch 59 57 = some (.getfield 25, 3, 3, 10, 1) := by decide +kernel
theorem fe_59_60 : am_fetch 59 60 = some (.iload_n 1, 1, 1, 0, 0) := by decide +kernel
theorem fe_59_61 : am_fetch 59 61 = some (.iload_n 2, 1, 1, 0, 0) := by decide +kernel
theorem fe_59_62 : am_fetch 59 62 = some (.invokevirtual 363, 3, 7, 57, 0) := by decide +kernel
theorem fe_59_65 : am_fetch 59 65 = some (.goto 12, 3, 2, 77, 0) := by decide +kernel
theorem fe_59_68 : am_fetch 59 68 = some (.aload_n 0, 1, 1, 0, 0) := by decide +kernel
theorem fe_59_69 : am_fetch 59 69 = some (.getfield 25, 3, 3, 10, 1) := by decide +kernel
theorem fe_59_72 : am_fetch 59 72 = some (.iload_n 1, 1, 1, 0, 0) := by decide +kernel
theorem fe_59_73 : am_fetch 59 73 = some (.iload_n 2, 1, 1, 0, 0) := by decide +kernel
theorem fe_59_74 : am_fetch 59 74 = some (.invokevirtual 366, 3, 7, 58, 0) := by decide +kernel
theorem fe_59_77 : am_fetch 59 77 = some (.ireturn, 1, 8, 0, 0) := by decide +kernel
theorem fe_60_0 : am_fetch 60 0 = some (.aload_n 0, 1, 1, 0, 0) := by decide +kernel
theorem fe_60_1 : am_fetch 60 1 = some (.getfield 26, 3, 3, 5, 0) := by decide +kernel
theorem fe_60_4 : am_fetch 60 4 = some (.getfield 30, 3, 3, 101, 1) := by decide +kernel
theorem fe_60_7 : am_fetch 60 7 = some (.iload_n 2, 1, 1, 0, 0) := by decide +kernel
theorem fe_60_8 : am_fetch 60 8 = some (.invokevirtual 48, 3, 7, 12, 0) := by decide +kernel
theorem fe_60_11 : am_fetch 60 11 = some (.aload_n 0, 1, 1, 0, 0) := by decide +kernel
theorem fe_60_12 : am_fetch 60 12 = some (.iload_n 1, 1, 1, 0, 0) := by decide +kernel
theorem fe_60_13 : am_fetch 60 13 = some (.iload_n 2, 1, 1, 0, 0) := by decide +kernel
theorem fe_60_14 : am_fetch 60 14 = some (.invokevirtual 70, 3, 7, 58, 0) := by decide +kernel
theorem fe_60_17 : am_fetch 60 17 = some (.iadd, 1, 0, 0, 0) := by decide +kernel
theorem fe_60_18 : am_fetch 60 18 = some (.iconst 2, 1, 0, 0, 0) := by decide +kernel
theorem fe_60_19 : am_fetch 60 19 = some (.irem, 1, 0, 0, 0) := by decide +kernel
theorem fe_60_20 : am_fetch 60 20 = some (.ireturn, 1, 8, 0, 0) := by decide +kernel
theorem fe_61_0 : am_fetch 61 0 = some (.aload_n 0, 1, 1, 0, 0) := by decide +kernel
theorem fe_61_1 : am_fetch 61 1 = some (.getfield 12, 3, 3, 10, 0) := by decide +kernel
theorem fe_61_4 : am_fetch 61 4 = some (.getfield 18, 3, 3, 107, 8) := by decide +kernel
theorem fe_61_7 : am_fetch 61 7 = some (.iload_n 2, 1, 1, 0, 0) := by decide +kernel
theorem fe_61_8 : am_fetch 61 8 = some (.invokevirtual 113, 3, 7, 34, 0) := by decide +kernel
theorem fe_61_11 : am_fetch 61 11 = some (.ifCond .ne 13, 3, 2, 24, 0) := by decide +kernel
theorem fe_61_14 : am_fetch 61 14 = some (.new 102, 3, 9, 2, 0) := by decide +kernel
theorem fe_61_17 : am_fetch 61 17 = some (.dup, 1, 0, 0, 0) := by decide +kernel
theorem fe_61_24 : am_fetch 61 24 = some (.iload_n 1, 1, 1, 0, 0) := by decide +kernel
theorem fe_61_25 : am_fetch 61 25 = some (.invokestatic 358, 3, 7, 56, 0) := by decide +kernel
theorem fe_61_28 : am_fetch 61 28 = some (.ifCond .ne 14, 3, 2, 42, 0) := by decide +kernel
theorem fe_61_31 : am_fetch 61 31 = some (.new 69, 3, 9, 0, 0) := by decide +kernel
theorem fe_61_34 : am_fetch 61 34 = some (.dup, 1, 0, 0, 0) := by decide +kernel
theorem fe_61_42 : am_fetch 61 42 = some (.aload_n 0, 1, 1, 0, 0) := by decide +kernel
theorem fe_61_43 : am_fetch 61 43 = some (.getfield 25, 3, 3, 10, 1) := by decide +kernel
theorem fe_61_46 : am_fetch 61 46 = some (.iload_n 1, 1, 1, 0, 0) := by decide +kernel
theorem fe_61_47 : am_fetch 61 47 = some (.iload_n 2, 1, 1, 0, 0) := by decide +kernel
theorem fe_61_48 : am_fetch 61 48 = some (.invokevirtual 371, 3, 7, 60, 0) := by decide +kernel
theorem fe_61_51 : am_fetch 61 51 = some (.ireturn, 1, 8, 0, 0) := by decide +kernel
theorem fe_62_0 : am_fetch 62 0 = some (.aload_n 0, 1, 1, 0, 0) := by decide +kernel
theorem fe_62_1 : am_fetch 62 1 = some (.getfield 26, 3, 3, 5, 0) := by decide +kernel
theorem fe_62_4 : am_fetch 62 4 = some (.iconst 0, 1, 0, 0, 0) := by decide +kernel
theorem fe_62_5 : am_fetch 62 5 = some (.invokevirtual 40, 3, 7, 34, 0) := by decide +kernel
theorem fe_62_8 : am_fetch 62 8 = some (.ifCond .ne 5, 3, 2, 13, 0) := by decide +kernel
theorem fe_62_11 : am_fetch 62 11 = some (.iconst (-1), 1, 0, 0, 0) := by decide +kernel
theorem fe_62_12 : am_fetch 62 12 = some (.ireturn, 1, 8, 0, 0) := by decide +kernel
theorem fe_62_13 : am_fetch 62 13 = some (.aload_n 0, 1, 1, 0, 0) := by decide +kernel
theorem fe_62_14 : am_fetch 62 14 = some (.invokevirtual 59, 3, 7, 50, 0) := by decide +kernel
theorem fe_62_17 : am_fetch 62 17 = some (.iconst 0, 1, 0, 0, 0) := by decide +kernel
theorem fe_62_18 : am_fetch 62 18 = some (.istore_n 2, 1, 1, 0, 0) := by decide +kernel
theorem fe_62_19 : am_fetch 62 19 = some (.iload_n 2, 1, 1, 0, 0) := by decide +kernel
theorem fe_62_20 : am_fetch 62 20 = some (.iload_n 1, 1, 1, 0, 0) := by decide +kernel
theorem fe_62_21 : am_fetch 62 21 = some (.if_icmp .ge 14, 3, 2, 35, 0) := by decide +kernel
theorem fe_62_24 : am_fetch 62 24 = some (.aload_n 0, 1, 1, 0, 0) := by decide +kernel
theorem fe_62_25 : am_fetch 62 25 = some (.invokevirtual 62, 3, 7, 51, 0) := by decide +kernel
theorem fe_62_28 : am_fetch 62 28 = some (.pop, 1, 0, 0, 0) := by decide +kernel
theorem fe_62_29 : am_fetch 62 29 = some (.iinc 2 1, 3, 1, 0, 0) := by decide +kernel
theorem fe_62_32 : am_fetch 62 32 = some (.goto (-13), 3, 2, 19, 0) := by decide +kernel
theorem fe_62_35 : am_fetch 62 35 = some (.aload_n 0, 1, 1, 0, 0) := by decide +kernel
theorem fe_62_36 : am_fetch 62 36 = some (.invokevirtual 62, 3, 7, 51, 0) := by decide +kernel
theorem fe_62_39 : am_fetch 62 39 = some (.ireturn, 1, 8, 0, 0) := by decide +kernel
theorem fe_63_0 : am_fetch 63 0 = some (.iload_n 1, 1, 1, 0, 0) := by decide +kernel
theorem fe_63_1 : am_fetch 63 1 = some (.ifCond .lt 10, 3, 2, 11, 0) := by decide +kernel
theorem fe_63_4 : am_fetch 63 4 = some (.iload_n 1, 1, 1, 0, 0) := by decide +kernel
theorem fe_63_5 : am_fetch 63 5 = some (.sipush 1000, 3, 0, 0, 0) := by decide +kernel
theorem fe_63_8 : am_fetch 63 8 = some (.if_icmp .lt 14, 3, 2, 22, 0) := by decide +kernel
theorem fe_63_11 : am_fetch 63 11 = some (.new 69, 3, 9, 0, 0) := by decide +kernel
theorem fe_63_14 : am_fetch 63 14 = some (.dup, 1, 0, 0, 0) := by decide +kernel
theorem fe_63_22 : am_fetch 63 22 = some (.aload_n 0, 1, 1, 0, 0) := by decide +kernel
theorem fe_63_23 : am_fetch 63 23 = some (.getfield 25, 3, 3, 10, 1) := by decide +kernel
theorem fe_63_26 : am_fetch 63 26 = some (.iload_n 1, 1, 1, 0, 0) := by decide +kernel
theorem fe_63_27 : am_fetch 63 27 = some (.invokevirtual 376, 3, 7, 62, 0) := by decide +kernel
theorem fe_63_30 : am_fetch 63 30 = some (.ireturn, 1, 8, 0, 0) := by decide +kernel
theorem fe_64_0 : am_fetch 64 0 = some (.aload_n 0, 1, 1, 0, 0) := by decide +kernel
theorem fe_64_1 : am_fetch 64 1 = some (.getfield 26, 3, 3, 5, 0) := by decide +kernel
theorem fe_64_4 : am_fetch 64 4 = some (.iconst 0, 1, 0, 0, 0) := by decide +kernel
theorem fe_64_5 : am_fetch 64 5 = some (.invokevirtual 40, 3, 7, 34, 0) := by decide +kernel
theorem fe_64_8 : am_fetch 64 8 = some (.ifCond .ne 5, 3, 2, 13, 0) := by decide +kernel
theorem fe_64_11 : am_fetch 64 11 = some (.iconst (-1), 1, 0, 0, 0) := by decide +kernel
theorem fe_64_12 : am_fetch 64 12 = some (.ireturn, 1, 8, 0, 0) := by decide +kernel
theorem fe_64_13 : am_fetch 64 13 = some (.aload_n 0, 1, 1, 0, 0) := by decide +kernel
theorem fe_64_14 : am_fetch 64 14 = some (.invokevirtual 59, 3, 7, 50, 0) := by decide +kernel
theorem fe_64_17 : am_fetch 64 17 = some (.iconst 0, 1, 0, 0, 0) := by decide +kernel
theorem fe_64_18 : am_fetch 64 18 = some (.istore_n 2, 1, 1, 0, 0) := by decide +kernel
theorem fe_64_19 : am_fetch 64 19 = some (.iload_n 2, 1, 1, 0, 0) := by decide +kernel
theorem fe_64_20 : am_fetch 64 20 = some (.sipush 4096, 3, 0, 0, 0) := by decide +kernel
theorem fe_64_23 : am_fetch 64 23 = some (.if_icmp .ge 19, 3, 2, 42, 0) := by decide +kernel
theorem fe_64_26 : am_fetch 64 26 = some (.aload_n 0, 1, 1, 0, 0) := by decide +kernel
theorem fe_64_27 : am_fetch 64 27 = some (.invokevirtual 62, 3, 7, 51, 0) := by decide +kernel
theorem fe_64_30 : am_fetch 64 30 = some (.iload_n 1, 1, 1, 0, 0) := by decide +kernel
theorem fe_64_31 : am_fetch 64 31 = some (.if_icmp .ne 5, 3, 2, 36, 0) := by decide +kernel
theorem fe_64_34 : am_fetch 64 34 = some (.iload_n 2, 1, 1, 0, 0) := by decide +kernel
theorem fe_64_35 : am_fetch 64 35 = some (.ireturn, 1, 8, 0, 0) := by decide +kernel
theorem fe_64_36 : am_fetch 64 36 = some (.iinc 2 1, 3, 1, 0, 0) := by decide +kernel
theorem fe_64_39 : am_fetch 64 39 = some (.goto (-20), 3, 2, 19, 0) := by decide +kernel
theorem fe_64_42 : am_fetch 64 42 = some (.iconst (-1), 1, 0, 0, 0) := by decide +kernel
theorem fe_64_43 : am_fetch 64 43 = some (.ireturn, 1, 8, 0, 0) := by decide +kernel
theorem fe_65_0 : am_fetch 65 0 = some (.iload_n 1, 1, 1, 0, 0) := by decide +kernel
theorem fe_65_1 : am_fetch 65 1 = some (.invokestatic 153, 3, 7, 30, 0) := by decide +kernel
theorem fe_65_4 : am_fetch 65 4 = some (.ifCond .ne 13, 3, 2, 17, 0) := by decide +kernel
theorem fe_65_7 : am_fetch 65 7 = some (.new 102, 3, 9, 2, 0) := by decide +kernel
theorem fe_65_10 : am_fetch 65 10 = some (.dup, 1, 0, 0, 0) := by decide +kernel
theorem fe_65_17 : am_fetch 65 17 = some (.aload_n 0, 1, 1, 0, 0) := by decide +kernel
theorem fe_65_18 : am_fetch 65 18 = some (.getfield 25, 3, 3, 10, 1) := by decide +kernel
theorem fe_65_21 : am_fetch 65 21 = some (.iload_n 1, 1, 1, 0, 0) := by decide +kernel
theorem fe_65_22 : am_fetch 65 22 = some (.invokevirtual 379, 3, 7, 64, 0) := by decide +kernel
theorem fe_65_25 : am_fetch 65 25 = some (.ireturn, 1, 8, 0, 0) := by decide +kernel
theorem fe_66_0 : am_fetch 66 0 = some (.aload_n 0, 1, 1, 0, 0) := by decide +kernel
theorem fe_66_1 : am_fetch 66 1 = some (.iconst 1, 1, 0, 0, 0) := by decide +kernel
theorem fe_66_2 : am_fetch 66 2 = some (.invokevirtual 20, 3, 7, 14, 0) := by decide +kernel
theorem fe_66_5 : am_fetch 66 5 = some (.istore_n 2, 1, 1, 0, 0) := by decide +kernel
theorem fe_66_6 : am_fetch 66 6 = some (.iconst 0, 1, 0, 0, 0) := by decide +kernel
theorem fe_66_7 : am_fetch 66 7 = some (.istore_n 3, 1, 1, 0, 0) := by decide +kernel
theorem fe_66_8 : am_fetch 66 8 = some (.aload_n 0, 1, 1, 0, 0) := by decide +kernel
theorem fe_66_9 : am_fetch 66 9 = some (.invokevirtual 52, 3, 7, 54, 0) := by decide +kernel
theorem fe_66_12 : am_fetch 66 12 = some (.istore 4, 2, 1, 0, 0) := by decide +kernel
theorem fe_66_14 : am_fetch 66 14 = some (.iconst 0, 1, 0, 0, 0) := by decide +kernel
theorem fe_66_15 : am_fetch 66 15 = some (.istore 5, 2, 1, 0, 0) := by decide +kernel
theorem fe_66_17 : am_fetch 66 17 = some (.iload 5, 2, 1, 0, 0) := by decide +kernel
theorem fe_66_19 : am_fetch 66 19 = some (.bipush 25, 2, 0, 0, 0) := by decide +kernel
theorem fe_66_21 : am_fetch 66 21 = some (.if_icmp .ge 104, 3, 2, 125, 0) := by decide +kernel
theorem fe_66_24 : am_fetch 66 24 = some (.iload 5, 2, 1, 0, 0) := by decide +kernel
theorem fe_66_26 : am_fetch 66 26 = some (.iload_n 2, 1, 1, 0, 0) := by decide +kernel
theorem fe_66_27 : am_fetch 66 27 = some (.if_icmp .lt 10, 3, 2, 37, 0) := by decide +kernel
theorem fe_66_30 : am_fetch 66 30 = some (.iload 5, 2, 1, 0, 0) := by decide +kernel
theorem fe_66_32 : am_fetch 66 32 = some (.bipush 19, 2, 0, 0, 0) := by decide +kernel
theorem fe_66_34 : am_fetch 66 34 = some (.if_icmp .le 85, 3, 2, 119, 0) := by decide +kernel
theorem fe_66_37 : am_fetch 66 37 = some (.aload_n 0, 1, 1, 0, 0) := by decide +kernel
theorem fe_66_38 : am_fetch 66 38 = some (.iload_n 1, 1, 1, 0, 0) := by decide +kernel
theorem fe_66_39 : am_fetch 66 39 = some (.iload 5, 2, 1, 0, 0) := by decide +kernel
theorem fe_66_41 : am_fetch 66 41 = some (.iconst 0, 1, 0, 0, 0) := by decide +kernel
theorem fe_66_42 : am_fetch 66 42 = some (.invokevirtual 56, 3, 7, 59, 0) := by decide +kernel
theorem fe_66_45 : am_fetch 66 45 = some (.istore 6, 2, 1, 0, 0) := by decide +kernel
theorem fe_66_47 : am_fetch 66 47 = some (.iload_n 3, 1, 1, 0, 0) := by decide +kernel
theorem fe_66_48 : am_fetch 66 48 = some (.iload 5, 2, 1, 0, 0) := by decide +kernel
theorem fe_66_50 : am_fetch 66 50 = some (.bipush 19, 2, 0, 0, 0) := by decide +kernel
theorem fe_66_52 : am_fetch 66 52 = some (.if_icmp .le 8, 3, 2, 60, 0) := by decide +kernel
theorem fe_66_55 : am_fetch 66 55 = some (.iload 6, 2, 1, 0, 0) := by decide +kernel
theorem fe_66_57 : am_fetch 66 57 = some (.goto 4, 3, 2, 61, 0) := by decide +kernel
theorem fe_66_60 : am_fetch 66 60 = some (.iconst 0, 1, 0, 0, 0) := by decide +kernel
theorem fe_66_61 : am_fetch 66 61 = some (.iadd, 1, 0, 0, 0) := by decide +kernel
theorem fe_66_62 : am_fetch 66 62 = some (.istore_n 3, 1, 1, 0, 0) := by decide +kernel
theorem fe_66_63 : am_fetch 66 63 = some (.iload 6, 2, 1, 0, 0) := by decide +kernel
theorem fe_66_65 : am_fetch 66 65 = some (.aload_n 0, 1, 1, 0, 0) := by decide +kernel
theorem fe_66_66 : am_fetch 66 66 = some (.iload_n 1, 1, 1, 0, 0) := by decide +kernel
theorem fe_66_67 : am_fetch 66 67 = some (.iload 5, 2, 1, 0, 0) := by decide +kernel
theorem fe_66_69 : am_fetch 66 69 = some (.iconst 1, 1, 0, 0, 0) := by decide +kernel
theorem fe_66_70 : am_fetch 66 70 = some (.invokevirtual 56, 3, 7, 59, 0) := by decide +kernel
theorem fe_66_73 : am_fetch 66 73 = some (.if_icmp .ne 44, 3, 2, 117, 0) := by decide +kernel
theorem fe_66_76 : am_fetch 66 76 = some (.iload 5, 2, 1, 0, 0) := by decide +kernel
theorem fe_66_78 : am_fetch 66 78 = some (.iload_n 2, 1, 1, 0, 0) := by decide +kernel
theorem fe_66_79 : am_fetch 66 79 = some (.if_icmp .ge 25, 3, 2, 104, 0) := by decide +kernel
theorem fe_66_82 : am_fetch 66 82 = some (.aload_n 0, 1, 1, 0, 0) := by decide +kernel
theorem fe_66_83 : am_fetch 66 83 = some (.iload_n 1, 1, 1, 0, 0) := by decide +kernel
theorem fe_66_84 : am_fetch 66 84 = some (.iload 5, 2, 1, 0, 0) := by decide +kernel
theorem fe_66_86 : am_fetch 66 86 = some (.invokevirtual 60, 3, 7, 61, 0) := by decide +kernel
theorem fe_66_89 : am_fetch 66 89 = some (.aload_n 0, 1, 1, 0, 0) := by decide +kernel
theorem fe_66_90 : am_fetch 66 90 = some (.iload 5, 2, 1, 0, 0) := by decide +kernel
theorem fe_66_92 : am_fetch 66 92 = some (.iconst 0, 1, 0, 0, 0) := by decide +kernel
theorem fe_66_93 : am_fetch 66 93 = some (.invokevirtual 23, 3, 7, 44, 0) := by decide +kernel
theorem fe_66_96 : am_fetch 66 96 = some (.iload 6, 2, 1, 0, 0) := by decide +kernel
theorem fe_66_98 : am_fetch 66 98 = some (.iadd, 1, 0, 0, 0) := by decide +kernel
theorem fe_66_99 : am_fetch 66 99 = some (.iconst 2, 1, 0, 0, 0) := by decide +kernel
theorem fe_66_100 : am_fetch 66 100 = some (.irem, 1, 0, 0, 0) := by decide +kernel
theorem fe_66_101 : am_fetch 66 101 = some (.if_icmp .ne 16, 3, 2, 117, 0) := by decide +kernel
theorem fe_66_104 : am_fetch 66 104 = some (.aload_n 0, 1, 1, 0, 0) := by decide +kernel
theorem fe_66_105 : am_fetch 66 105 = some (.iconst 0, 1, 0, 0, 0) := by decide +kernel
theorem fe_66_106 : am_fetch 66 106 = some (.iload 5, 2, 1, 0, 0) := by decide +kernel
theorem fe_66_108 : am_fetch 66 108 = some (.iload_n 1, 1, 1, 0, 0) := by decide +kernel
theorem fe_66_109 : am_fetch 66 109 = some (.iconst 2, 1, 0, 0, 0) := by decide +kernel
theorem fe_66_110 : am_fetch 66 110 = some (.irem, 1, 0, 0, 0) := by decide +kernel
theorem fe_66_111 : am_fetch 66 111 = some (.invokevirtual 56, 3, 7, 59, 0) := by decide +kernel
theorem fe_66_114 : am_fetch 66 114 = some (.ifCond .eq 5, 3, 2, 119, 0) := by decide +kernel
theorem fe_66_117 : am_fetch 66 117 = some (.iconst 0, 1, 0, 0, 0) := by decide +kernel
theorem fe_66_118 : am_fetch 66 118 = some (.ireturn, 1, 8, 0, 0) := by decide +kernel
theorem fe_66_119 : am_fetch 66 119 = some (.iinc 5 1, 3, 1, 0, 0) := by decide +kernel
theorem fe_66_122 : am_fetch 66 122 = some (.goto (-105), 3, 2, 17, 0) := by decide +kernel
theorem fe_66_125 : am_fetch 66 125 = some (.iload_n 2, 1, 1, 0, 0) := by decide +kernel
theorem fe_66_126 : am_fetch 66 126 = some (.ifCond .ne 43, 3, 2, 169, 0) := by decide +kernel
theorem fe_66_129 : am_fetch 66 129 = some (.iload_n 3, 1, 1, 0, 0) := by decide +kernel
theorem fe_66_130 : am_fetch 66 130 = some (.ifCond .ne 37, 3, 2, 167, 0) := by decide +kernel
theorem fe_66_133 : am_fetch 66 133 = some (.iload 4, 2, 1, 0, 0) := by decide +kernel
theorem fe_66_135 : am_fetch 66 135 = some (.iconst (-1), 1, 0, 0, 0) := by decide +kernel
theorem fe_66_136 : am_fetch 66 136 = some (.if_icmp .ne 31, 3, 2, 167, 0) := by decide +kernel
theorem fe_66_139 : am_fetch 66 139 = some (.aload_n 0, 1, 1, 0, 0) := by decide +kernel
theorem fe_66_140 : am_fetch 66 140 = some (.iload_n 1, 1, 1, 0, 0) := by decide +kernel
theorem fe_66_141 : am_fetch 66 141 = some (.sipush 1000, 3, 0, 0, 0) := by decide +kernel
theorem fe_66_144 : am_fetch 66 144 = some (.irem, 1, 0, 0, 0) := by decide +kernel
theorem fe_66_145 : am_fetch 66 145 = some (.invokevirtual 63, 3, 7, 63, 0) := by decide +kernel
theorem fe_66_148 : am_fetch 66 148 = some (.iconst (-1), 1, 0, 0, 0) := by decide +kernel
theorem fe_66_149 : am_fetch 66 149 = some (.if_icmp .ne 18, 3, 2, 167, 0) := by decide +kernel
theorem fe_66_152 : am_fetch 66 152 = some (.aload_n 0, 1, 1, 0, 0) := by decide +kernel
theorem fe_66_153 : am_fetch 66 153 = some (.iload_n 1, 1, 1, 0, 0) := by decide +kernel
theorem fe_66_154 : am_fetch 66 154 = some (.iconst 5, 1, 0, 0, 0) := by decide +kernel
theorem fe_66_155 : am_fetch 66 155 = some (.irem, 1, 0, 0, 0) := by decide +kernel
theorem fe_66_156 : am_fetch 66 156 = some (.invokevirtual 66, 3, 7, 65, 0) := by decide +kernel
theorem fe_66_159 : am_fetch 66 159 = some (.iconst (-1), 1, 0, 0, 0) := by decide +kernel
theorem fe_66_160 : am_fetch 66 160 = some (.if_icmp .ne 7, 3, 2, 167, 0) := by decide +kernel
theorem fe_66_163 : am_fetch 66 163 = some (.iconst 1, 1, 0, 0, 0) := by decide +kernel
theorem fe_66_164 : am_fetch 66 164 = some (.goto 4, 3, 2, 168, 0) := by decide +kernel
theorem fe_66_167 : am_fetch 66 167 = some (.iconst 0, 1, 0, 0, 0) := by decide +kernel
theorem fe_66_168 : am_fetch 66 168 = some (.ireturn, 1, 8, 0, 0) := by decide +kernel
theorem fe_66_169 : am_fetch 66 169 = some (.iload_n 3, 1, 1, 0, 0) := by decide +kernel
theorem fe_66_170 : am_fetch 66 170 = some (.iload_n 1, 1, 1, 0, 0) := by decide +kernel
theorem fe_66_171 : am_fetch 66 171 = some (.if_icmp .ne 41, 3, 2, 212, 0) := by decide +kernel
theorem fe_66_174 : am_fetch 66 174 = some (.aload_n 0, 1, 1, 0, 0) := by decide +kernel
theorem fe_66_175 : am_fetch 66 175 = some (.iload_n 1, 1, 1, 0, 0) := by decide +kernel
theorem fe_66_176 : am_fetch 66 176 = some (.iconst 0, 1, 0, 0, 0) := by decide +kernel
theorem fe_66_177 : am_fetch 66 177 = some (.iconst 1, 1, 0, 0, 0) := by decide +kernel
theorem fe_66_178 : am_fetch 66 178 = some (.invokevirtual 56, 3, 7, 59, 0) := by decide +kernel
theorem fe_66_181 : am_fetch 66 181 = some (.iload_n 1, 1, 1, 0, 0) := by decide +kernel
theorem fe_66_182 : am_fetch 66 182 = some (.if_icmp .ne 30, 3, 2, 212, 0) := by decide +kernel
theorem fe_66_185 : am_fetch 66 185 = some (.iload 4, 2, 1, 0, 0) := by decide +kernel
theorem fe_66_187 : am_fetch 66 187 = some (.iload 4, 2, 1, 0, 0) := by decide +kernel
theorem fe_66_189 : am_fetch 66 189 = some (.iconst 1, 1, 0, 0, 0) := by decide +kernel
theorem fe_66_190 : am_fetch 66 190 = some (.isub, 1, 0, 0, 0) := by decide +kernel
theorem fe_66_191 : am_fetch 66 191 = some (.iand, 1, 0, 0, 0) := by decide +kernel
theorem fe_66_192 : am_fetch 66 192 = some (.ifCond .ne 20, 3, 2, 212, 0) := by decide +kernel
theorem fe_66_195 : am_fetch 66 195 = some (.iload 4, 2, 1, 0, 0) := by decide +kernel
theorem fe_66_197 : am_fetch 66 197 = some (.ifCond .le 15, 3, 2, 212, 0) := by decide +kernel
theorem fe_66_200 : am_fetch 66 200 = some (.iload 4, 2, 1, 0, 0) := by decide +kernel
theorem fe_66_202 : am_fetch 66 202 = some (.sipush 4096, 3, 0, 0, 0) := by decide +kernel
theorem fe_66_205 : am_fetch 66 205 = some (.if_icmp .gt 7, 3, 2, 212, 0) := by decide +kernel
theorem fe_66_208 : am_fetch 66 208 = some (.iconst 1, 1, 0, 0, 0) := by decide +kernel
theorem fe_66_209 : am_fetch 66 209 = some (.goto 4, 3, 2, 213, 0) := by decide +kernel
theorem fe_66_212 : am_fetch 66 212 = some (.iconst 0, 1, 0, 0, 0) := by decide +kernel
theorem fe_66_213 : am_fetch 66 213 = some (.istore 5, 2, 1, 0, 0) := by decide +kernel
theorem fe_66_215 : am_fetch 66 215 = some (.iconst 0, 1, 0, 0, 0) := by decide +kernel
theorem fe_66_216 : am_fetch 66 216 = some (.istore 6, 2, 1, 0, 0) := by decide +kernel
theorem fe_66_218 : am_fetch 66 218 = some (.iload 6, 2, 1, 0, 0) := by decide +kernel
theorem fe_66_220 : am_fetch 66 220 = some (.iload_n 2, 1, 1, 0, 0) := by decide +kernel
theorem fe_66_221 : am_fetch 66 221 = some (.if_icmp .ge 47, 3, 2, 268, 0) := by decide +kernel
theorem fe_66_224 : am_fetch 66 224 = some (.iload 4, 2, 1, 0, 0) := by decide +kernel
theorem fe_66_226 : am_fetch 66 226 = some (.sipush 1000, 3, 0, 0, 0) := by decide +kernel
theorem fe_66_229 : am_fetch 66 229 = some (.if_icmp .gt 39, 3, 2, 268, 0) := by decide +kernel
theorem fe_66_232 : am_fetch 66 232 = some (.iload 5, 2, 1, 0, 0) := by decide +kernel
theorem fe_66_234 : am_fetch 66 234 = some (.ifCond .eq 25, 3, 2, 259, 0) := by decide +kernel
theorem fe_66_237 : am_fetch 66 237 = some (.aload_n 0, 1, 1, 0, 0) := by decide +kernel
theorem fe_66_238 : am_fetch 66 238 = some (.iload 4, 2, 1, 0, 0) := by decide +kernel
theorem fe_66_240 : am_fetch 66 240 = some (.iload 6, 2, 1, 0, 0) := by decide +kernel
theorem fe_66_242 : am_fetch 66 242 = some (.invokevirtual 60, 3, 7, 61, 0) := by decide +kernel
theorem fe_66_245 : am_fetch 66 245 = some (.aload_n 0, 1, 1, 0, 0) := by decide +kernel
theorem fe_66_246 : am_fetch 66 246 = some (.iload 6, 2, 1, 0, 0) := by decide +kernel
theorem fe_66_248 : am_fetch 66 248 = some (.iconst 0, 1, 0, 0, 0) := by decide +kernel
theorem fe_66_249 : am_fetch 66 249 = some (.invokevirtual 23, 3, 7, 44, 0) := by decide +kernel
theorem fe_66_252 : am_fetch 66 252 = some (.if_icmp .ne 7, 3, 2, 259, 0) := by decide +kernel
theorem fe_66_255 : am_fetch 66 255 = some (.iconst 1, 1, 0, 0, 0) := by decide +kernel
theorem fe_66_256 : am_fetch 66 256 = some (.goto 4, 3, 2, 260, 0) := by decide +kernel
theorem fe_66_259 : am_fetch 66 259 = some (.iconst 0, 1, 0, 0, 0) := by decide +kernel
theorem fe_66_260 : am_fetch 66 260 = some (.istore 5, 2, 1, 0, 0) := by decide +kernel
theorem fe_66_262 : am_fetch 66 262 = some (.iinc 6 1, 3, 1, 0, 0) := by decide +kernel
theorem fe_66_265 : am_fetch 66 265 = some (.goto (-47), 3, 2, 218, 0) := by decide +kernel
theorem fe_66_268 : am_fetch 66 268 = some (.iload_n 1, 1, 1, 0, 0) := by decide +kernel
theorem fe_66_269 : am_fetch 66 269 = some (.ifCond .le 103, 3, 2, 372, 0) := by decide +kernel
theorem fe_66_272 : am_fetch 66 272 = some (.aload_n 0, 1, 1, 0, 0) := by decide +kernel
theorem fe_66_273 : am_fetch 66 273 = some (.iload_n 1, 1, 1, 0, 0) := by decide +kernel
theorem fe_66_274 : am_fetch 66 274 = some (.iconst 1, 1, 0, 0, 0) := by decide +kernel
theorem fe_66_275 : am_fetch 66 275 = some (.isub, 1, 0, 0, 0) := by decide +kernel
theorem fe_66_276 : am_fetch 66 276 = some (.invokevirtual 63, 3, 7, 63, 0) := by decide +kernel
theorem fe_66_279 : am_fetch 66 279 = some (.istore 6, 2, 1, 0, 0) := by decide +kernel
theorem fe_66_281 : am_fetch 66 281 = some (.aload_n 0, 1, 1, 0, 0) := by decide +kernel
theorem fe_66_282 : am_fetch 66 282 = some (.iload 6, 2, 1, 0, 0) := by decide +kernel
theorem fe_66_284 : am_fetch 66 284 = some (.invokevirtual 66, 3, 7, 65, 0) := by decide +kernel
theorem fe_66_287 : am_fetch 66 287 = some (.istore 7, 2, 1, 0, 0) := by decide +kernel
theorem fe_66_289 : am_fetch 66 289 = some (.iload 5, 2, 1, 0, 0) := by decide +kernel
theorem fe_66_291 : am_fetch 66 291 = some (.ifCond .eq 78, 3, 2, 369, 0) := by decide +kernel
theorem fe_66_294 : am_fetch 66 294 = some (.iload 6, 2, 1, 0, 0) := by decide +kernel
theorem fe_66_296 : am_fetch 66 296 = some (.ifCond .lt 73, 3, 2, 369, 0) := by decide +kernel
theorem fe_66_299 : am_fetch 66 299 = some (.aload_n 0, 1, 1, 0, 0) := by decide +kernel
theorem fe_66_300 : am_fetch 66 300 = some (.iload_n 1, 1, 1, 0, 0) := by decide +kernel
theorem fe_66_301 : am_fetch 66 301 = some (.bipush 20, 2, 0, 0, 0) := by decide +kernel
theorem fe_66_303 : am_fetch 66 303 = some (.iload 6, 2, 1, 0, 0) := by decide +kernel
theorem fe_66_305 : am_fetch 66 305 = some (.iadd, 1, 0, 0, 0) := by decide +kernel
theorem fe_66_306 : am_fetch 66 306 = some (.iconst 0, 1, 0, 0, 0) := by decide +kernel
theorem fe_66_307 : am_fetch 66 307 = some (.invokevirtual 56, 3, 7, 59, 0) := by decide +kernel
theorem fe_66_310 : am_fetch 66 310 = some (.aload_n 0, 1, 1, 0, 0) := by decide +kernel
theorem fe_66_311 : am_fetch 66 311 = some (.iload_n 1, 1, 1, 0, 0) := by decide +kernel
theorem fe_66_312 : am_fetch 66 312 = some (.iconst 1, 1, 0, 0, 0) := by decide +kernel
theorem fe_66_313 : am_fetch 66 313 = some (.isub, 1, 0, 0, 0) := by decide +kernel
theorem fe_66_314 : am_fetch 66 314 = some (.bipush 20, 2, 0, 0, 0) := by decide +kernel
theorem fe_66_316 : am_fetch 66 316 = some (.iload 6, 2, 1, 0, 0) := by decide +kernel
theorem fe_66_318 : am_fetch 66 318 = some (.iadd, 1, 0, 0, 0) := by decide +kernel
theorem fe_66_319 : am_fetch 66 319 = some (.iconst 1, 1, 0, 0, 0) := by decide +kernel
theorem fe_66_320 : am_fetch 66 320 = some (.invokevirtual 56, 3, 7, 59, 0) := by decide +kernel
theorem fe_66_323 : am_fetch 66 323 = some (.iconst 1, 1, 0, 0, 0) := by decide +kernel
theorem fe_66_324 : am_fetch 66 324 = some (.iadd, 1, 0, 0, 0) := by decide +kernel
theorem fe_66_325 : am_fetch 66 325 = some (.if_icmp .ne 44, 3, 2, 369, 0) := by decide +kernel
theorem fe_66_328 : am_fetch 66 328 = some (.iload 7, 2, 1, 0, 0) := by decide +kernel
theorem fe_66_330 : am_fetch 66 330 = some (.ifCond .lt 39, 3, 2, 369, 0) := by decide +kernel
theorem fe_66_333 : am_fetch 66 333 = some (.iload 7, 2, 1, 0, 0) := by decide +kernel
theorem fe_66_335 : am_fetch 66 335 = some (.iload_n 1, 1, 1, 0, 0) := by decide +kernel
theorem fe_66_336 : am_fetch 66 336 = some (.if_icmp .ge 33, 3, 2, 369, 0) := by decide +kernel
theorem fe_66_339 : am_fetch 66 339 = some (.aload_n 0, 1, 1, 0, 0) := by decide +kernel
theorem fe_66_340 : am_fetch 66 340 = some (.iload 7, 2, 1, 0, 0) := by decide +kernel
theorem fe_66_342 : am_fetch 66 342 = some (.invokevirtual 63, 3, 7, 63, 0) := by decide +kernel
theorem fe_66_345 : am_fetch 66 345 = some (.iload 6, 2, 1, 0, 0) := by decide +kernel
theorem fe_66_347 : am_fetch 66 347 = some (.if_icmp .ne 22, 3, 2, 369, 0) := by decide +kernel
theorem fe_66_350 : am_fetch 66 350 = some (.aload_n 0, 1, 1, 0, 0) := by decide +kernel
theorem fe_66_351 : am_fetch 66 351 = some (.iload 7, 2, 1, 0, 0) := by decide +kernel
theorem fe_66_353 : am_fetch 66 353 = some (.bipush 20, 2, 0, 0, 0) := by decide +kernel
theorem fe_66_355 : am_fetch 66 355 = some (.iload 6, 2, 1, 0, 0) := by decide +kernel
theorem fe_66_357 : am_fetch 66 357 = some (.iadd, 1, 0, 0, 0) := by decide +kernel
theorem fe_66_358 : am_fetch 66 358 = some (.iconst 0, 1, 0, 0, 0) := by decide +kernel
theorem fe_66_359 : am_fetch 66 359 = some (.invokevirtual 56, 3, 7, 59, 0) := by decide +kernel
theorem fe_66_362 : am_fetch 66 362 = some (.ifCond .ne 7, 3, 2, 369, 0) := by decide +kernel
theorem fe_66_365 : am_fetch 66 365 = some (.iconst 1, 1, 0, 0, 0) := by decide +kernel
theorem fe_66_366 : am_fetch 66 366 = some (.goto 4, 3, 2, 370, 0) := by decide +kernel
theorem fe_66_369 : am_fetch 66 369 = some (.iconst 0, 1, 0, 0, 0) := by decide +kernel
theorem fe_66_370 : am_fetch 66 370 = some (.istore 5, 2, 1, 0, 0) := by decide +kernel
theorem fe_66_372 : am_fetch 66 372 = some (.iload 5, 2, 1, 0, 0) := by decide +kernel
theorem fe_66_374 : am_fetch 66 374 = some (.ireturn, 1, 8, 0, 0) := by decide +kernel
theorem fe_67_0 : am_fetch 67 0 = some (.iconst 0, 1, 0, 0, 0) := by decide +kernel
theorem fe_67_1 : am_fetch 67 1 = some (.istore_n 1, 1, 1, 0, 0) := by decide +kernel
theorem fe_67_2 : am_fetch 67 2 = some (.iconst 0, 1, 0, 0, 0) := by decide +kernel
theorem fe_67_3 : am_fetch 67 3 = some (.istore_n 2, 1, 1, 0, 0) := by decide +kernel
theorem fe_67_4 : am_fetch 67 4 = some (.iload_n 2, 1, 1, 0, 0) := by decide +kernel
theorem fe_67_5 : am_fetch 67 5 = some (.aload_n 0, 1, 1, 0, 0) := by decide +kernel
theorem fe_67_6 : am_fetch 67 6 = some (.getfield 23, 3, 3, 3, 0) := by decide +kernel
theorem fe_67_9 : am_fetch 67 9 = some (.getfield 27, 3, 3, 108, 1) := by decide +kernel
theorem fe_67_12 : am_fetch 67 12 = some (.if_icmp .ge 20, 3, 2, 32, 0) := by decide +kernel
theorem fe_67_15 : am_fetch 67 15 = some (.iload_n 1, 1, 1, 0, 0) := by decide +kernel
theorem fe_67_16 : am_fetch 67 16 = some (.aload_n 0, 1, 1, 0, 0) := by decide +kernel
theorem fe_67_17 : am_fetch 67 17 = some (.getfield 23, 3, 3, 3, 0) := by decide +kernel
theorem fe_67_20 : am_fetch 67 20 = some (.iload_n 2, 1, 1, 0, 0) := by decide +kernel
theorem fe_67_21 : am_fetch 67 21 = some (.invokevirtual 37, 3, 7, 17, 0) := by decide +kernel
theorem fe_67_24 : am_fetch 67 24 = some (.iadd, 1, 0, 0, 0) := by decide +kernel
theorem fe_67_25 : am_fetch 67 25 = some (.istore_n 1, 1, 1, 0, 0) := by decide +kernel
theorem fe_67_26 : am_fetch 67 26 = some (.iinc 2 1, 3, 1, 0, 0) := by decide +kernel
theorem fe_67_29 : am_fetch 67 29 = some (.goto (-25), 3, 2, 4, 0) := by decide +kernel
theorem fe_67_32 : am_fetch 67 32 = some (.iload_n 1, 1, 1, 0, 0) := by decide +kernel
theorem fe_67_33 : am_fetch 67 33 = some (.ireturn, 1, 8, 0, 0) := by decide +kernel
theorem fe_68_0 : am_fetch 68 0 = some (.aload_n 0, 1, 1, 0, 0) := by decide +kernel
theorem fe_68_1 : am_fetch 68 1 = some (.getfield 12, 3, 3, 10, 0) := by decide +kernel
theorem fe_68_4 : am_fetch 68 4 = some (.getfield 31, 3, 3, 107, 10) := by decide +kernel
theorem fe_68_7 : am_fetch 68 7 = some (.getfield 319, 3, 3, 108, 1) := by decide +kernel
theorem fe_68_10 : am_fetch 68 10 = some (.istore_n 1, 1, 1, 0, 0) := by decide +kernel
theorem fe_68_11 : am_fetch 68 11 = some (.iload_n 1, 1, 1, 0, 0) := by decide +kernel
theorem fe_68_12 : am_fetch 68 12 = some (.ifCond .le 17, 3, 2, 29, 0) := by decide +kernel
theorem fe_68_15 : am_fetch 68 15 = some (.aload_n 0, 1, 1, 0, 0) := by decide +kernel
theorem fe_68_16 : am_fetch 68 16 = some (.getfield 38, 3, 3, 10, 2) := by decide +kernel
theorem fe_68_19 : am_fetch 68 19 = some (.invokevirtual 353, 3, 7, 67, 0) := by decide +kernel
theorem fe_68_22 : am_fetch 68 22 = some (.i2f, 1, 0, 0, 0) := by decide +kernel
theorem fe_68_23 : am_fetch 68 23 = some (.iload_n 1, 1, 1, 0, 0) := by decide +kernel
theorem fe_68_24 : am_fetch 68 24 = some (.i2f, 1, 0, 0, 0) := by decide +kernel
theorem fe_68_25 : am_fetch 68 25 = some (.fdiv, 1, 0, 0, 0) := by decide +kernel
theorem fe_68_26 : am_fetch 68 26 = some (.goto 4, 3, 2, 30, 0) := by decide +kernel
theorem fe_68_29 : am_fetch 68 29 = some (.fconst 0, 1, 0, 0, 0) := by decide +kernel
theorem fe_68_30 : am_fetch 68 30 = some (.freturn, 1, 8, 0, 0) := by decide +kernel
theorem fe_69_0 : am_fetch 69 0 = some (.iload_n 1, 1, 1, 0, 0) := by decide +kernel
theorem fe_69_1 : am_fetch 69 1 = some (.aload_n 0, 1, 1, 0, 0) := by decide +kernel
theorem fe_69_2 : am_fetch 69 2 = some (.arraylength, 1, 3, 0, 0) := by decide +kernel
theorem fe_69_3 : am_fetch 69 3 = some (.if_icmp .ge 9, 3, 2, 12, 0) := by decide +kernel
theorem fe_69_6 : am_fetch 69 6 = some (.aload_n 0, 1, 1, 0, 0) := by decide +kernel
theorem fe_69_7 : am_fetch 69 7 = some (.iload_n 1, 1, 1, 0, 0) := by decide +kernel
theorem fe_69_8 : am_fetch 69 8 = some (.iaload, 1, 3, 0, 0) := by decide +kernel
theorem fe_69_9 : am_fetch 69 9 = some (.goto 12, 3, 2, 21, 0) := by decide +kernel
theorem fe_69_12 : am_fetch 69 12 = some (.ldc 7, 2, 6, 5, 835049959) := by decide +kernel
theorem fe_69_14 : am_fetch 69 14 = some (.iload_n 1, 1, 1, 0, 0) := by decide +kernel
theorem fe_69_15 : am_fetch 69 15 = some (.iconst 5, 1, 0, 0, 0) := by decide +kernel
theorem fe_69_16 : am_fetch 69 16 = some (.iadd, 1, 0, 0, 0) := by decide +kernel
theorem fe_69_17 : am_fetch 69 17 = some (.imul, 1, 0, 0, 0) := by decide +kernel
theorem fe_69_18 : am_fetch 69 18 = some (.ldc 8, 2, 6, 5, 783524345) := by decide +kernel
theorem fe_69_20 : am_fetch 69 20 = some (.iadd, 1, 0, 0, 0) := by decide +kernel
theorem fe_69_21 : am_fetch 69 21 = some (.ireturn, 1, 8, 0, 0) := by decide +kernel
theorem fe_70_0 : am_fetch 70 0 = some (.iload_n 0, 1, 1, 0, 0) := by decide +kernel
theorem fe_70_1 : am_fetch 70 1 = some (.ldc 9, 2, 6, 5, 2147483647) := by decide +kernel
theorem fe_70_3 : am_fetch 70 3 = some (.iand, 1, 0, 0, 0) := by decide +kernel
theorem fe_70_4 : am_fetch 70 4 = some (.iload_n 1, 1, 1, 0, 0) := by decide +kernel
theorem fe_70_5 : am_fetch 70 5 = some (.irem, 1, 0, 0, 0) := by decide +kernel
theorem fe_70_6 : am_fetch 70 6 = some (.ireturn, 1, 8, 0, 0) := by decide +kernel
theorem fe_71_0 : am_fetch 71 0 = some (.iload_n 0, 1, 1, 0, 0) := by decide +kernel
theorem fe_71_1 : am_fetch 71 1 = some (.ifCond .lt 13, 3, 2, 14, 0) := by decide +kernel
theorem fe_71_4 : am_fetch 71 4 = some (.iload_n 0, 1, 1, 0, 0) := by decide +kernel
theorem fe_71_5 : am_fetch 71 5 = some (.bipush 31, 2, 0, 0, 0) := by decide +kernel
theorem fe_71_7 : am_fetch 71 7 = some (.if_icmp .ge 7, 3, 2, 14, 0) := by decide +kernel
theorem fe_71_10 : am_fetch 71 10 = some (.iconst 1, 1, 0, 0, 0) := by decide +kernel
theorem fe_71_11 : am_fetch 71 11 = some (.goto 4, 3, 2, 15, 0) := by decide +kernel
theorem fe_71_14 : am_fetch 71 14 = some (.iconst 0, 1, 0, 0, 0) := by decide +kernel
theorem fe_71_15 : am_fetch 71 15 = some (.ireturn, 1, 8, 0, 0) := by decide +kernel
theorem fe_72_0 : am_fetch 72 0 = some (.aload_n 0, 1, 1, 0, 0) := by decide +kernel
theorem fe_72_1 : am_fetch 72 1 = some (.getfield 32, 3, 3, 1, 0) := by decide +kernel
theorem fe_72_4 : am_fetch 72 4 = some (.bipush 12, 2, 0, 0, 0) := by decide +kernel
theorem fe_72_6 : am_fetch 72 6 = some (.if_icmp .ge 7, 3, 2, 13, 0) := by decide +kernel
theorem fe_72_9 : am_fetch 72 9 = some (.iconst 1, 1, 0, 0, 0) := by decide +kernel
theorem fe_72_10 : am_fetch 72 10 = some (.goto 4, 3, 2, 14, 0) := by decide +kernel
theorem fe_72_13 : am_fetch 72 13 = some (.iconst 0, 1, 0, 0, 0) := by decide +kernel
theorem fe_72_14 : am_fetch 72 14 = some (.ireturn, 1, 8, 0, 0) := by decide +kernel
theorem fe_73_0 : am_fetch 73 0 = some (.aload_n 0, 1, 1, 0, 0) := by decide +kernel
theorem fe_73_1 : am_fetch 73 1 = some (.getfield 24, 3, 3, 2, 1) := by decide +kernel
theorem fe_73_4 : am_fetch 73 4 = some (.iload_n 1, 1, 1, 0, 0) := by decide +kernel
theorem fe_73_5 : am_fetch 73 5 = some (.iadd, 1, 0, 0, 0) := by decide +kernel
theorem fe_73_6 : am_fetch 73 6 = some (.bipush 6, 2, 0, 0, 0) := by decide +kernel
theorem fe_73_8 : am_fetch 73 8 = some (.irem, 1, 0, 0, 0) := by decide +kernel
theorem fe_73_9 : am_fetch 73 9 = some (.ireturn, 1, 8, 0, 0) := by decide +kernel
theorem fe_74_0 : am_fetch 74 0 = some (.aload_n 0, 1, 1, 0, 0) := by decide +kernel
theorem fe_74_1 : am_fetch 74 1 = some (.aload_n 1, 1, 1, 0, 0) := by decide +kernel
theorem fe_74_2 : am_fetch 74 2 = some (.getfield 32, 3, 3, 1, 0) := by decide +kernel
theorem fe_74_5 : am_fetch 74 5 = some (.putfield 32, 3, 4, 1, 0) := by decide +kernel
theorem fe_74_8 : am_fetch 74 8 = some (.aload_n 0, 1, 1, 0, 0) := by decide +kernel
theorem fe_74_9 : am_fetch 74 9 = some (.getfield 14, 3, 3, 1, 1) := by decide +kernel
theorem fe_74_12 : am_fetch 74 12 = some (.aload_n 1, 1, 1, 0, 0) := by decide +kernel
theorem fe_74_13 : am_fetch 74 13 = some (.getfield 14, 3, 3, 1, 1) := by decide +kernel
theorem fe_74_16 : am_fetch 74 16 = some (.invokevirtual 36, 3, 7, 49, 0) := by decide +kernel
theorem fe_74_19 : am_fetch 74 19 = some (.aload_n 0, 1, 1, 0, 0) := by decide +kernel
theorem fe_74_20 : am_fetch 74 20 = some (.getfield 20, 3, 3, 1, 2) := by decide +kernel
theorem fe_74_23 : am_fetch 74 23 = some (.aload_n 1, 1, 1, 0, 0) := by decide +kernel
theorem fe_74_24 : am_fetch 74 24 = some (.getfield 20, 3, 3, 1, 2) := by decide +kernel
theorem fe_74_27 : am_fetch 74 27 = some (.invokevirtual 36, 3, 7, 49, 0) := by decide +kernel
theorem fe_74_30 : am_fetch 74 30 = some (.aload_n 0, 1, 1, 0, 0) := by decide +kernel
theorem fe_74_31 : am_fetch 74 31 = some (.getfield 23, 3, 3, 1, 3) := by decide +kernel
theorem fe_74_34 : am_fetch 74 34 = some (.aload_n 1, 1, 1, 0, 0) := by decide +kernel
theorem fe_74_35 : am_fetch 74 35 = some (.getfield 23, 3, 3, 1, 3) := by decide +kernel
theorem fe_74_38 : am_fetch 74 38 = some (.invokevirtual 36, 3, 7, 49, 0) := by decide +kernel
theorem fe_74_41 : am_fetch 74 41 = some (.aload_n 0, 1, 1, 0, 0) := by decide +kernel
theorem fe_74_42 : am_fetch 74 42 = some (.getfield 26, 3, 3, 1, 4) := by decide +kernel
theorem fe_74_45 : am_fetch 74 45 = some (.aload_n 1, 1, 1, 0, 0) := by decide +kernel
theorem fe_74_46 : am_fetch 74 46 = some (.getfield 26, 3, 3, 1, 4) := by decide +kernel
theorem fe_74_49 : am_fetch 74 49 = some (.invokevirtual 36, 3, 7, 49, 0) := by decide +kernel
theorem fe_74_52 : am_fetch 74 52 = some (.aload_n 0, 1, 1, 0, 0) := by decide +kernel
theorem fe_74_53 : am_fetch 74 53 = some (.getfield 29, 3, 3, 1, 5) := by decide +kernel
theorem fe_74_56 : am_fetch 74 56 = some (.aload_n 1, 1, 1, 0, 0) := by decide +kernel
theorem fe_74_57 : am_fetch 74 57 = some (.getfield 29, 3, 3, 1, 5) := by decide +kernel
theorem fe_74_60 : am_fetch 74 60 = some (.invokevirtual 36, 3, 7, 49, 0) := by decide +kernel
theorem fe_74_63 : am_fetch 74 63 = some (.return_, 1, 8, 0, 0) := by decide +kernel
theorem fe_75_0 : am_fetch 75 0 = some (.aload_n 0, 1, 1, 0, 0) := by decide +kernel
theorem fe_75_1 : am_fetch 75 1 = some (.aload_n 1, 1, 1, 0, 0) := by decide +kernel
theorem fe_75_2 : am_fetch 75 2 = some (.getfield 26, 3, 3, 0, 0) := by decide +kernel
theorem fe_75_5 : am_fetch 75 5 = some (.putfield 26, 3, 4, 0, 0) := by decide +kernel
theorem fe_75_8 : am_fetch 75 8 = some (.aload_n 0, 1, 1, 0, 0) := by decide +kernel
theorem fe_75_9 : am_fetch 75 9 = some (.getfield 14, 3, 3, 0, 1) := by decide +kernel
theorem fe_75_12 : am_fetch 75 12 = some (.aload_n 1, 1, 1, 0, 0) := by decide +kernel
theorem fe_75_13 : am_fetch 75 13 = some (.getfield 14, 3, 3, 0, 1) := by decide +kernel
theorem fe_75_16 : am_fetch 75 16 = some (.invokevirtual 30, 3, 7, 49, 0) := by decide +kernel
theorem fe_75_19 : am_fetch 75 19 = some (.aload_n 0, 1, 1, 0, 0) := by decide +kernel
theorem fe_75_20 : am_fetch 75 20 = some (.getfield 20, 3, 3, 0, 2) := by decide +kernel
theorem fe_75_23 : am_fetch 75 23 = some (.aload_n 1, 1, 1, 0, 0) := by decide +kernel
theorem fe_75_24 : am_fetch 75 24 = some (.getfield 20, 3, 3, 0, 2) := by decide +kernel
theorem fe_75_27 : am_fetch 75 27 = some (.invokevirtual 30, 3, 7, 49, 0) := by decide +kernel
theorem fe_75_30 : am_fetch 75 30 = some (.aload_n 0, 1, 1, 0, 0) := by decide +kernel
theorem fe_75_31 : am_fetch 75 31 = some (.getfield 23, 3, 3, 0, 3) := by decide +kernel
theorem fe_75_34 : am_fetch 75 34 = some (.aload_n 1, 1, 1, 0, 0) := by decide +kernel
theorem fe_75_35 : am_fetch 75 35 = some (.getfield 23, 3, 3, 0, 3) := by decide +kernel
theorem fe_75_38 : am_fetch 75 38 = some (.invokevirtual 30, 3, 7, 49, 0) := by decide +kernel
theorem fe_75_41 : am_fetch 75 41 = some (.return_, 1, 8, 0, 0) := by decide +kernel
theorem fe_76_0 : am_fetch 76 0 = some (.aload_n 0, 1, 1, 0, 0) := by decide +kernel
theorem fe_76_1 : am_fetch 76 1 = some (.aload_n 1, 1, 1, 0, 0) := by decide +kernel
theorem fe_76_2 : am_fetch 76 2 = some (.getfield 26, 3, 3, 8, 0) := by decide +kernel
theorem fe_76_5 : am_fetch 76 5 = some (.putfield 26, 3, 4, 8, 0) := by decide +kernel
theorem fe_76_8 : am_fetch 76 8 = some (.aload_n 0, 1, 1, 0, 0) := by decide +kernel
theorem fe_76_9 : am_fetch 76 9 = some (.aload_n 1, 1, 1, 0, 0) := by decide +kernel
theorem fe_76_10 : am_fetch 76 10 = some (.getfield 30, 3, 3, 8, 1) := by decide +kernel
theorem fe_76_13 : am_fetch 76 13 = some (.putfield 30, 3, 4, 8, 1) := by decide +kernel
theorem fe_76_16 : am_fetch 76 16 = some (.aload_n 0, 1, 1, 0, 0) := by decide +kernel
theorem fe_76_17 : am_fetch 76 17 = some (.aload_n 1, 1, 1, 0, 0) := by decide +kernel
theorem fe_76_18 : am_fetch 76 18 = some (.getfield 33, 3, 3, 8, 2) := by decide +kernel
theorem fe_76_21 : am_fetch 76 21 = some (.putfield 33, 3, 4, 8, 2) := by decide +kernel
theorem fe_76_24 : am_fetch 76 24 = some (.aload_n 0, 1, 1, 0, 0) := by decide +kernel
theorem fe_76_25 : am_fetch 76 25 = some (.getfield 14, 3, 3, 8, 3) := by decide +kernel
theorem fe_76_28 : am_fetch 76 28 = some (.aload_n 1, 1, 1, 0, 0) := by decide +kernel
theorem fe_76_29 : am_fetch 76 29 = some (.getfield 14, 3, 3, 8, 3) := by decide +kernel
theorem fe_76_32 : am_fetch 76 32 = some (.invokevirtual 36, 3, 7, 49, 0) := by decide +kernel
theorem fe_76_35 : am_fetch 76 35 = some (.aload_n 0, 1, 1, 0, 0) := by decide +kernel
theorem fe_76_36 : am_fetch 76 36 = some (.getfield 20, 3, 3, 8, 4) := by decide +kernel
theorem fe_76_39 : am_fetch 76 39 = some (.aload_n 1, 1, 1, 0, 0) := by decide +kernel
theorem fe_76_40 : am_fetch 76 40 = some (.getfield 20, 3, 3, 8, 4) := by decide +kernel
theorem fe_76_43 : am_fetch 76 43 = some (.invokevirtual 36, 3, 7, 49, 0) := by decide +kernel
theorem fe_76_46 : am_fetch 76 46 = some (.aload_n 0, 1, 1, 0, 0) := by decide +kernel
theorem fe_76_47 : am_fetch 76 47 = some (.getfield 23, 3, 3, 8, 5) := by decide +kernel
theorem fe_76_50 : am_fetch 76 50 = some (.aload_n 1, 1, 1, 0, 0) := by decide +kernel
theorem fe_76_51 : am_fetch 76 51 = some (.getfield 23, 3, 3, 8, 5) := by decide +kernel
theorem fe_76_54 : am_fetch 76 54 = some (.invokevirtual 36, 3, 7, 49, 0) := by decide +kernel
theorem fe_76_57 : am_fetch 76 57 = some (.return_, 1, 8, 0, 0) := by decide +kernel
theorem fe_77_0 : am_fetch 77 0 = some (.aload_n 0, 1, 1, 0, 0) := by decide +kernel
theorem fe_77_1 : am_fetch 77 1 = some (.aload_n 1, 1, 1, 0, 0) := by decide +kernel
theorem fe_77_2 : am_fetch 77 2 = some (.getfield 55, 3, 3, 7, 0) := by decide +kernel
theorem fe_77_5 : am_fetch 77 5 = some (.putfield 55, 3, 4, 7, 0) := by decide +kernel
theorem fe_77_8 : am_fetch 77 8 = some (.aload_n 0, 1, 1, 0, 0) := by decide +kernel
theorem fe_77_9 : am_fetch 77 9 = some (.aload_n 1, 1, 1, 0, 0) := by decide +kernel
theorem fe_77_10 : am_fetch 77 10 = some (.getfield 9, 3, 3, 7, 1) := by decide +kernel
theorem fe_77_13 : am_fetch 77 13 = some (.putfield 9, 3, 4, 7, 1) := by decide +kernel
theorem fe_77_16 : am_fetch 77 16 = some (.aload_n 0, 1, 1, 0, 0) := by decide +kernel
theorem fe_77_17 : am_fetch 77 17 = some (.aload_n 1, 1, 1, 0, 0) := by decide +kernel
theorem fe_77_18 : am_fetch 77 18 = some (.getfield 58, 3, 3, 7, 2) := by decide +kernel
theorem fe_77_21 : am_fetch 77 21 = some (.putfield 58, 3, 4, 7, 2) := by decide +kernel
theorem fe_77_24 : am_fetch 77 24 = some (.aload_n 0, 1, 1, 0, 0) := by decide +kernel
theorem fe_77_25 : am_fetch 77 25 = some (.aload_n 1, 1, 1, 0, 0) := by decide +kernel
theorem fe_77_26 : am_fetch 77 26 = some (.getfield 61, 3, 3, 7, 3) := by decide +kernel
theorem fe_77_29 : am_fetch 77 29 = some (.putfield 61, 3, 4, 7, 3) := by decide +kernel
theorem fe_77_32 : am_fetch 77 32 = some (.aload_n 0, 1, 1, 0, 0) := by decide +kernel
theorem fe_77_33 : am_fetch 77 33 = some (.aload_n 1, 1, 1, 0, 0) := by decide +kernel
theorem fe_77_34 : am_fetch 77 34 = some (.getfield 64, 3, 3, 7, 4) := by decide +kernel
theorem fe_77_37 : am_fetch 77 37 = some (.putfield 64, 3, 4, 7, 4) := by decide +kernel
theorem fe_77_40 : am_fetch 77 40 = some (.aload_n 0, 1, 1, 0, 0) := by decide +kernel
theorem fe_77_41 : am_fetch 77 41 = some (.getfield 20, 3, 3, 7, 5) := by decide +kernel
theorem fe_77_44 : am_fetch 77 44 = some (.aload_n 1, 1, 1, 0, 0) := by decide +kernel
theorem fe_77_45 : am_fetch 77 45 = some (.getfield 20, 3, 3, 7, 5) := by decide +kernel
theorem fe_77_48 : am_fetch 77 48 = some (.invokevirtual 67, 3, 7, 49, 0) := by decide +kernel
theorem fe_77_51 : am_fetch 77 51 = some (.aload_n 0, 1, 1, 0, 0) := by decide +kernel
theorem fe_77_52 : am_fetch 77 52 = some (.getfield 24, 3, 3, 7, 6) := by decide +kernel
theorem fe_77_55 : am_fetch 77 55 = some (.aload_n 1, 1, 1, 0, 0) := by decide +kernel
theorem fe_77_56 : am_fetch 77 56 = some (.getfield 24, 3, 3, 7, 6) := by decide +kernel
theorem fe_77_59 : am_fetch 77 59 = some (.invokevirtual 67, 3, 7, 49, 0) := by decide +kernel
theorem fe_77_62 : am_fetch 77 62 = some (.aload_n 0, 1, 1, 0, 0) := by decide +kernel
theorem fe_77_63 : am_fetch 77 63 = some (.getfield 27, 3, 3, 7, 7) := by decide +kernel
theorem fe_77_66 : am_fetch 77 66 = some (.aload_n 1, 1, 1, 0, 0) := by decide +kernel
theorem fe_77_67 : am_fetch 77 67 = some (.getfield 27, 3, 3, 7, 7) := by decide +kernel
theorem fe_77_70 : am_fetch 77 70 = some (.invokevirtual 67, 3, 7, 49, 0) := by decide +kernel
theorem fe_77_73 : am_fetch 77 73 = some (.aload_n 0, 1, 1, 0, 0) := by decide +kernel
theorem fe_77_74 : am_fetch 77 74 = some (.getfield 33, 3, 3, 7, 8) := by decide +kernel
theorem fe_77_77 : am_fetch 77 77 = some (.aload_n 1, 1, 1, 0, 0) := by decide +kernel
theorem fe_77_78 : am_fetch 77 78 = some (.getfield 33, 3, 3, 7, 8) := by decide +kernel
theorem fe_77_81 : am_fetch 77 81 = some (.invokevirtual 71, 3, 7, 74, 0) := by decide +kernel
theorem fe_77_84 : am_fetch 77 84 = some (.aload_n 0, 1, 1, 0, 0) := by decide +kernel
theorem fe_77_85 : am_fetch 77 85 = some (.getfield 40, 3, 3, 7, 9) := by decide +kernel
theorem fe_77_88 : am_fetch 77 88 = some (.aload_n 1, 1, 1, 0, 0) := by decide +kernel
theorem fe_77_89 : am_fetch 77 89 = some (.getfield 40, 3, 3, 7, 9) := by decide +kernel
theorem fe_77_92 : am_fetch 77 92 = some (.invokevirtual 74, 3, 7, 75, 0) := by decide +kernel
theorem fe_77_95 : am_fetch 77 95 = some (.aload_n 0, 1, 1, 0, 0) := by decide +kernel
theorem fe_77_96 : am_fetch 77 96 = some (.getfield 47, 3, 3, 7, 10) := by decide +kernel
theorem fe_77_99 : am_fetch 77 99 = some (.aload_n 1, 1, 1, 0, 0) := by decide +kernel
theorem fe_77_100 : am_fetch 77 100 = some (.getfield 47, 3, 3, 7, 10) := by decide +kernel
theorem fe_77_103 : am_fetch 77 103 = some (.invokevirtual 77, 3, 7, 76, 0) := by decide +kernel
theorem fe_77_106 : am_fetch 77 106 = some (.return_, 1, 8, 0, 0) := by decide +kernel
theorem fe_78_0 : am_fetch 78 0 = some (.iload_n 1, 1, 1, 0, 0) := by decide +kernel
theorem fe_78_1 : am_fetch 78 1 = some (.ifCond .lt 40, 3, 2, 41, 0) := by decide +kernel
theorem fe_78_4 : am_fetch 78 4 = some (.iload_n 1, 1, 1, 0, 0) := by decide +kernel
theorem fe_78_5 : am_fetch 78 5 = some (.aload_n 0, 1, 1, 0, 0) := by decide +kernel
theorem fe_78_6 : am_fetch 78 6 = some (.getfield 15, 3, 3, 9, 0) := by decide +kernel
theorem fe_78_9 : am_fetch 78 9 = some (.arraylength, 1, 3, 0, 0) := by decide +kernel
theorem fe_78_10 : am_fetch 78 10 = some (.if_icmp .ge 31, 3, 2, 41, 0) := by decide +kernel
theorem fe_78_13 : am_fetch 78 13 = some (.aload_n 0, 1, 1, 0, 0) := by decide +kernel
theorem fe_78_14 : am_fetch 78 14 = some (.getfield 15, 3, 3, 9, 0) := by decide +kernel
theorem fe_78_17 : am_fetch 78 17 = some (.iload_n 1, 1, 1, 0, 0) := by decide +kernel
theorem fe_78_18 : am_fetch 78 18 = some (.aaload, 1, 3, 0, 0) := by decide +kernel
theorem fe_78_19 : am_fetch 78 19 = some (.ifnull 22, 3, 2, 41, 0) := by decide +kernel
theorem fe_78_22 : am_fetch 78 22 = some (.aload_n 0, 1, 1, 0, 0) := by decide +kernel
theorem fe_78_23 : am_fetch 78 23 = some (.getfield 15, 3, 3, 9, 0) := by decide +kernel
theorem fe_78_26 : am_fetch 78 26 = some (.iload_n 1, 1, 1, 0, 0) := by decide +kernel
theorem fe_78_27 : am_fetch 78 27 = some (.aaload, 1, 3, 0, 0) := by decide +kernel
theorem fe_78_28 : am_fetch 78 28 = some (.aload_n 2, 1, 1, 0, 0) := by decide +kernel
theorem fe_78_29 : am_fetch 78 29 = some (.invokevirtual 35, 3, 7, 77, 0) := by decide +kernel
theorem fe_78_32 : am_fetch 78 32 = some (.aload_n 0, 1, 1, 0, 0) := by decide +kernel
theorem fe_78_33 : am_fetch 78 33 = some (.getfield 27, 3, 3, 9, 1) := by decide +kernel
theorem fe_78_36 : am_fetch 78 36 = some (.iload_n 1, 1, 1, 0, 0) := by decide +kernel
theorem fe_78_37 : am_fetch 78 37 = some (.iconst 1, 1, 0, 0, 0) := by decide +kernel
theorem fe_78_38 : am_fetch 78 38 = some (.invokevirtual 39, 3, 7, 4, 0) := by decide +kernel
theorem fe_78_41 : am_fetch 78 41 = some (.return_, 1, 8, 0, 0) := by decide +kernel
theorem fe_79_0 : am_fetch 79 0 = some (.aload_n 0, 1, 1, 0, 0) := by decide +kernel
theorem fe_79_1 : am_fetch 79 1 = some (.getfield 14, 3, 3, 2, 0) := by decide +kernel
theorem fe_79_4 : am_fetch 79 4 = some (.aload_n 0, 1, 1, 0, 0) := by decide +kernel
theorem fe_79_5 : am_fetch 79 5 = some (.aload_n 0, 1, 1, 0, 0) := by decide +kernel
theorem fe_79_6 : am_fetch 79 6 = some (.getfield 20, 3, 3, 2, 2) := by decide +kernel
theorem fe_79_9 : am_fetch 79 9 = some (.invokevirtual 27, 3, 7, 73, 0) := by decide +kernel
theorem fe_79_12 : am_fetch 79 12 = some (.aload_n 1, 1, 1, 0, 0) := by decide +kernel
theorem fe_79_13 : am_fetch 79 13 = some (.invokevirtual 31, 3, 7, 78, 0) := by decide +kernel
theorem fe_79_16 : am_fetch 79 16 = some (.aload_n 0, 1, 1, 0, 0) := by decide +kernel
theorem fe_79_17 : am_fetch 79 17 = some (.getfield 20, 3, 3, 2, 2) := by decide +kernel
theorem fe_79_20 : am_fetch 79 20 = some (.bipush 6, 2, 0, 0, 0) := by decide +kernel
theorem fe_79_22 : am_fetch 79 22 = some (.if_icmp .ge 16, 3, 2, 38, 0) := by decide +kernel
theorem fe_79_25 : am_fetch 79 25 = some (.aload_n 0, 1, 1, 0, 0) := by decide +kernel
theorem fe_79_26 : am_fetch 79 26 = some (.dup, 1, 0, 0, 0) := by decide +kernel
theorem fe_79_27 : am_fetch 79 27 = some (.getfield 20, 3, 3, 2, 2) := by decide +kernel
theorem fe_79_30 : am_fetch 79 30 = some (.iconst 1, 1, 0, 0, 0) := by decide +kernel
theorem fe_79_31 : am_fetch 79 31 = some (.iadd, 1, 0, 0, 0) := by decide +kernel
theorem fe_79_32 : am_fetch 79 32 = some (.putfield 20, 3, 4, 2, 2) := by decide +kernel
theorem fe_79_35 : am_fetch 79 35 = some (.goto 12, 3, 2, 47, 0) := by decide +kernel
theorem fe_79_38 : am_fetch 79 38 = some (.aload_n 0, 1, 1, 0, 0) := by decide +kernel
theorem fe_79_39 : am_fetch 79 39 = some (.aload_n 0, 1, 1, 0, 0) := by decide +kernel
theorem fe_79_40 : am_fetch 79 40 = some (.iconst 1, 1, 0, 0, 0) := by decide +kernel
theorem fe_79_41 : am_fetch 79 41 = some (.invokevirtual 27, 3, 7, 73, 0) := by decide +kernel
theorem fe_79_44 : am_fetch 79 44 = some (.putfield 24, 3, 4, 2, 1) := by decide +kernel
theorem fe_79_47 : am_fetch 79 47 = some (.return_, 1, 8, 0, 0) := by decide +kernel
theorem fe_80_0 : am_fetch 80 0 = some (.aload_n 0, 1, 1, 0, 0) := by decide +kernel
theorem fe_80_1 : am_fetch 80 1 = some (.getfield 32, 3, 3, 1, 0) := by decide +kernel
theorem fe_80_4 : am_fetch 80 4 = some (.istore_n 2, 1, 1, 0, 0) := by decide +kernel
theorem fe_80_5 : am_fetch 80 5 = some (.aload_n 0, 1, 1, 0, 0) := by decide +kernel
theorem fe_80_6 : am_fetch 80 6 = some (.dup, 1, 0, 0, 0) := by decide +kernel
theorem fe_80_7 : am_fetch 80 7 = some (.getfield 32, 3, 3, 1, 0) := by decide +kernel
theorem fe_80_10 : am_fetch 80 10 = some (.iconst 1, 1, 0, 0, 0) := by decide +kernel
theorem fe_80_11 : am_fetch 80 11 = some (.iadd, 1, 0, 0, 0) := by decide +kernel
theorem fe_80_12 : am_fetch 80 12 = some (.putfield 32, 3, 4, 1, 0) := by decide +kernel
theorem fe_80_15 : am_fetch 80 15 = some (.aload_n 0, 1, 1, 0, 0) := by decide +kernel
theorem fe_80_16 : am_fetch 80 16 = some (.getfield 20, 3, 3, 1, 2) := by decide +kernel
theorem fe_80_19 : am_fetch 80 19 = some (.iload_n 2, 1, 1, 0, 0) := by decide +kernel
theorem fe_80_20 : am_fetch 80 20 = some (.iload_n 1, 1, 1, 0, 0) := by decide +kernel
theorem fe_80_21 : am_fetch 80 21 = some (.invokevirtual 44, 3, 7, 4, 0) := by decide +kernel
theorem fe_80_24 : am_fetch 80 24 = some (.aload_n 0, 1, 1, 0, 0) := by decide +kernel
theorem fe_80_25 : am_fetch 80 25 = some (.getfield 26, 3, 3, 1, 4) := by decide +kernel
theorem fe_80_28 : am_fetch 80 28 = some (.iconst 2, 1, 0, 0, 0) := by decide +kernel
theorem fe_80_29 : am_fetch 80 29 = some (.iload_n 2, 1, 1, 0, 0) := by decide +kernel
theorem fe_80_30 : am_fetch 80 30 = some (.imul, 1, 0, 0, 0) := by decide +kernel
theorem fe_80_31 : am_fetch 80 31 = some (.bipush 20, 2, 0, 0, 0) := by decide +kernel
theorem fe_80_33 : am_fetch 80 33 = some (.invokevirtual 44, 3, 7, 4, 0) := by decide +kernel
theorem fe_80_36 : am_fetch 80 36 = some (.aload_n 0, 1, 1, 0, 0) := by decide +kernel
theorem fe_80_37 : am_fetch 80 37 = some (.getfield 26, 3, 3, 1, 4) := by decide +kernel
theorem fe_80_40 : am_fetch 80 40 = some (.iconst 2, 1, 0, 0, 0) := by decide +kernel
theorem fe_80_41 : am_fetch 80 41 = some (.iload_n 2, 1, 1, 0, 0) := by decide +kernel
theorem fe_80_42 : am_fetch 80 42 = some (.imul, 1, 0, 0, 0) := by decide +kernel
theorem fe_80_43 : am_fetch 80 43 = some (.iconst 1, 1, 0, 0, 0) := by decide +kernel
theorem fe_80_44 : am_fetch 80 44 = some (.iadd, 1, 0, 0, 0) := by decide +kernel
theorem fe_80_45 : am_fetch 80 45 = some (.bipush 20, 2, 0, 0, 0) := by decide +kernel
theorem fe_80_47 : am_fetch 80 47 = some (.invokevirtual 44, 3, 7, 4, 0) := by decide +kernel
theorem fe_80_50 : am_fetch 80 50 = some (.iload_n 2, 1, 1, 0, 0) := by decide +kernel
theorem fe_80_51 : am_fetch 80 51 = some (.ireturn, 1, 8, 0, 0) := by decide +kernel
theorem fe_81_0 : am_fetch 81 0 = some (.iload_n 1, 1, 1, 0, 0) := by decide +kernel
theorem fe_81_1 : am_fetch 81 1 = some (.invokestatic 65, 3, 7, 71, 0) := by decide +kernel
theorem fe_81_4 : am_fetch 81 4 = some (.ifCond .ne 13, 3, 2, 17, 0) := by decide +kernel
theorem fe_81_7 : am_fetch 81 7 = some (.new 69, 3, 9, 0, 0) := by decide +kernel
theorem fe_81_10 : am_fetch 81 10 = some (.dup, 1, 0, 0, 0) := by decide +kernel
theorem fe_81_17 : am_fetch 81 17 = some (.aload_n 0, 1, 1, 0, 0) := by decide +kernel
theorem fe_81_18 : am_fetch 81 18 = some (.getfield 12, 3, 3, 10, 0) := by decide +kernel
theorem fe_81_21 : am_fetch 81 21 = some (.getfield 18, 3, 3, 107, 8) := by decide +kernel
theorem fe_81_24 : am_fetch 81 24 = some (.invokevirtual 76, 3, 7, 72, 0) := by decide +kernel
theorem fe_81_27 : am_fetch 81 27 = some (.ifCond .ne 13, 3, 2, 40, 0) := by decide +kernel
theorem fe_81_30 : am_fetch 81 30 = some (.new 82, 3, 9, 1, 0) := by decide +kernel
theorem fe_81_33 : am_fetch 81 33 = some (.dup, 1, 0, 0, 0) := by decide +kernel
theorem fe_81_40 : am_fetch 81 40 = some (.aload_n 0, 1, 1, 0, 0) := by decide +kernel
theorem fe_81_41 : am_fetch 81 41 = some (.getfield 52, 3, 3, 10, 4) := by decide +kernel
theorem fe_81_44 : am_fetch 81 44 = some (.aload_n 0, 1, 1, 0, 0) := by decide +kernel
theorem fe_81_45 : am_fetch 81 45 = some (.getfield 12, 3, 3, 10, 0) := by decide +kernel
theorem fe_81_48 : am_fetch 81 48 = some (.invokevirtual 87, 3, 7, 79, 0) := by decide +kernel
theorem fe_81_51 : am_fetch 81 51 = some (.aload_n 0, 1, 1, 0, 0) := by decide +kernel
theorem fe_81_52 : am_fetch 81 52 = some (.getfield 12, 3, 3, 10, 0) := by decide +kernel
theorem fe_81_55 : am_fetch 81 55 = some (.getfield 18, 3, 3, 107, 8) := by decide +kernel
theorem fe_81_58 : am_fetch 81 58 = some (.iload_n 1, 1, 1, 0, 0) := by decide +kernel
theorem fe_81_59 : am_fetch 81 59 = some (.invokevirtual 91, 3, 7, 80, 0) := by decide +kernel
theorem fe_81_62 : am_fetch 81 62 = some (.ireturn, 1, 8, 0, 0) := by decide +kernel
theorem fe_82_0 : am_fetch 82 0 = some (.aload_n 0, 1, 1, 0, 0) := by decide +kernel
theorem fe_82_1 : am_fetch 82 1 = some (.iload_n 1, 1, 1, 0, 0) := by decide +kernel
theorem fe_82_2 : am_fetch 82 2 = some (.invokevirtual 40, 3, 7, 34, 0) := by decide +kernel
theorem fe_82_5 : am_fetch 82 5 = some (.ifCond .eq 16, 3, 2, 21, 0) := by decide +kernel
theorem fe_82_8 : am_fetch 82 8 = some (.iload_n 2, 1, 1, 0, 0) := by decide +kernel
theorem fe_82_9 : am_fetch 82 9 = some (.ifCond .eq 8, 3, 2, 17, 0) := by decide +kernel
theorem fe_82_12 : am_fetch 82 12 = some (.iload_n 2, 1, 1, 0, 0) := by decide +kernel
theorem fe_82_13 : am_fetch 82 13 = some (.iconst 1, 1, 0, 0, 0) := by decide +kernel
theorem fe_82_14 : am_fetch 82 14 = some (.if_icmp .ne 7, 3, 2, 21, 0) := by decide +kernel
theorem fe_82_17 : am_fetch 82 17 = some (.iconst 1, 1, 0, 0, 0) := by decide +kernel
theorem fe_82_18 : am_fetch 82 18 = some (.goto 4, 3, 2, 22, 0) := by decide +kernel
theorem fe_82_21 : am_fetch 82 21 = some (.iconst 0, 1, 0, 0, 0) := by decide +kernel
theorem fe_82_22 : am_fetch 82 22 = some (.ireturn, 1, 8, 0, 0) := by decide +kernel
theorem fe_83_0 : am_fetch 83 0 = some (.aload_n 0, 1, 1, 0, 0) := by decide +kernel
theorem fe_83_1 : am_fetch 83 1 = some (.iload_n 1, 1, 1, 0, 0) := by decide +kernel
theorem fe_83_2 : am_fetch 83 2 = some (.invokevirtual 19, 3, 7, 12, 0) := by decide +kernel
theorem fe_83_5 : am_fetch 83 5 = some (.istore_n 3, 1, 1, 0, 0) := by decide +kernel
theorem fe_83_6 : am_fetch 83 6 = some (.aload_n 0, 1, 1, 0, 0) := by decide +kernel
theorem fe_83_7 : am_fetch 83 7 = some (.iload_n 1, 1, 1, 0, 0) := by decide +kernel
theorem fe_83_8 : am_fetch 83 8 = some (.iload_n 2, 1, 1, 0, 0) := by decide +kernel
theorem fe_83_9 : am_fetch 83 9 = some (.invokevirtual 23, 3, 7, 4, 0) := by decide +kernel
theorem fe_83_12 : am_fetch 83 12 = some (.iload_n 3, 1, 1, 0, 0) := by decide +kernel
theorem fe_83_13 : am_fetch 83 13 = some (.ireturn, 1, 8, 0, 0) := by decide +kernel
theorem fe_84_0 : am_fetch 84 0 = some (.aload_n 0, 1, 1, 0, 0) := by decide +kernel
theorem fe_84_1 : am_fetch 84 1 = some (.getfield 26, 3, 3, 1, 4) := by decide +kernel
theorem fe_84_4 : am_fetch 84 4 = some (.iconst 2, 1, 0, 0, 0) := by decide +kernel
theorem fe_84_5 : am_fetch 84 5 = some (.iload_n 1, 1, 1, 0, 0) := by decide +kernel
theorem fe_84_6 : am_fetch 84 6 = some (.imul, 1, 0, 0, 0) := by decide +kernel
theorem fe_84_7 : am_fetch 84 7 = some (.iload_n 2, 1, 1, 0, 0) := by decide +kernel
theorem fe_84_8 : am_fetch 84 8 = some (.iadd, 1, 0, 0, 0) := by decide +kernel
theorem fe_84_9 : am_fetch 84 9 = some (.iload_n 3, 1, 1, 0, 0) := by decide +kernel
theorem fe_84_10 : am_fetch 84 10 = some (.invokevirtual 48, 3, 7, 83, 0) := by decide +kernel
theorem fe_84_13 : am_fetch 84 13 = some (.ireturn, 1, 8, 0, 0) := by decide +kernel
theorem fe_85_0 : am_fetch 85 0 = some (.aload_n 0, 1, 1, 0, 0) := by decide +kernel
theorem fe_85_1 : am_fetch 85 1 = some (.getfield 12, 3, 3, 10, 0) := by decide +kernel
theorem fe_85_4 : am_fetch 85 4 = some (.getfield 18, 3, 3, 107, 8) := by decide +kernel
theorem fe_85_7 : am_fetch 85 7 = some (.iload_n 1, 1, 1, 0, 0) := by decide +kernel
theorem fe_85_8 : am_fetch 85 8 = some (.iload_n 2, 1, 1, 0, 0) := by decide +kernel
theorem fe_85_9 : am_fetch 85 9 = some (.invokevirtual 95, 3, 7, 82, 0) := by decide +kernel
theorem fe_85_12 : am_fetch 85 12 = some (.ifCond .eq 17, 3, 2, 29, 0) := by decide +kernel
theorem fe_85_15 : am_fetch 85 15 = some (.aload_n 0, 1, 1, 0, 0) := by decide +kernel
theorem fe_85_16 : am_fetch 85 16 = some (.getfield 12, 3, 3, 10, 0) := by decide +kernel
theorem fe_85_19 : am_fetch 85 19 = some (.getfield 18, 3, 3, 107, 8) := by decide +kernel
theorem fe_85_22 : am_fetch 85 22 = some (.iload_n 3, 1, 1, 0, 0) := by decide +kernel
theorem fe_85_23 : am_fetch 85 23 = some (.invokevirtual 99, 3, 7, 55, 0) := by decide +kernel
theorem fe_85_26 : am_fetch 85 26 = some (.ifCond .ne 13, 3, 2, 39, 0) := by decide +kernel
theorem fe_85_29 : am_fetch 85 29 = some (.new 102, 3, 9, 2, 0) := by decide +kernel
theorem fe_85_32 : am_fetch 85 32 = some (.dup, 1, 0, 0, 0) := by decide +kernel
theorem fe_85_39 : am_fetch 85 39 = some (.iload_n 3, 1, 1, 0, 0) := by decide +kernel
theorem fe_85_40 : am_fetch 85 40 = some (.iload_n 1, 1, 1, 0, 0) := by decide +kernel
theorem fe_85_41 : am_fetch 85 41 = some (.if_icmp .gt 13, 3, 2, 54, 0) := by decide +kernel
theorem fe_85_44 : am_fetch 85 44 = some (.new 69, 3, 9, 0, 0) := by decide +kernel
theorem fe_85_47 : am_fetch 85 47 = some (.dup, 1, 0, 0, 0) := by decide +kernel
theorem fe_85_54 : am_fetch 85 54 = some (.aload_n 0, 1, 1, 0, 0) := by decide +kernel
theorem fe_85_55 : am_fetch 85 55 = some (.getfield 52, 3, 3, 10, 4) := by decide +kernel
theorem fe_85_58 : am_fetch 85 58 = some (.aload_n 0, 1, 1, 0, 0) := by decide +kernel
theorem fe_85_59 : am_fetch 85 59 = some (.getfield 12, 3, 3, 10, 0) := by decide +kernel
theorem fe_85_62 : am_fetch 85 62 = some (.invokevirtual 87, 3, 7, 79, 0) := by decide +kernel
theorem fe_85_65 : am_fetch 85 65 = some (.aload_n 0, 1, 1, 0, 0) := by decide +kernel
theorem fe_85_66 : am_fetch 85 66 = some (.getfield 12, 3, 3, 10, 0) := by decide +kernel
theorem fe_85_69 : am_fetch 85 69 = some (.getfield 18, 3, 3, 107, 8) := by decide +kernel
theorem fe_85_72 : am_fetch 85 72 = some (.iload_n 1, 1, 1, 0, 0) := by decide +kernel
theorem fe_85_73 : am_fetch 85 73 = some (.iload_n 2, 1, 1, 0, 0) := by decide +kernel
theorem fe_85_74 : am_fetch 85 74 = some (.iload_n 3, 1, 1, 0, 0) := by decide +kernel
theorem fe_85_75 : am_fetch 85 75 = some (.invokevirtual 109, 3, 7, 84, 0) := by decide +kernel
theorem fe_85_78 : am_fetch 85 78 = some (.ireturn, 1, 8, 0, 0) := by decide +kernel
theorem fe_86_0 : am_fetch 86 0 = some (.aload_n 0, 1, 1, 0, 0) := by decide +kernel
theorem fe_86_1 : am_fetch 86 1 = some (.getfield 23, 3, 3, 1, 3) := by decide +kernel
theorem fe_86_4 : am_fetch 86 4 = some (.iload_n 1, 1, 1, 0, 0) := by decide +kernel
theorem fe_86_5 : am_fetch 86 5 = some (.iconst 1, 1, 0, 0, 0) := by decide +kernel
theorem fe_86_6 : am_fetch 86 6 = some (.invokevirtual 52, 3, 7, 18, 0) := by decide +kernel
theorem fe_86_9 : am_fetch 86 9 = some (.aload_n 0, 1, 1, 0, 0) := by decide +kernel
theorem fe_86_10 : am_fetch 86 10 = some (.getfield 14, 3, 3, 1, 1) := by decide +kernel
theorem fe_86_13 : am_fetch 86 13 = some (.iload_n 1, 1, 1, 0, 0) := by decide +kernel
theorem fe_86_14 : am_fetch 86 14 = some (.iconst 1, 1, 0, 0, 0) := by decide +kernel
theorem fe_86_15 : am_fetch 86 15 = some (.aload_n 0, 1, 1, 0, 0) := by decide +kernel
theorem fe_86_16 : am_fetch 86 16 = some (.getfield 14, 3, 3, 1, 1) := by decide +kernel
theorem fe_86_19 : am_fetch 86 19 = some (.iload_n 1, 1, 1, 0, 0) := by decide +kernel
theorem fe_86_20 : am_fetch 86 20 = some (.invokevirtual 55, 3, 7, 12, 0) := by decide +kernel
theorem fe_86_23 : am_fetch 86 23 = some (.isub, 1, 0, 0, 0) := by decide +kernel
theorem fe_86_24 : am_fetch 86 24 = some (.invokevirtual 44, 3, 7, 4, 0) := by decide +kernel
theorem fe_86_27 : am_fetch 86 27 = some (.aload_n 0, 1, 1, 0, 0) := by decide +kernel
theorem fe_86_28 : am_fetch 86 28 = some (.getfield 14, 3, 3, 1, 1) := by decide +kernel
theorem fe_86_31 : am_fetch 86 31 = some (.iload_n 1, 1, 1, 0, 0) := by decide +kernel
theorem fe_86_32 : am_fetch 86 32 = some (.invokevirtual 55, 3, 7, 12, 0) := by decide +kernel
theorem fe_86_35 : am_fetch 86 35 = some (.ireturn, 1, 8, 0, 0) := by decide +kernel
theorem fe_87_0 : am_fetch 87 0 = some (.aload_n 0, 1, 1, 0, 0) := by decide +kernel
theorem fe_87_1 : am_fetch 87 1 = some (.getfield 12, 3, 3, 10, 0) := by decide +kernel
theorem fe_87_4 : am_fetch 87 4 = some (.getfield 18, 3, 3, 107, 8) := by decide +kernel
theorem fe_87_7 : am_fetch 87 7 = some (.iload_n 1, 1, 1, 0, 0) := by decide +kernel
theorem fe_87_8 : am_fetch 87 8 = some (.invokevirtual 113, 3, 7, 34, 0) := by decide +kernel
theorem fe_87_11 : am_fetch 87 11 = some (.ifCond .ne 13, 3, 2, 24, 0) := by decide +kernel
theorem fe_87_14 : am_fetch 87 14 = some (.new 102, 3, 9, 2, 0) := by decide +kernel
theorem fe_87_17 : am_fetch 87 17 = some (.dup, 1, 0, 0, 0) := by decide +kernel
theorem fe_87_24 : am_fetch 87 24 = some (.aload_n 0, 1, 1, 0, 0) := by decide +kernel
theorem fe_87_25 : am_fetch 87 25 = some (.getfield 52, 3, 3, 10, 4) := by decide +kernel
theorem fe_87_28 : am_fetch 87 28 = some (.aload_n 0, 1, 1, 0, 0) := by decide +kernel
theorem fe_87_29 : am_fetch 87 29 = some (.getfield 12, 3, 3, 10, 0) := by decide +kernel
theorem fe_87_32 : am_fetch 87 32 = some (.invokevirtual 87, 3, 7, 79, 0) := by decide +kernel
theorem fe_87_35 : am_fetch 87 35 = some (.aload_n 0, 1, 1, 0, 0) := by decide +kernel
theorem fe_87_36 : am_fetch 87 36 = some (.getfield 12, 3, 3, 10, 0) := by decide +kernel
theorem fe_87_39 : am_fetch 87 39 = some (.getfield 18, 3, 3, 107, 8) := by decide +kernel
theorem fe_87_42 : am_fetch 87 42 = some (.iload_n 1, 1, 1, 0, 0) := by decide +kernel
theorem fe_87_43 : am_fetch 87 43 = some (.invokevirtual 122, 3, 7, 86, 0) := by decide +kernel
theorem fe_87_46 : am_fetch 87 46 = some (.ireturn, 1, 8, 0, 0) := by decide +kernel
theorem fe_88_0 : am_fetch 88 0 = some (.iload_n 1, 1, 1, 0, 0) := by decide +kernel
theorem fe_88_1 : am_fetch 88 1 = some (.ifCond .eq 18, 3, 2, 19, 0) := by decide +kernel
theorem fe_88_4 : am_fetch 88 4 = some (.iload_n 1, 1, 1, 0, 0) := by decide +kernel
theorem fe_88_5 : am_fetch 88 5 = some (.iconst 1, 1, 0, 0, 0) := by decide +kernel
theorem fe_88_6 : am_fetch 88 6 = some (.if_icmp .eq 13, 3, 2, 19, 0) := by decide +kernel
theorem fe_88_9 : am_fetch 88 9 = some (.new 102, 3, 9, 2, 0) := by decide +kernel
theorem fe_88_12 : am_fetch 88 12 = some (.dup, 1, 0, 0, 0) := by decide +kernel
theorem fe_88_19 : am_fetch 88 19 = some (.iload_n 2, 1, 1, 0, 0) := by decide +kernel
theorem fe_88_20 : am_fetch 88 20 = some (.iconst 1, 1, 0, 0, 0) := by decide +kernel
theorem fe_88_21 : am_fetch 88 21 = some (.if_icmp .lt 18, 3, 2, 39, 0) := by decide +kernel
theorem fe_88_24 : am_fetch 88 24 = some (.iload_n 2, 1, 1, 0, 0) := by decide +kernel
theorem fe_88_25 : am_fetch 88 25 = some (.iload_n 1, 1, 1, 0, 0) := by decide +kernel
theorem fe_88_26 : am_fetch 88 26 = some (.ifCond .ne 8, 3, 2, 34, 0) := by decide +kernel
theorem fe_88_29 : am_fetch 88 29 = some (.bipush 9, 2, 0, 0, 0) := by decide +kernel
theorem fe_88_31 : am_fetch 88 31 = some (.goto 5, 3, 2, 36, 0) := by decide +kernel
theorem fe_88_34 : am_fetch 88 34 = some (.bipush 40, 2, 0, 0, 0) := by decide +kernel
theorem fe_88_36 : am_fetch 88 36 = some (.if_icmp .le 13, 3, 2, 49, 0) := by decide +kernel
theorem fe_88_39 : am_fetch 88 39 = some (.new 69, 3, 9, 0, 0) := by decide +kernel
theorem fe_88_42 : am_fetch 88 42 = some (.dup, 1, 0, 0, 0) := by decide +kernel
theorem fe_88_49 : am_fetch 88 49 = some (.aload_n 0, 1, 1, 0, 0) := by decide +kernel
theorem fe_88_50 : am_fetch 88 50 = some (.getfield 52, 3, 3, 10, 4) := by decide +kernel
theorem fe_88_53 : am_fetch 88 53 = some (.aload_n 0, 1, 1, 0, 0) := by decide +kernel
theorem fe_88_54 : am_fetch 88 54 = some (.getfield 12, 3, 3, 10, 0) := by decide +kernel
theorem fe_88_57 : am_fetch 88 57 = some (.invokevirtual 87, 3, 7, 79, 0) := by decide +kernel
theorem fe_88_60 : am_fetch 88 60 = some (.aload_n 0, 1, 1, 0, 0) := by decide +kernel
theorem fe_88_61 : am_fetch 88 61 = some (.getfield 12, 3, 3, 10, 0) := by decide +kernel
theorem fe_88_64 : am_fetch 88 64 = some (.getfield 129, 3, 3, 107, 5) := by decide +kernel
theorem fe_88_67 : am_fetch 88 67 = some (.iload_n 1, 1, 1, 0, 0) := by decide +kernel
theorem fe_88_68 : am_fetch 88 68 = some (.iload_n 2, 1, 1, 0, 0) := by decide +kernel
theorem fe_88_69 : am_fetch 88 69 = some (.invokevirtual 133, 3, 7, 83, 0) := by decide +kernel
theorem fe_88_72 : am_fetch 88 72 = some (.ireturn, 1, 8, 0, 0) := by decide +kernel
theorem fe_89_0 : am_fetch 89 0 = some (.aload_n 0, 1, 1, 0, 0) := by decide +kernel
theorem fe_89_1 : am_fetch 89 1 = some (.getfield 24, 3, 3, 7, 6) := by decide +kernel
theorem fe_89_4 : am_fetch 89 4 = some (.iload_n 1, 1, 1, 0, 0) := by decide +kernel
theorem fe_89_5 : am_fetch 89 5 = some (.iconst 0, 1, 0, 0, 0) := by decide +kernel
theorem fe_89_6 : am_fetch 89 6 = some (.invokevirtual 80, 3, 7, 83, 0) := by decide +kernel
theorem fe_89_9 : am_fetch 89 9 = some (.istore_n 2, 1, 1, 0, 0) := by decide +kernel
theorem fe_89_10 : am_fetch 89 10 = some (.aload_n 0, 1, 1, 0, 0) := by decide +kernel
theorem fe_89_11 : am_fetch 89 11 = some (.dup, 1, 0, 0, 0) := by decide +kernel
theorem fe_89_12 : am_fetch 89 12 = some (.getfield 9, 3, 3, 7, 1) := by decide +kernel
theorem fe_89_15 : am_fetch 89 15 = some (.iload_n 2, 1, 1, 0, 0) := by decide +kernel
theorem fe_89_16 : am_fetch 89 16 = some (.iadd, 1, 0, 0, 0) := by decide +kernel
theorem fe_89_17 : am_fetch 89 17 = some (.putfield 9, 3, 4, 7, 1) := by decide +kernel
theorem fe_89_20 : am_fetch 89 20 = some (.iload_n 2, 1, 1, 0, 0) := by decide +kernel
theorem fe_89_21 : am_fetch 89 21 = some (.ireturn, 1, 8, 0, 0) := by decide +kernel
theorem fe_90_0 : am_fetch 90 0 = some (.iload_n 1, 1, 1, 0, 0) := by decide +kernel
theorem fe_90_1 : am_fetch 90 1 = some (.invokestatic 153, 3, 7, 30, 0) := by decide +kernel
theorem fe_90_4 : am_fetch 90 4 = some (.ifCond .ne 13, 3, 2, 17, 0) := by decide +kernel
theorem fe_90_7 : am_fetch 90 7 = some (.new 102, 3, 9, 2, 0) := by decide +kernel
theorem fe_90_10 : am_fetch 90 10 = some (.dup, 1, 0, 0, 0) := by decide +kernel
theorem fe_90_17 : am_fetch 90 17 = some (.aload_n 0, 1, 1, 0, 0) := by decide +kernel
theorem fe_90_18 : am_fetch 90 18 = some (.getfield 52, 3, 3, 10, 4) := by decide +kernel
theorem fe_90_21 : am_fetch 90 21 = some (.aload_n 0, 1, 1, 0, 0) := by decide +kernel
theorem fe_90_22 : am_fetch 90 22 = some (.getfield 12, 3, 3, 10, 0) := by decide +kernel
theorem fe_90_25 : am_fetch 90 25 = some (.invokevirtual 87, 3, 7, 79, 0) := by decide +kernel
theorem fe_90_28 : am_fetch 90 28 = some (.aload_n 0, 1, 1, 0, 0) := by decide +kernel
theorem fe_90_29 : am_fetch 90 29 = some (.getfield 12, 3, 3, 10, 0) := by decide +kernel
theorem fe_90_32 : am_fetch 90 32 = some (.iload_n 1, 1, 1, 0, 0) := by decide +kernel
theorem fe_90_33 : am_fetch 90 33 = some (.invokevirtual 158, 3, 7, 89, 0) := by decide +kernel
theorem fe_90_36 : am_fetch 90 36 = some (.ireturn, 1, 8, 0, 0) := by decide +kernel
theorem fe_91_0 : am_fetch 91 0 = some (.aload_n 0, 1, 1, 0, 0) := by decide +kernel
theorem fe_91_1 : am_fetch 91 1 = some (.getfield 58, 3, 3, 7, 2) := by decide +kernel
theorem fe_91_4 : am_fetch 91 4 = some (.iload_n 1, 1, 1, 0, 0) := by decide +kernel
theorem fe_91_5 : am_fetch 91 5 = some (.iadd, 1, 0, 0, 0) := by decide +kernel
theorem fe_91_6 : am_fetch 91 6 = some (.sipush 200, 3, 0, 0, 0) := by decide +kernel
theorem fe_91_9 : am_fetch 91 9 = some (.if_icmp .gt 7, 3, 2, 16, 0) := by decide +kernel
theorem fe_91_12 : am_fetch 91 12 = some (.iconst 1, 1, 0, 0, 0) := by decide +kernel
theorem fe_91_13 : am_fetch 91 13 = some (.goto 4, 3, 2, 17, 0) := by decide +kernel
theorem fe_91_16 : am_fetch 91 16 = some (.iconst 0, 1, 0, 0, 0) := by decide +kernel
theorem fe_91_17 : am_fetch 91 17 = some (.ireturn, 1, 8, 0, 0) := by decide +kernel
theorem fe_92_0 : am_fetch 92 0 = some (.aload_n 0, 1, 1, 0, 0) := by decide +kernel
theorem fe_92_1 : am_fetch 92 1 = some (.dup, 1, 0, 0, 0) := by decide +kernel
theorem fe_92_2 : am_fetch 92 2 = some (.getfield 58, 3, 3, 7, 2) := by decide +kernel
theorem fe_92_5 : am_fetch 92 5 = some (.iload_n 1, 1, 1, 0, 0) := by decide +kernel
theorem fe_92_6 : am_fetch 92 6 = some (.iadd, 1, 0, 0, 0) := by decide +kernel
theorem fe_92_7 : am_fetch 92 7 = some (.putfield 58, 3, 4, 7, 2) := by decide +kernel
theorem fe_92_10 : am_fetch 92 10 = some (.aload_n 0, 1, 1, 0, 0) := by decide +kernel
theorem fe_92_11 : am_fetch 92 11 = some (.getfield 58, 3, 3, 7, 2) := by decide +kernel
theorem fe_92_14 : am_fetch 92 14 = some (.ireturn, 1, 8, 0, 0) := by decide +kernel
theorem fe_93_0 : am_fetch 93 0 = some (.iload_n 1, 1, 1, 0, 0) := by decide +kernel
theorem fe_93_1 : am_fetch 93 1 = some (.iconst 1, 1, 0, 0, 0) := by decide +kernel
theorem fe_93_2 : am_fetch 93 2 = some (.if_icmp .lt 9, 3, 2, 11, 0) := by decide +kernel
theorem fe_93_5 : am_fetch 93 5 = some (.iload_n 1, 1, 1, 0, 0) := by decide +kernel
theorem fe_93_6 : am_fetch 93 6 = some (.bipush 40, 2, 0, 0, 0) := by decide +kernel
theorem fe_93_8 : am_fetch 93 8 = some (.if_icmp .le 13, 3, 2, 21, 0) := by decide +kernel
theorem fe_93_11 : am_fetch 93 11 = some (.new 69, 3, 9, 0, 0) := by decide +kernel
theorem fe_93_14 : am_fetch 93 14 = some (.dup, 1, 0, 0, 0) := by decide +kernel
theorem fe_93_21 : am_fetch 93 21 = some (.aload_n 0, 1, 1, 0, 0) := by decide +kernel
theorem fe_93_22 : am_fetch 93 22 = some (.getfield 12, 3, 3, 10, 0) := by decide +kernel
theorem fe_93_25 : am_fetch 93 25 = some (.iload_n 1, 1, 1, 0, 0) := by decide +kernel
theorem fe_93_26 : am_fetch 93 26 = some (.invokevirtual 140, 3, 7, 91, 0) := by decide +kernel
theorem fe_93_29 : am_fetch 93 29 = some (.ifCond .ne 13, 3, 2, 42, 0) := by decide +kernel
theorem fe_93_32 : am_fetch 93 32 = some (.new 82, 3, 9, 1, 0) := by decide +kernel
theorem fe_93_35 : am_fetch 93 35 = some (.dup, 1, 0, 0, 0) := by decide +kernel
theorem fe_93_42 : am_fetch 93 42 = some (.aload_n 0, 1, 1, 0, 0) := by decide +kernel
theorem fe_93_43 : am_fetch 93 43 = some (.getfield 52, 3, 3, 10, 4) := by decide +kernel
theorem fe_93_46 : am_fetch 93 46 = some (.aload_n 0, 1, 1, 0, 0) := by decide +kernel
theorem fe_93_47 : am_fetch 93 47 = some (.getfield 12, 3, 3, 10, 0) := by decide +kernel
theorem fe_93_50 : am_fetch 93 50 = some (.invokevirtual 87, 3, 7, 79, 0) := by decide +kernel
theorem fe_93_53 : am_fetch 93 53 = some (.aload_n 0, 1, 1, 0, 0) := by decide +kernel
theorem fe_93_54 : am_fetch 93 54 = some (.getfield 12, 3, 3, 10, 0) := by decide +kernel
theorem fe_93_57 : am_fetch 93 57 = some (.iload_n 1, 1, 1, 0, 0) := by decide +kernel
theorem fe_93_58 : am_fetch 93 58 = some (.invokevirtual 145, 3, 7, 92, 0) := by decide +kernel
theorem fe_93_61 : am_fetch 93 61 = some (.ireturn, 1, 8, 0, 0) := by decide +kernel
theorem fe_94_0 : am_fetch 94 0 = some (.aload_n 0, 1, 1, 0, 0) := by decide +kernel
theorem fe_94_1 : am_fetch 94 1 = some (.iload_n 1, 1, 1, 0, 0) := by decide +kernel
theorem fe_94_2 : am_fetch 94 2 = some (.invokevirtual 10, 3, 7, 93, 0) := by decide +kernel
theorem fe_94_5 : am_fetch 94 5 = some (.ireturn, 1, 8, 0, 0) := by decide +kernel
theorem fe_94_6 : am_fetch 94 6 = some (.astore_n 2, 1, 1, 0, 0) := by decide +kernel
theorem fe_94_7 : am_fetch 94 7 = some (.sipush (-7001), 3, 0, 0, 0) := by decide +kernel
theorem fe_94_10 : am_fetch 94 10 = some (.ireturn, 1, 8, 0, 0) := by decide +kernel
theorem fe_94_11 : am_fetch 94 11 = some (.astore_n 2, 1, 1, 0, 0) := by decide +kernel
theorem fe_94_12 : am_fetch 94 12 = some (.sipush (-7002), 3, 0, 0, 0) := by decide +kernel
theorem fe_94_15 : am_fetch 94 15 = some (.ireturn, 1, 8, 0, 0) := by decide +kernel
theorem fe_95_0 : am_fetch 95 0 = some (.aload_n 0, 1, 1, 0, 0) := by decide +kernel
theorem fe_95_1 : am_fetch 95 1 = some (.aload_n 0, 1, 1, 0, 0) := by decide +kernel
theorem fe_95_2 : am_fetch 95 2 = some (.getfield 30, 3, 3, 8, 1) := by decide +kernel
theorem fe_95_5 : am_fetch 95 5 = some (.invokevirtual 40, 3, 7, 16, 0) := by decide +kernel
theorem fe_95_8 : am_fetch 95 8 = some (.istore 4, 2, 1, 0, 0) := by decide +kernel
theorem fe_95_10 : am_fetch 95 10 = some (.aload_n 0, 1, 1, 0, 0) := by decide +kernel
theorem fe_95_11 : am_fetch 95 11 = some (.getfield 14, 3, 3, 8, 3) := by decide +kernel
theorem fe_95_14 : am_fetch 95 14 = some (.iload 4, 2, 1, 0, 0) := by decide +kernel
theorem fe_95_16 : am_fetch 95 16 = some (.iload_n 1, 1, 1, 0, 0) := by decide +kernel
theorem fe_95_17 : am_fetch 95 17 = some (.invokevirtual 44, 3, 7, 4, 0) := by decide +kernel
theorem fe_95_20 : am_fetch 95 20 = some (.aload_n 0, 1, 1, 0, 0) := by decide +kernel
theorem fe_95_21 : am_fetch 95 21 = some (.getfield 20, 3, 3, 8, 4) := by decide +kernel
theorem fe_95_24 : am_fetch 95 24 = some (.iload 4, 2, 1, 0, 0) := by decide +kernel
theorem fe_95_26 : am_fetch 95 26 = some (.iload_n 2, 1, 1, 0, 0) := by decide +kernel
theorem fe_95_27 : am_fetch 95 27 = some (.invokevirtual 44, 3, 7, 4, 0) := by decide +kernel
theorem fe_95_30 : am_fetch 95 30 = some (.aload_n 0, 1, 1, 0, 0) := by decide +kernel
theorem fe_95_31 : am_fetch 95 31 = some (.getfield 23, 3, 3, 8, 5) := by decide +kernel
theorem fe_95_34 : am_fetch 95 34 = some (.iload 4, 2, 1, 0, 0) := by decide +kernel
theorem fe_95_36 : am_fetch 95 36 = some (.iload_n 3, 1, 1, 0, 0) := by decide +kernel
theorem fe_95_37 : am_fetch 95 37 = some (.invokevirtual 44, 3, 7, 4, 0) := by decide +kernel
theorem fe_95_40 : am_fetch 95 40 = some (.aload_n 0, 1, 1, 0, 0) := by decide +kernel
theorem fe_95_41 : am_fetch 95 41 = some (.dup, 1, 0, 0, 0) := by decide +kernel
theorem fe_95_42 : am_fetch 95 42 = some (.getfield 33, 3, 3, 8, 2) := by decide +kernel
theorem fe_95_45 : am_fetch 95 45 = some (.iconst 1, 1, 0, 0, 0) := by decide +kernel
theorem fe_95_46 : am_fetch 95 46 = some (.iadd, 1, 0, 0, 0) := by decide +kernel
theorem fe_95_47 : am_fetch 95 47 = some (.putfield 33, 3, 4, 8, 2) := by decide +kernel
theorem fe_95_50 : am_fetch 95 50 = some (.aload_n 0, 1, 1, 0, 0) := by decide +kernel
theorem fe_95_51 : am_fetch 95 51 = some (.getfield 30, 3, 3, 8, 1) := by decide +kernel
theorem fe_95_54 : am_fetch 95 54 = some (.bipush 60, 2, 0, 0, 0) := by decide +kernel
theorem fe_95_56 : am_fetch 95 56 = some (.if_icmp .ge 16, 3, 2, 72, 0) := by decide +kernel
theorem fe_95_59 : am_fetch 95 59 = some (.aload_n 0, 1, 1, 0, 0) := by decide +kernel
theorem fe_95_60 : am_fetch 95 60 = some (.dup, 1, 0, 0, 0) := by decide +kernel
theorem fe_95_61 : am_fetch 95 61 = some (.getfield 30, 3, 3, 8, 1) := by decide +kernel
theorem fe_95_64 : am_fetch 95 64 = some (.iconst 1, 1, 0, 0, 0) := by decide +kernel
theorem fe_95_65 : am_fetch 95 65 = some (.iadd, 1, 0, 0, 0) := by decide +kernel
theorem fe_95_66 : am_fetch 95 66 = some (.putfield 30, 3, 4, 8, 1) := by decide +kernel
theorem fe_95_69 : am_fetch 95 69 = some (.goto 12, 3, 2, 81, 0) := by decide +kernel
theorem fe_95_72 : am_fetch 95 72 = some (.aload_n 0, 1, 1, 0, 0) := by decide +kernel
theorem fe_95_73 : am_fetch 95 73 = some (.aload_n 0, 1, 1, 0, 0) := by decide +kernel
theorem fe_95_74 : am_fetch 95 74 = some (.iconst 1, 1, 0, 0, 0) := by decide +kernel
theorem fe_95_75 : am_fetch 95 75 = some (.invokevirtual 40, 3, 7, 16, 0) := by decide +kernel
theorem fe_95_78 : am_fetch 95 78 = some (.putfield 26, 3, 4, 8, 0) := by decide +kernel
theorem fe_95_81 : am_fetch 95 81 = some (.return_, 1, 8, 0, 0) := by decide +kernel
theorem fe_96_0 : am_fetch 96 0 = some (.aload_n 0, 1, 1, 0, 0) := by decide +kernel
theorem fe_96_1 : am_fetch 96 1 = some (.getfield 14, 3, 3, 1, 1) := by decide +kernel
theorem fe_96_4 : am_fetch 96 4 = some (.iload_n 1, 1, 1, 0, 0) := by decide +kernel
theorem fe_96_5 : am_fetch 96 5 = some (.invokevirtual 55, 3, 7, 12, 0) := by decide +kernel
theorem fe_96_8 : am_fetch 96 8 = some (.istore_n 2, 1, 1, 0, 0) := by decide +kernel
theorem fe_96_9 : am_fetch 96 9 = some (.aload_n 0, 1, 1, 0, 0) := by decide +kernel
theorem fe_96_10 : am_fetch 96 10 = some (.getfield 29, 3, 3, 1, 5) := by decide +kernel
theorem fe_96_13 : am_fetch 96 13 = some (.iconst 2, 1, 0, 0, 0) := by decide +kernel
theorem fe_96_14 : am_fetch 96 14 = some (.iload_n 1, 1, 1, 0, 0) := by decide +kernel
theorem fe_96_15 : am_fetch 96 15 = some (.imul, 1, 0, 0, 0) := by decide +kernel
theorem fe_96_16 : am_fetch 96 16 = some (.iload_n 2, 1, 1, 0, 0) := by decide +kernel
theorem fe_96_17 : am_fetch 96 17 = some (.iadd, 1, 0, 0, 0) := by decide +kernel
theorem fe_96_18 : am_fetch 96 18 = some (.iconst 1, 1, 0, 0, 0) := by decide +kernel
theorem fe_96_19 : am_fetch 96 19 = some (.invokevirtual 52, 3, 7, 18, 0) := by decide +kernel
theorem fe_96_22 : am_fetch 96 22 = some (.aload_n 0, 1, 1, 0, 0) := by decide +kernel
theorem fe_96_23 : am_fetch 96 23 = some (.getfield 14, 3, 3, 1, 1) := by decide +kernel
theorem fe_96_26 : am_fetch 96 26 = some (.iload_n 1, 1, 1, 0, 0) := by decide +kernel
theorem fe_96_27 : am_fetch 96 27 = some (.iconst 1, 1, 0, 0, 0) := by decide +kernel
theorem fe_96_28 : am_fetch 96 28 = some (.iload_n 2, 1, 1, 0, 0) := by decide +kernel
theorem fe_96_29 : am_fetch 96 29 = some (.isub, 1, 0, 0, 0) := by decide +kernel
theorem fe_96_30 : am_fetch 96 30 = some (.invokevirtual 44, 3, 7, 4, 0) := by decide +kernel
theorem fe_96_33 : am_fetch 96 33 = some (.aload_n 0, 1, 1, 0, 0) := by decide +kernel
theorem fe_96_34 : am_fetch 96 34 = some (.iload_n 1, 1, 1, 0, 0) := by decide +kernel
theorem fe_96_35 : am_fetch 96 35 = some (.iload_n 2, 1, 1, 0, 0) := by decide +kernel
theorem fe_96_36 : am_fetch 96 36 = some (.invokevirtual 59, 3, 7, 31, 0) := by decide +kernel
theorem fe_96_39 : am_fetch 96 39 = some (.ireturn, 1, 8, 0, 0) := by decide +kernel
theorem fe_97_0 : am_fetch 97 0 = some (.aload_n 0, 1, 1, 0, 0) := by decide +kernel
theorem fe_97_1 : am_fetch 97 1 = some (.getfield 14, 3, 3, 0, 1) := by decide +kernel
theorem fe_97_4 : am_fetch 97 4 = some (.iload_n 2, 1, 1, 0, 0) := by decide +kernel
theorem fe_97_5 : am_fetch 97 5 = some (.iload_n 3, 1, 1, 0, 0) := by decide +kernel
theorem fe_97_6 : am_fetch 97 6 = some (.invokevirtual 34, 3, 7, 4, 0) := by decide +kernel
theorem fe_97_9 : am_fetch 97 9 = some (.aload_n 0, 1, 1, 0, 0) := by decide +kernel
theorem fe_97_10 : am_fetch 97 10 = some (.getfield 20, 3, 3, 0, 2) := by decide +kernel
theorem fe_97_13 : am_fetch 97 13 = some (.iload_n 2, 1, 1, 0, 0) := by decide +kernel
theorem fe_97_14 : am_fetch 97 14 = some (.aload_n 0, 1, 1, 0, 0) := by decide +kernel
theorem fe_97_15 : am_fetch 97 15 = some (.getfield 20, 3, 3, 0, 2) := by decide +kernel
theorem fe_97_18 : am_fetch 97 18 = some (.iload_n 1, 1, 1, 0, 0) := by decide +kernel
theorem fe_97_19 : am_fetch 97 19 = some (.invokevirtual 38, 3, 7, 12, 0) := by decide +kernel
theorem fe_97_22 : am_fetch 97 22 = some (.invokevirtual 34, 3, 7, 4, 0) := by decide +kernel
theorem fe_97_25 : am_fetch 97 25 = some (.aload_n 0, 1, 1, 0, 0) := by decide +kernel
theorem fe_97_26 : am_fetch 97 26 = some (.getfield 23, 3, 3, 0, 3) := by decide +kernel
theorem fe_97_29 : am_fetch 97 29 = some (.iload_n 2, 1, 1, 0, 0) := by decide +kernel
theorem fe_97_30 : am_fetch 97 30 = some (.aload_n 0, 1, 1, 0, 0) := by decide +kernel
theorem fe_97_31 : am_fetch 97 31 = some (.getfield 23, 3, 3, 0, 3) := by decide +kernel
theorem fe_97_34 : am_fetch 97 34 = some (.iload_n 1, 1, 1, 0, 0) := by decide +kernel
theorem fe_97_35 : am_fetch 97 35 = some (.invokevirtual 38, 3, 7, 12, 0) := by decide +kernel
theorem fe_97_38 : am_fetch 97 38 = some (.iconst 1, 1, 0, 0, 0) := by decide +kernel
theorem fe_97_39 : am_fetch 97 39 = some (.iadd, 1, 0, 0, 0) := by decide +kernel
theorem fe_97_40 : am_fetch 97 40 = some (.invokevirtual 34, 3, 7, 4, 0) := by decide +kernel
theorem fe_97_43 : am_fetch 97 43 = some (.return_, 1, 8, 0, 0) := by decide +kernel
theorem fe_98_0 : am_fetch 98 0 = some (.aload_n 0, 1, 1, 0, 0) := by decide +kernel
theorem fe_98_1 : am_fetch 98 1 = some (.getfield 40, 3, 3, 7, 9) := by decide +kernel
theorem fe_98_4 : am_fetch 98 4 = some (.getfield 96, 3, 3, 100, 0) := by decide +kernel
theorem fe_98_7 : am_fetch 98 7 = some (.istore_n 1, 1, 1, 0, 0) := by decide +kernel
theorem fe_98_8 : am_fetch 98 8 = some (.iconst 0, 1, 0, 0, 0) := by decide +kernel
theorem fe_98_9 : am_fetch 98 9 = some (.istore_n 2, 1, 1, 0, 0) := by decide +kernel
theorem fe_98_10 : am_fetch 98 10 = some (.iconst 0, 1, 0, 0, 0) := by decide +kernel
theorem fe_98_11 : am_fetch 98 11 = some (.istore_n 3, 1, 1, 0, 0) := by decide +kernel
theorem fe_98_12 : am_fetch 98 12 = some (.iload_n 3, 1, 1, 0, 0) := by decide +kernel
theorem fe_98_13 : am_fetch 98 13 = some (.iload_n 1, 1, 1, 0, 0) := by decide +kernel
theorem fe_98_14 : am_fetch 98 14 = some (.if_icmp .ge 108, 3, 2, 122, 0) := by decide +kernel
theorem fe_98_17 : am_fetch 98 17 = some (.aload_n 0, 1, 1, 0, 0) := by decide +kernel
theorem fe_98_18 : am_fetch 98 18 = some (.getfield 40, 3, 3, 7, 9) := by decide +kernel
theorem fe_98_21 : am_fetch 98 21 = some (.getfield 99, 3, 3, 100, 1) := by decide +kernel
theorem fe_98_24 : am_fetch 98 24 = some (.iload_n 3, 1, 1, 0, 0) := by decide +kernel
theorem fe_98_25 : am_fetch 98 25 = some (.invokevirtual 102, 3, 7, 12, 0) := by decide +kernel
theorem fe_98_28 : am_fetch 98 28 = some (.istore 4, 2, 1, 0, 0) := by decide +kernel
theorem fe_98_30 : am_fetch 98 30 = some (.aload_n 0, 1, 1, 0, 0) := by decide +kernel
theorem fe_98_31 : am_fetch 98 31 = some (.getfield 47, 3, 3, 7, 10) := by decide +kernel
theorem fe_98_34 : am_fetch 98 34 = some (.aload_n 0, 1, 1, 0, 0) := by decide +kernel
theorem fe_98_35 : am_fetch 98 35 = some (.getfield 55, 3, 3, 7, 0) := by decide +kernel
theorem fe_98_38 : am_fetch 98 38 = some (.iload 4, 2, 1, 0, 0) := by decide +kernel
theorem fe_98_40 : am_fetch 98 40 = some (.aload_n 0, 1, 1, 0, 0) := by decide +kernel
theorem fe_98_41 : am_fetch 98 41 = some (.getfield 33, 3, 3, 7, 8) := by decide +kernel
theorem fe_98_44 : am_fetch 98 44 = some (.getfield 106, 3, 3, 101, 2) := by decide +kernel
theorem fe_98_47 : am_fetch 98 47 = some (.iload 4, 2, 1, 0, 0) := by decide +kernel
theorem fe_98_49 : am_fetch 98 49 = some (.invokevirtual 102, 3, 7, 12, 0) := by decide +kernel
theorem fe_98_52 : am_fetch 98 52 = some (.invokevirtual 109, 3, 7, 95, 0) := by decide +kernel
theorem fe_98_55 : am_fetch 98 55 = some (.aload_n 0, 1, 1, 0, 0) := by decide +kernel
theorem fe_98_56 : am_fetch 98 56 = some (.getfield 33, 3, 3, 7, 8) := by decide +kernel
theorem fe_98_59 : am_fetch 98 59 = some (.iload 4, 2, 1, 0, 0) := by decide +kernel
theorem fe_98_61 : am_fetch 98 61 = some (.invokevirtual 113, 3, 7, 96, 0) := by decide +kernel
theorem fe_98_64 : am_fetch 98 64 = some (.istore 5, 2, 1, 0, 0) := by decide +kernel
theorem fe_98_66 : am_fetch 98 66 = some (.iload 5, 2, 1, 0, 0) := by decide +kernel
theorem fe_98_68 : am_fetch 98 68 = some (.bipush 20, 2, 0, 0, 0) := by decide +kernel
theorem fe_98_70 : am_fetch 98 70 = some (.if_icmp .ge 20, 3, 2, 90, 0) := by decide +kernel
theorem fe_98_73 : am_fetch 98 73 = some (.aload_n 0, 1, 1, 0, 0) := by decide +kernel
theorem fe_98_74 : am_fetch 98 74 = some (.getfield 40, 3, 3, 7, 9) := by decide +kernel
theorem fe_98_77 : am_fetch 98 77 = some (.iload_n 3, 1, 1, 0, 0) := by decide +kernel
theorem fe_98_78 : am_fetch 98 78 = some (.iload_n 2, 1, 1, 0, 0) := by decide +kernel
theorem fe_98_79 : am_fetch 98 79 = some (.iload 5, 2, 1, 0, 0) := by decide +kernel
theorem fe_98_81 : am_fetch 98 81 = some (.invokevirtual 116, 3, 7, 97, 0) := by decide +kernel
theorem fe_98_84 : am_fetch 98 84 = some (.iinc 2 1, 3, 1, 0, 0) := by decide +kernel
theorem fe_98_87 : am_fetch 98 87 = some (.goto 29, 3, 2, 116, 0) := by decide +kernel
theorem fe_98_90 : am_fetch 98 90 = some (.aload_n 0, 1, 1, 0, 0) := by decide +kernel
theorem fe_98_91 : am_fetch 98 91 = some (.getfield 24, 3, 3, 7, 6) := by decide +kernel
theorem fe_98_94 : am_fetch 98 94 = some (.iload 5, 2, 1, 0, 0) := by decide +kernel
theorem fe_98_96 : am_fetch 98 96 = some (.bipush 20, 2, 0, 0, 0) := by decide +kernel
theorem fe_98_98 : am_fetch 98 98 = some (.isub, 1, 0, 0, 0) := by decide +kernel
theorem fe_98_99 : am_fetch 98 99 = some (.iconst 1, 1, 0, 0, 0) := by decide +kernel
theorem fe_98_100 : am_fetch 98 100 = some (.invokevirtual 119, 3, 7, 18, 0) := by decide +kernel
theorem fe_98_103 : am_fetch 98 103 = some (.aload_n 0, 1, 1, 0, 0) := by decide +kernel
theorem fe_98_104 : am_fetch 98 104 = some (.getfield 27, 3, 3, 7, 7) := by decide +kernel
theorem fe_98_107 : am_fetch 98 107 = some (.iload 5, 2, 1, 0, 0) := by decide +kernel
theorem fe_98_109 : am_fetch 98 109 = some (.bipush 20, 2, 0, 0, 0) := by decide +kernel
theorem fe_98_111 : am_fetch 98 111 = some (.isub, 1, 0, 0, 0) := by decide +kernel
theorem fe_98_112 : am_fetch 98 112 = some (.iconst 1, 1, 0, 0, 0) := by decide +kernel
theorem fe_98_113 : am_fetch 98 113 = some (.invokevirtual 119, 3, 7, 18, 0) := by decide +kernel
theorem fe_98_116 : am_fetch 98 116 = some (.iinc 3 1, 3, 1, 0, 0) := by decide +kernel
theorem fe_98_119 : am_fetch 98 119 = some (.goto (-107), 3, 2, 12, 0) := by decide +kernel
theorem fe_98_122 : am_fetch 98 122 = some (.aload_n 0, 1, 1, 0, 0) := by decide +kernel
theorem fe_98_123 : am_fetch 98 123 = some (.getfield 40, 3, 3, 7, 9) := by decide +kernel
theorem fe_98_126 : am_fetch 98 126 = some (.iload_n 2, 1, 1, 0, 0) := by decide +kernel
theorem fe_98_127 : am_fetch 98 127 = some (.putfield 96, 3, 4, 100, 0) := by decide +kernel
theorem fe_98_130 : am_fetch 98 130 = some (.return_, 1, 8, 0, 0) := by decide +kernel
theorem fe_99_0 : am_fetch 99 0 = some (.aload_n 0, 1, 1, 0, 0) := by decide +kernel
theorem fe_99_1 : am_fetch 99 1 = some (.getfield 14, 3, 3, 0, 1) := by decide +kernel
theorem fe_99_4 : am_fetch 99 4 = some (.aload_n 0, 1, 1, 0, 0) := by decide +kernel
theorem fe_99_5 : am_fetch 99 5 = some (.getfield 26, 3, 3, 0, 0) := by decide +kernel
theorem fe_99_8 : am_fetch 99 8 = some (.iconst 0, 1, 0, 0, 0) := by decide +kernel
theorem fe_99_9 : am_fetch 99 9 = some (.invokevirtual 34, 3, 7, 4, 0) := by decide +kernel
theorem fe_99_12 : am_fetch 99 12 = some (.aload_n 0, 1, 1, 0, 0) := by decide +kernel
theorem fe_99_13 : am_fetch 99 13 = some (.getfield 20, 3, 3, 0, 2) := by decide +kernel
theorem fe_99_16 : am_fetch 99 16 = some (.aload_n 0, 1, 1, 0, 0) := by decide +kernel
theorem fe_99_17 : am_fetch 99 17 = some (.getfield 26, 3, 3, 0, 0) := by decide +kernel
theorem fe_99_20 : am_fetch 99 20 = some (.iload_n 1, 1, 1, 0, 0) := by decide +kernel
theorem fe_99_21 : am_fetch 99 21 = some (.invokevirtual 34, 3, 7, 4, 0) := by decide +kernel
theorem fe_99_24 : am_fetch 99 24 = some (.aload_n 0, 1, 1, 0, 0) := by decide +kernel
theorem fe_99_25 : am_fetch 99 25 = some (.getfield 23, 3, 3, 0, 3) := by decide +kernel
theorem fe_99_28 : am_fetch 99 28 = some (.aload_n 0, 1, 1, 0, 0) := by decide +kernel
theorem fe_99_29 : am_fetch 99 29 = some (.getfield 26, 3, 3, 0, 0) := by decide +kernel
theorem fe_99_32 : am_fetch 99 32 = some (.iconst 0, 1, 0, 0, 0) := by decide +kernel
theorem fe_99_33 : am_fetch 99 33 = some (.invokevirtual 34, 3, 7, 4, 0) := by decide +kernel
theorem fe_99_36 : am_fetch 99 36 = some (.aload_n 0, 1, 1, 0, 0) := by decide +kernel
theorem fe_99_37 : am_fetch 99 37 = some (.dup, 1, 0, 0, 0) := by decide +kernel
theorem fe_99_38 : am_fetch 99 38 = some (.getfield 26, 3, 3, 0, 0) := by decide +kernel
theorem fe_99_41 : am_fetch 99 41 = some (.iconst 1, 1, 0, 0, 0) := by decide +kernel
theorem fe_99_42 : am_fetch 99 42 = some (.iadd, 1, 0, 0, 0) := by decide +kernel
theorem fe_99_43 : am_fetch 99 43 = some (.putfield 26, 3, 4, 0, 0) := by decide +kernel
theorem fe_99_46 : am_fetch 99 46 = some (.return_, 1, 8, 0, 0) := by decide +kernel
theorem fe_100_0 : am_fetch 100 0 = some (.aload_n 0, 1, 1, 0, 0) := by decide +kernel
theorem fe_100_1 : am_fetch 100 1 = some (.getfield 20, 3, 3, 7, 5) := by decide +kernel
theorem fe_100_4 : am_fetch 100 4 = some (.iconst 0, 1, 0, 0, 0) := by decide +kernel
theorem fe_100_5 : am_fetch 100 5 = some (.invokevirtual 102, 3, 7, 12, 0) := by decide +kernel
theorem fe_100_8 : am_fetch 100 8 = some (.istore_n 1, 1, 1, 0, 0) := by decide +kernel
theorem fe_100_9 : am_fetch 100 9 = some (.iload_n 1, 1, 1, 0, 0) := by decide +kernel
theorem fe_100_10 : am_fetch 100 10 = some (.ifCond .le 78, 3, 2, 88, 0) := by decide +kernel
theorem fe_100_13 : am_fetch 100 13 = some (.aload_n 0, 1, 1, 0, 0) := by decide +kernel
theorem fe_100_14 : am_fetch 100 14 = some (.getfield 55, 3, 3, 7, 0) := by decide +kernel
theorem fe_100_17 : am_fetch 100 17 = some (.iload_n 1, 1, 1, 0, 0) := by decide +kernel
theorem fe_100_18 : am_fetch 100 18 = some (.irem, 1, 0, 0, 0) := by decide +kernel
theorem fe_100_19 : am_fetch 100 19 = some (.ifCond .ne 69, 3, 2, 88, 0) := by decide +kernel
theorem fe_100_22 : am_fetch 100 22 = some (.aload_n 0, 1, 1, 0, 0) := by decide +kernel
theorem fe_100_23 : am_fetch 100 23 = some (.getfield 58, 3, 3, 7, 2) := by decide +kernel
theorem fe_100_26 : am_fetch 100 26 = some (.ifCond .le 62, 3, 2, 88, 0) := by decide +kernel
theorem fe_100_29 : am_fetch 100 29 = some (.aload_n 0, 1, 1, 0, 0) := by decide +kernel
theorem fe_100_30 : am_fetch 100 30 = some (.getfield 9, 3, 3, 7, 1) := by decide +kernel
theorem fe_100_33 : am_fetch 100 33 = some (.ifCond .le 55, 3, 2, 88, 0) := by decide +kernel
theorem fe_100_36 : am_fetch 100 36 = some (.aload_n 0, 1, 1, 0, 0) := by decide +kernel
theorem fe_100_37 : am_fetch 100 37 = some (.getfield 33, 3, 3, 7, 8) := by decide +kernel
theorem fe_100_40 : am_fetch 100 40 = some (.iconst 0, 1, 0, 0, 0) := by decide +kernel
theorem fe_100_41 : am_fetch 100 41 = some (.invokevirtual 122, 3, 7, 34, 0) := by decide +kernel
theorem fe_100_44 : am_fetch 100 44 = some (.ifCond .eq 44, 3, 2, 88, 0) := by decide +kernel
theorem fe_100_47 : am_fetch 100 47 = some (.aload_n 0, 1, 1, 0, 0) := by decide +kernel
theorem fe_100_48 : am_fetch 100 48 = some (.dup, 1, 0, 0, 0) := by decide +kernel
theorem fe_100_49 : am_fetch 100 49 = some (.getfield 9, 3, 3, 7, 1) := by decide +kernel
theorem fe_100_52 : am_fetch 100 52 = some (.iconst 1, 1, 0, 0, 0) := by decide +kernel
theorem fe_100_53 : am_fetch 100 53 = some (.isub, 1, 0, 0, 0) := by decide +kernel
theorem fe_100_54 : am_fetch 100 54 = some (.putfield 9, 3, 4, 7, 1) := by decide +kernel
theorem fe_100_57 : am_fetch 100 57 = some (.aload_n 0, 1, 1, 0, 0) := by decide +kernel
theorem fe_100_58 : am_fetch 100 58 = some (.dup, 1, 0, 0, 0) := by decide +kernel
theorem fe_100_59 : am_fetch 100 59 = some (.getfield 58, 3, 3, 7, 2) := by decide +kernel
theorem fe_100_62 : am_fetch 100 62 = some (.iconst 1, 1, 0, 0, 0) := by decide +kernel
theorem fe_100_63 : am_fetch 100 63 = some (.isub, 1, 0, 0, 0) := by decide +kernel
theorem fe_100_64 : am_fetch 100 64 = some (.putfield 58, 3, 4, 7, 2) := by decide +kernel
theorem fe_100_67 : am_fetch 100 67 = some (.aload_n 0, 1, 1, 0, 0) := by decide +kernel
theorem fe_100_68 : am_fetch 100 68 = some (.dup, 1, 0, 0, 0) := by decide +kernel
theorem fe_100_69 : am_fetch 100 69 = some (.getfield 61, 3, 3, 7, 3) := by decide +kernel
theorem fe_100_72 : am_fetch 100 72 = some (.iconst 1, 1, 0, 0, 0) := by decide +kernel
theorem fe_100_73 : am_fetch 100 73 = some (.iadd, 1, 0, 0, 0) := by decide +kernel
theorem fe_100_74 : am_fetch 100 74 = some (.putfield 61, 3, 4, 7, 3) := by decide +kernel
theorem fe_100_77 : am_fetch 100 77 = some (.aload_n 0, 1, 1, 0, 0) := by decide +kernel
theorem fe_100_78 : am_fetch 100 78 = some (.getfield 40, 3, 3, 7, 9) := by decide +kernel
theorem fe_100_81 : am_fetch 100 81 = some (.aload_n 0, 1, 1, 0, 0) := by decide +kernel
theorem fe_100_82 : am_fetch 100 82 = some (.getfield 55, 3, 3, 7, 0) := by decide +kernel
theorem fe_100_85 : am_fetch 100 85 = some (.invokevirtual 126, 3, 7, 99, 0) := by decide +kernel
theorem fe_100_88 : am_fetch 100 88 = some (.return_, 1, 8, 0, 0) := by decide +kernel
theorem fe_101_0 : am_fetch 101 0 = some (.iconst 0, 1, 0, 0, 0) := by decide +kernel
theorem fe_101_1 : am_fetch 101 1 = some (.istore_n 1, 1, 1, 0, 0) := by decide +kernel
theorem fe_101_2 : am_fetch 101 2 = some (.iconst 1, 1, 0, 0, 0) := by decide +kernel
theorem fe_101_3 : am_fetch 101 3 = some (.istore_n 2, 1, 1, 0, 0) := by decide +kernel
theorem fe_101_4 : am_fetch 101 4 = some (.iload_n 2, 1, 1, 0, 0) := by decide +kernel
theorem fe_101_5 : am_fetch 101 5 = some (.iconst 5, 1, 0, 0, 0) := by decide +kernel
theorem fe_101_6 : am_fetch 101 6 = some (.if_icmp .ge 30, 3, 2, 36, 0) := by decide +kernel
theorem fe_101_9 : am_fetch 101 9 = some (.aload_n 0, 1, 1, 0, 0) := by decide +kernel
theorem fe_101_10 : am_fetch 101 10 = some (.getfield 24, 3, 3, 7, 6) := by decide +kernel
theorem fe_101_13 : am_fetch 101 13 = some (.iload_n 2, 1, 1, 0, 0) := by decide +kernel
theorem fe_101_14 : am_fetch 101 14 = some (.invokevirtual 102, 3, 7, 12, 0) := by decide +kernel
theorem fe_101_17 : am_fetch 101 17 = some (.aload_n 0, 1, 1, 0, 0) := by decide +kernel
theorem fe_101_18 : am_fetch 101 18 = some (.getfield 24, 3, 3, 7, 6) := by decide +kernel
theorem fe_101_21 : am_fetch 101 21 = some (.iload_n 1, 1, 1, 0, 0) := by decide +kernel
theorem fe_101_22 : am_fetch 101 22 = some (.invokevirtual 102, 3, 7, 12, 0) := by decide +kernel
theorem fe_101_25 : am_fetch 101 25 = some (.if_icmp .le 5, 3, 2, 30, 0) := by decide +kernel
theorem fe_101_28 : am_fetch 101 28 = some (.iload_n 2, 1, 1, 0, 0) := by decide +kernel
theorem fe_101_29 : am_fetch 101 29 = some (.istore_n 1, 1, 1, 0, 0) := by decide +kernel
theorem fe_101_30 : am_fetch 101 30 = some (.iinc 2 1, 3, 1, 0, 0) := by decide +kernel
theorem fe_101_33 : am_fetch 101 33 = some (.goto (-29), 3, 2, 4, 0) := by decide +kernel
theorem fe_101_36 : am_fetch 101 36 = some (.aload_n 0, 1, 1, 0, 0) := by decide +kernel
theorem fe_101_37 : am_fetch 101 37 = some (.getfield 24, 3, 3, 7, 6) := by decide +kernel
theorem fe_101_40 : am_fetch 101 40 = some (.iload_n 1, 1, 1, 0, 0) := by decide +kernel
theorem fe_101_41 : am_fetch 101 41 = some (.invokevirtual 102, 3, 7, 12, 0) := by decide +kernel
theorem fe_101_44 : am_fetch 101 44 = some (.aload_n 0, 1, 1, 0, 0) := by decide +kernel
theorem fe_101_45 : am_fetch 101 45 = some (.getfield 20, 3, 3, 7, 5) := by decide +kernel
theorem fe_101_48 : am_fetch 101 48 = some (.iconst 1, 1, 0, 0, 0) := by decide +kernel
theorem fe_101_49 : am_fetch 101 49 = some (.invokevirtual 102, 3, 7, 12, 0) := by decide +kernel
theorem fe_101_52 : am_fetch 101 52 = some (.if_icmp .lt 32, 3, 2, 84, 0) := by decide +kernel
theorem fe_101_55 : am_fetch 101 55 = some (.aload_n 0, 1, 1, 0, 0) := by decide +kernel
theorem fe_101_56 : am_fetch 101 56 = some (.getfield 24, 3, 3, 7, 6) := by decide +kernel
theorem fe_101_59 : am_fetch 101 59 = some (.iload_n 1, 1, 1, 0, 0) := by decide +kernel
theorem fe_101_60 : am_fetch 101 60 = some (.iconst (-1), 1, 0, 0, 0) := by decide +kernel
theorem fe_101_61 : am_fetch 101 61 = some (.invokevirtual 119, 3, 7, 18, 0) := by decide +kernel
theorem fe_101_64 : am_fetch 101 64 = some (.aload_n 0, 1, 1, 0, 0) := by decide +kernel
theorem fe_101_65 : am_fetch 101 65 = some (.dup, 1, 0, 0, 0) := by decide +kernel
theorem fe_101_66 : am_fetch 101 66 = some (.getfield 9, 3, 3, 7, 1) := by decide +kernel
theorem fe_101_69 : am_fetch 101 69 = some (.iconst 1, 1, 0, 0, 0) := by decide +kernel
theorem fe_101_70 : am_fetch 101 70 = some (.iadd, 1, 0, 0, 0) := by decide +kernel
theorem fe_101_71 : am_fetch 101 71 = some (.putfield 9, 3, 4, 7, 1) := by decide +kernel
theorem fe_101_74 : am_fetch 101 74 = some (.aload_n 0, 1, 1, 0, 0) := by decide +kernel
theorem fe_101_75 : am_fetch 101 75 = some (.dup, 1, 0, 0, 0) := by decide +kernel
theorem fe_101_76 : am_fetch 101 76 = some (.getfield 64, 3, 3, 7, 4) := by decide +kernel
theorem fe_101_79 : am_fetch 101 79 = some (.iconst 1, 1, 0, 0, 0) := by decide +kernel
theorem fe_101_80 : am_fetch 101 80 = some (.iadd, 1, 0, 0, 0) := by decide +kernel
theorem fe_101_81 : am_fetch 101 81 = some (.putfield 64, 3, 4, 7, 4) := by decide +kernel
theorem fe_101_84 : am_fetch 101 84 = some (.return_, 1, 8, 0, 0) := by decide +kernel
theorem fe_102_0 : am_fetch 102 0 = some (.aload_n 0, 1, 1, 0, 0) := by decide +kernel
theorem fe_102_1 : am_fetch 102 1 = some (.getfield 47, 3, 3, 7, 10) := by decide +kernel
theorem fe_102_4 : am_fetch 102 4 = some (.getfield 84, 3, 3, 108, 2) := by decide +kernel
theorem fe_102_7 : am_fetch 102 7 = some (.istore_n 2, 1, 1, 0, 0) := by decide +kernel
theorem fe_102_8 : am_fetch 102 8 = some (.iconst 0, 1, 0, 0, 0) := by decide +kernel
theorem fe_102_9 : am_fetch 102 9 = some (.istore_n 3, 1, 1, 0, 0) := by decide +kernel
theorem fe_102_10 : am_fetch 102 10 = some (.iload_n 3, 1, 1, 0, 0) := by decide +kernel
theorem fe_102_11 : am_fetch 102 11 = some (.iload_n 1, 1, 1, 0, 0) := by decide +kernel
theorem fe_102_12 : am_fetch 102 12 = some (.if_icmp .ge 31, 3, 2, 43, 0) := by decide +kernel
theorem fe_102_15 : am_fetch 102 15 = some (.aload_n 0, 1, 1, 0, 0) := by decide +kernel
theorem fe_102_16 : am_fetch 102 16 = some (.dup, 1, 0, 0, 0) := by decide +kernel
theorem fe_102_17 : am_fetch 102 17 = some (.getfield 55, 3, 3, 7, 0) := by decide +kernel
theorem fe_102_20 : am_fetch 102 20 = some (.iconst 1, 1, 0, 0, 0) := by decide +kernel
theorem fe_102_21 : am_fetch 102 21 = some (.iadd, 1, 0, 0, 0) := by decide +kernel
theorem fe_102_22 : am_fetch 102 22 = some (.putfield 55, 3, 4, 7, 0) := by decide +kernel
theorem fe_102_25 : am_fetch 102 25 = some (.aload_n 0, 1, 1, 0, 0) := by decide +kernel
theorem fe_102_26 : am_fetch 102 26 = some (.invokevirtual 87, 3, 7, 98, 0) := by decide +kernel
theorem fe_102_29 : am_fetch 102 29 = some (.aload_n 0, 1, 1, 0, 0) := by decide +kernel
theorem fe_102_30 : am_fetch 102 30 = some (.invokevirtual 90, 3, 7, 100, 0) := by decide +kernel
theorem fe_102_33 : am_fetch 102 33 = some (.aload_n 0, 1, 1, 0, 0) := by decide +kernel
theorem fe_102_34 : am_fetch 102 34 = some (.invokevirtual 93, 3, 7, 101, 0) := by decide +kernel
theorem fe_102_37 : am_fetch 102 37 = some (.iinc 3 1, 3, 1, 0, 0) := by decide +kernel
theorem fe_102_40 : am_fetch 102 40 = some (.goto (-30), 3, 2, 10, 0) := by decide +kernel
theorem fe_102_43 : am_fetch 102 43 = some (.aload_n 0, 1, 1, 0, 0) := by decide +kernel
theorem fe_102_44 : am_fetch 102 44 = some (.getfield 47, 3, 3, 7, 10) := by decide +kernel
theorem fe_102_47 : am_fetch 102 47 = some (.getfield 84, 3, 3, 108, 2) := by decide +kernel
theorem fe_102_50 : am_fetch 102 50 = some (.iload_n 2, 1, 1, 0, 0) := by decide +kernel
theorem fe_102_51 : am_fetch 102 51 = some (.isub, 1, 0, 0, 0) := by decide +kernel
theorem fe_102_52 : am_fetch 102 52 = some (.ireturn, 1, 8, 0, 0) := by decide +kernel
theorem fe_103_0 : am_fetch 103 0 = some (.iload_n 1, 1, 1, 0, 0) := by decide +kernel
theorem fe_103_1 : am_fetch 103 1 = some (.iconst 1, 1, 0, 0, 0) := by decide +kernel
theorem fe_103_2 : am_fetch 103 2 = some (.if_icmp .lt 9, 3, 2, 11, 0) := by decide +kernel
theorem fe_103_5 : am_fetch 103 5 = some (.iload_n 1, 1, 1, 0, 0) := by decide +kernel
theorem fe_103_6 : am_fetch 103 6 = some (.bipush 50, 2, 0, 0, 0) := by decide +kernel
theorem fe_103_8 : am_fetch 103 8 = some (.if_icmp .le 13, 3, 2, 21, 0) := by decide +kernel
theorem fe_103_11 : am_fetch 103 11 = some (.new 69, 3, 9, 0, 0) := by decide +kernel
theorem fe_103_14 : am_fetch 103 14 = some (.dup, 1, 0, 0, 0) := by decide +kernel
theorem fe_103_21 : am_fetch 103 21 = some (.aload_n 0, 1, 1, 0, 0) := by decide +kernel
theorem fe_103_22 : am_fetch 103 22 = some (.getfield 52, 3, 3, 10, 4) := by decide +kernel
theorem fe_103_25 : am_fetch 103 25 = some (.aload_n 0, 1, 1, 0, 0) := by decide +kernel
theorem fe_103_26 : am_fetch 103 26 = some (.getfield 12, 3, 3, 10, 0) := by decide +kernel
theorem fe_103_29 : am_fetch 103 29 = some (.invokevirtual 87, 3, 7, 79, 0) := by decide +kernel
theorem fe_103_32 : am_fetch 103 32 = some (.aload_n 0, 1, 1, 0, 0) := by decide +kernel
theorem fe_103_33 : am_fetch 103 33 = some (.getfield 12, 3, 3, 10, 0) := by decide +kernel
theorem fe_103_36 : am_fetch 103 36 = some (.iload_n 1, 1, 1, 0, 0) := by decide +kernel
theorem fe_103_37 : am_fetch 103 37 = some (.invokevirtual 150, 3, 7, 102, 0) := by decide +kernel
theorem fe_103_40 : am_fetch 103 40 = some (.ireturn, 1, 8, 0, 0) := by decide +kernel
theorem fe_104_0 : am_fetch 104 0 = some (.bipush 17, 2, 0, 0, 0) := by decide +kernel
theorem fe_104_2 : am_fetch 104 2 = some (.newarray .int, 2, 5, 0, 0) := by decide +kernel
theorem fe_104_4 : am_fetch 104 4 = some (.astore_n 3, 1, 1, 0, 0) := by decide +kernel
theorem fe_104_5 : am_fetch 104 5 = some (.aload_n 0, 1, 1, 0, 0) := by decide +kernel
theorem fe_104_6 : am_fetch 104 6 = some (.iconst 1, 1, 0, 0, 0) := by decide +kernel
theorem fe_104_7 : am_fetch 104 7 = some (.invokevirtual 20, 3, 7, 14, 0) := by decide +kernel
theorem fe_104_10 : am_fetch 104 10 = some (.istore 4, 2, 1, 0, 0) := by decide +kernel
theorem fe_104_12 : am_fetch 104 12 = some (.iconst 0, 1, 0, 0, 0) := by decide +kernel
theorem fe_104_13 : am_fetch 104 13 = some (.istore 5, 2, 1, 0, 0) := by decide +kernel
theorem fe_104_15 : am_fetch 104 15 = some (.iload 5, 2, 1, 0, 0) := by decide +kernel
theorem fe_104_17 : am_fetch 104 17 = some (.bipush 40, 2, 0, 0, 0) := by decide +kernel
theorem fe_104_19 : am_fetch 104 19 = some (.if_icmp .ge 62, 3, 2, 81, 0) := by decide +kernel
theorem fe_104_22 : am_fetch 104 22 = some (.aload_n 0, 1, 1, 0, 0) := by decide +kernel
theorem fe_104_23 : am_fetch 104 23 = some (.iconst 3, 1, 0, 0, 0) := by decide +kernel
theorem fe_104_24 : am_fetch 104 24 = some (.invokevirtual 20, 3, 7, 14, 0) := by decide +kernel
theorem fe_104_27 : am_fetch 104 27 = some (.ifCond .gt 11, 3, 2, 38, 0) := by decide +kernel
theorem fe_104_30 : am_fetch 104 30 = some (.aload_n 0, 1, 1, 0, 0) := by decide +kernel
theorem fe_104_31 : am_fetch 104 31 = some (.iconst 4, 1, 0, 0, 0) := by decide +kernel
theorem fe_104_32 : am_fetch 104 32 = some (.invokevirtual 20, 3, 7, 14, 0) := by decide +kernel
theorem fe_104_35 : am_fetch 104 35 = some (.ifCond .le 46, 3, 2, 81, 0) := by decide +kernel
theorem fe_104_38 : am_fetch 104 38 = some (.iconst 0, 1, 0, 0, 0) := by decide +kernel
theorem fe_104_39 : am_fetch 104 39 = some (.istore 6, 2, 1, 0, 0) := by decide +kernel
theorem fe_104_41 : am_fetch 104 41 = some (.iload 6, 2, 1, 0, 0) := by decide +kernel
theorem fe_104_43 : am_fetch 104 43 = some (.iconst 5, 1, 0, 0, 0) := by decide +kernel
theorem fe_104_44 : am_fetch 104 44 = some (.if_icmp .ge 20, 3, 2, 64, 0) := by decide +kernel
theorem fe_104_47 : am_fetch 104 47 = some (.aload_n 0, 1, 1, 0, 0) := by decide +kernel
theorem fe_104_48 : am_fetch 104 48 = some (.iload 6, 2, 1, 0, 0) := by decide +kernel
theorem fe_104_50 : am_fetch 104 50 = some (.invokevirtual 69, 3, 7, 90, 0) := by decide +kernel
theorem fe_104_53 : am_fetch 104 53 = some (.ifCond .ge 5, 3, 2, 58, 0) := by decide +kernel
theorem fe_104_56 : am_fetch 104 56 = some (.iconst 0, 1, 0, 0, 0) := by decide +kernel
theorem fe_104_57 : am_fetch 104 57 = some (.ireturn, 1, 8, 0, 0) := by decide +kernel
theorem fe_104_58 : am_fetch 104 58 = some (.iinc 6 1, 3, 1, 0, 0) := by decide +kernel
theorem fe_104_61 : am_fetch 104 61 = some (.goto (-20), 3, 2, 41, 0) := by decide +kernel
theorem fe_104_64 : am_fetch 104 64 = some (.aload_n 0, 1, 1, 0, 0) := by decide +kernel
theorem fe_104_65 : am_fetch 104 65 = some (.bipush 50, 2, 0, 0, 0) := by decide +kernel
theorem fe_104_67 : am_fetch 104 67 = some (.invokevirtual 72, 3, 7, 103, 0) := by decide +kernel
theorem fe_104_70 : am_fetch 104 70 = some (.ifCond .ge 5, 3, 2, 75, 0) := by decide +kernel
theorem fe_104_73 : am_fetch 104 73 = some (.iconst 0, 1, 0, 0, 0) := by decide +kernel
theorem fe_104_74 : am_fetch 104 74 = some (.ireturn, 1, 8, 0, 0) := by decide +kernel
theorem fe_104_75 : am_fetch 104 75 = some (.iinc 5 1, 3, 1, 0, 0) := by decide +kernel
theorem fe_104_78 : am_fetch 104 78 = some (.goto (-63), 3, 2, 15, 0) := by decide +kernel
theorem fe_104_81 : am_fetch 104 81 = some (.iload 4, 2, 1, 0, 0) := by decide +kernel
theorem fe_104_83 : am_fetch 104 83 = some (.ifCond .eq 19, 3, 2, 102, 0) := by decide +kernel
theorem fe_104_86 : am_fetch 104 86 = some (.aload_n 0, 1, 1, 0, 0) := by decide +kernel
theorem fe_104_87 : am_fetch 104 87 = some (.iconst 3, 1, 0, 0, 0) := by decide +kernel
theorem fe_104_88 : am_fetch 104 88 = some (.invokevirtual 20, 3, 7, 14, 0) := by decide +kernel
theorem fe_104_91 : am_fetch 104 91 = some (.ifCond .gt 11, 3, 2, 102, 0) := by decide +kernel
theorem fe_104_94 : am_fetch 104 94 = some (.aload_n 0, 1, 1, 0, 0) := by decide +kernel
theorem fe_104_95 : am_fetch 104 95 = some (.iconst 4, 1, 0, 0, 0) := by decide +kernel
theorem fe_104_96 : am_fetch 104 96 = some (.invokevirtual 20, 3, 7, 14, 0) := by decide +kernel
theorem fe_104_99 : am_fetch 104 99 = some (.ifCond .le 5, 3, 2, 104, 0) := by decide +kernel
theorem fe_104_102 : am_fetch 104 102 = some (.iconst 1, 1, 0, 0, 0) := by decide +kernel
theorem fe_104_103 : am_fetch 104 103 = some (.ireturn, 1, 8, 0, 0) := by decide +kernel
theorem fe_104_104 : am_fetch 104 104 = some (.iconst 0, 1, 0, 0, 0) := by decide +kernel
theorem fe_104_105 : am_fetch 104 105 = some (.istore 5, 2, 1, 0, 0) := by decide +kernel
theorem fe_104_107 : am_fetch 104 107 = some (.iload 5, 2, 1, 0, 0) := by decide +kernel
theorem fe_104_109 : am_fetch 104 109 = some (.bipush 17, 2, 0, 0, 0) := by decide +kernel
theorem fe_104_111 : am_fetch 104 111 = some (.if_icmp .ge 80, 3, 2, 191, 0) := by decide +kernel
theorem fe_104_114 : am_fetch 104 114 = some (.aload_n 3, 1, 1, 0, 0) := by decide +kernel
theorem fe_104_115 : am_fetch 104 115 = some (.iload 5, 2, 1, 0, 0) := by decide +kernel
theorem fe_104_117 : am_fetch 104 117 = some (.iload 5, 2, 1, 0, 0) := by decide +kernel
theorem fe_104_119 : am_fetch 104 119 = some (.bipush 12, 2, 0, 0, 0) := by decide +kernel
theorem fe_104_121 : am_fetch 104 121 = some (.if_icmp .ge 41, 3, 2, 162, 0) := by decide +kernel
theorem fe_104_124 : am_fetch 104 124 = some (.iload 5, 2, 1, 0, 0) := by decide +kernel
theorem fe_104_126 : am_fetch 104 126 = some (.iload 4, 2, 1, 0, 0) := by decide +kernel
theorem fe_104_128 : am_fetch 104 128 = some (.if_icmp .ge 30, 3, 2, 158, 0) := by decide +kernel
theorem fe_104_131 : am_fetch 104 131 = some (.aload_n 0, 1, 1, 0, 0) := by decide +kernel
theorem fe_104_132 : am_fetch 104 132 = some (.iload 5, 2, 1, 0, 0) := by decide +kernel
theorem fe_104_134 : am_fetch 104 134 = some (.iconst 4, 1, 0, 0, 0) := by decide +kernel
theorem fe_104_135 : am_fetch 104 135 = some (.invokevirtual 23, 3, 7, 44, 0) := by decide +kernel
theorem fe_104_138 : am_fetch 104 138 = some (.aload_n 0, 1, 1, 0, 0) := by decide +kernel
theorem fe_104_139 : am_fetch 104 139 = some (.iload 5, 2, 1, 0, 0) := by decide +kernel
theorem fe_104_141 : am_fetch 104 141 = some (.iconst 5, 1, 0, 0, 0) := by decide +kernel
theorem fe_104_142 : am_fetch 104 142 = some (.invokevirtual 23, 3, 7, 44, 0) := by decide +kernel
theorem fe_104_145 : am_fetch 104 145 = some (.iadd, 1, 0, 0, 0) := by decide +kernel
theorem fe_104_146 : am_fetch 104 146 = some (.aload_n 0, 1, 1, 0, 0) := by decide +kernel
theorem fe_104_147 : am_fetch 104 147 = some (.iload_n 1, 1, 1, 0, 0) := by decide +kernel
theorem fe_104_148 : am_fetch 104 148 = some (.iload 5, 2, 1, 0, 0) := by decide +kernel
theorem fe_104_150 : am_fetch 104 150 = some (.iconst 0, 1, 0, 0, 0) := by decide +kernel
theorem fe_104_151 : am_fetch 104 151 = some (.invokevirtual 56, 3, 7, 59, 0) := by decide +kernel
theorem fe_104_154 : am_fetch 104 154 = some (.iadd, 1, 0, 0, 0) := by decide +kernel
theorem fe_104_155 : am_fetch 104 155 = some (.goto 29, 3, 2, 184, 0) := by decide +kernel
theorem fe_104_158 : am_fetch 104 158 = some (.iconst 0, 1, 0, 0, 0) := by decide +kernel
theorem fe_104_159 : am_fetch 104 159 = some (.goto 25, 3, 2, 184, 0) := by decide +kernel
theorem fe_104_162 : am_fetch 104 162 = some (.aload_n 0, 1, 1, 0, 0) := by decide +kernel
theorem fe_104_163 : am_fetch 104 163 = some (.iload 5, 2, 1, 0, 0) := by decide +kernel
theorem fe_104_165 : am_fetch 104 165 = some (.bipush 12, 2, 0, 0, 0) := by decide +kernel
theorem fe_104_167 : am_fetch 104 167 = some (.isub, 1, 0, 0, 0) := by decide +kernel
theorem fe_104_168 : am_fetch 104 168 = some (.iconst 1, 1, 0, 0, 0) := by decide +kernel
theorem fe_104_169 : am_fetch 104 169 = some (.invokevirtual 30, 3, 7, 33, 0) := by decide +kernel
theorem fe_104_172 : am_fetch 104 172 = some (.aload_n 0, 1, 1, 0, 0) := by decide +kernel
theorem fe_104_173 : am_fetch 104 173 = some (.iload_n 1, 1, 1, 0, 0) := by decide +kernel
theorem fe_104_174 : am_fetch 104 174 = some (.bipush 8, 2, 0, 0, 0) := by decide +kernel
theorem fe_104_176 : am_fetch 104 176 = some (.iload 5, 2, 1, 0, 0) := by decide +kernel
theorem fe_104_178 : am_fetch 104 178 = some (.iadd, 1, 0, 0, 0) := by decide +kernel
theorem fe_104_179 : am_fetch 104 179 = some (.iconst 1, 1, 0, 0, 0) := by decide +kernel
theorem fe_104_180 : am_fetch 104 180 = some (.invokevirtual 56, 3, 7, 59, 0) := by decide +kernel
theorem fe_104_183 : am_fetch 104 183 = some (.iadd, 1, 0, 0, 0) := by decide +kernel
theorem fe_104_184 : am_fetch 104 184 = some (.iastore, 1, 4, 0, 0) := by decide +kernel
theorem fe_104_185 : am_fetch 104 185 = some (.iinc 5 1, 3, 1, 0, 0) := by decide +kernel
theorem fe_104_188 : am_fetch 104 188 = some (.goto (-81), 3, 2, 107, 0) := by decide +kernel
theorem fe_104_191 : am_fetch 104 191 = some (.aload_n 0, 1, 1, 0, 0) := by decide +kernel
theorem fe_104_192 : am_fetch 104 192 = some (.iload_n 1, 1, 1, 0, 0) := by decide +kernel
theorem fe_104_193 : am_fetch 104 193 = some (.invokevirtual 10, 3, 7, 93, 0) := by decide +kernel
theorem fe_104_196 : am_fetch 104 196 = some (.istore 5, 2, 1, 0, 0) := by decide +kernel
theorem fe_104_198 : am_fetch 104 198 = some (.iconst 0, 1, 0, 0, 0) := by decide +kernel
theorem fe_104_199 : am_fetch 104 199 = some (.istore 6, 2, 1, 0, 0) := by decide +kernel
theorem fe_104_201 : am_fetch 104 201 = some (.iload 6, 2, 1, 0, 0) := by decide +kernel
theorem fe_104_203 : am_fetch 104 203 = some (.bipush 40, 2, 0, 0, 0) := by decide +kernel
theorem fe_104_205 : am_fetch 104 205 = some (.if_icmp .ge 68, 3, 2, 273, 0) := by decide +kernel
theorem fe_104_208 : am_fetch 104 208 = some (.aload_n 0, 1, 1, 0, 0) := by decide +kernel
theorem fe_104_209 : am_fetch 104 209 = some (.iconst 3, 1, 0, 0, 0) := by decide +kernel
theorem fe_104_210 : am_fetch 104 210 = some (.invokevirtual 20, 3, 7, 14, 0) := by decide +kernel
theorem fe_104_213 : am_fetch 104 213 = some (.ifCond .gt 11, 3, 2, 224, 0) := by decide +kernel
theorem fe_104_216 : am_fetch 104 216 = some (.aload_n 0, 1, 1, 0, 0) := by decide +kernel
theorem fe_104_217 : am_fetch 104 217 = some (.iconst 4, 1, 0, 0, 0) := by decide +kernel
theorem fe_104_218 : am_fetch 104 218 = some (.invokevirtual 20, 3, 7, 14, 0) := by decide +kernel
theorem fe_104_221 : am_fetch 104 221 = some (.ifCond .le 52, 3, 2, 273, 0) := by decide +kernel
theorem fe_104_224 : am_fetch 104 224 = some (.aload_n 0, 1, 1, 0, 0) := by decide +kernel
theorem fe_104_225 : am_fetch 104 225 = some (.iload_n 2, 1, 1, 0, 0) := by decide +kernel
theorem fe_104_226 : am_fetch 104 226 = some (.iload 6, 2, 1, 0, 0) := by decide +kernel
theorem fe_104_228 : am_fetch 104 228 = some (.ishr, 1, 0, 0, 0) := by decide +kernel
theorem fe_104_229 : am_fetch 104 229 = some (.iconst 5, 1, 0, 0, 0) := by decide +kernel
theorem fe_104_230 : am_fetch 104 230 = some (.invokestatic 75, 3, 7, 70, 0) := by decide +kernel
theorem fe_104_233 : am_fetch 104 233 = some (.invokevirtual 69, 3, 7, 90, 0) := by decide +kernel
theorem fe_104_236 : am_fetch 104 236 = some (.ifCond .lt 29, 3, 2, 265, 0) := by decide +kernel
theorem fe_104_239 : am_fetch 104 239 = some (.aload_n 0, 1, 1, 0, 0) := by decide +kernel
theorem fe_104_240 : am_fetch 104 240 = some (.iload 6, 2, 1, 0, 0) := by decide +kernel
theorem fe_104_242 : am_fetch 104 242 = some (.iconst 5, 1, 0, 0, 0) := by decide +kernel
theorem fe_104_243 : am_fetch 104 243 = some (.irem, 1, 0, 0, 0) := by decide +kernel
theorem fe_104_244 : am_fetch 104 244 = some (.invokevirtual 69, 3, 7, 90, 0) := by decide +kernel
theorem fe_104_247 : am_fetch 104 247 = some (.ifCond .lt 18, 3, 2, 265, 0) := by decide +kernel
theorem fe_104_250 : am_fetch 104 250 = some (.aload_n 0, 1, 1, 0, 0) := by decide +kernel
theorem fe_104_251 : am_fetch 104 251 = some (.bipush 20, 2, 0, 0, 0) := by decide +kernel
theorem fe_104_253 : am_fetch 104 253 = some (.iload 6, 2, 1, 0, 0) := by decide +kernel
theorem fe_104_255 : am_fetch 104 255 = some (.bipush 30, 2, 0, 0, 0) := by decide +kernel
theorem fe_104_257 : am_fetch 104 257 = some (.irem, 1, 0, 0, 0) := by decide +kernel
theorem fe_104_258 : am_fetch 104 258 = some (.iadd, 1, 0, 0, 0) := by decide +kernel
theorem fe_104_259 : am_fetch 104 259 = some (.invokevirtual 72, 3, 7, 103, 0) := by decide +kernel
theorem fe_104_262 : am_fetch 104 262 = some (.ifCond .ge 5, 3, 2, 267, 0) := by decide +kernel
theorem fe_104_265 : am_fetch 104 265 = some (.iconst 0, 1, 0, 0, 0) := by decide +kernel
theorem fe_104_266 : am_fetch 104 266 = some (.ireturn, 1, 8, 0, 0) := by decide +kernel
theorem fe_104_267 : am_fetch 104 267 = some (.iinc 6 1, 3, 1, 0, 0) := by decide +kernel
theorem fe_104_270 : am_fetch 104 270 = some (.goto (-69), 3, 2, 201, 0) := by decide +kernel
theorem fe_104_273 : am_fetch 104 273 = some (.iconst 0, 1, 0, 0, 0) := by decide +kernel
theorem fe_104_274 : am_fetch 104 274 = some (.istore 6, 2, 1, 0, 0) := by decide +kernel
theorem fe_104_276 : am_fetch 104 276 = some (.iload 6, 2, 1, 0, 0) := by decide +kernel
theorem fe_104_278 : am_fetch 104 278 = some (.bipush 17, 2, 0, 0, 0) := by decide +kernel
theorem fe_104_280 : am_fetch 104 280 = some (.if_icmp .ge 80, 3, 2, 360, 0) := by decide +kernel
theorem fe_104_283 : am_fetch 104 283 = some (.aload_n 0, 1, 1, 0, 0) := by decide +kernel
theorem fe_104_284 : am_fetch 104 284 = some (.iconst 3, 1, 0, 0, 0) := by decide +kernel
theorem fe_104_285 : am_fetch 104 285 = some (.invokevirtual 20, 3, 7, 14, 0) := by decide +kernel
theorem fe_104_288 : am_fetch 104 288 = some (.ifCond .ne 72, 3, 2, 360, 0) := by decide +kernel
theorem fe_104_291 : am_fetch 104 291 = some (.aload_n 0, 1, 1, 0, 0) := by decide +kernel
theorem fe_104_292 : am_fetch 104 292 = some (.iconst 4, 1, 0, 0, 0) := by decide +kernel
theorem fe_104_293 : am_fetch 104 293 = some (.invokevirtual 20, 3, 7, 14, 0) := by decide +kernel
theorem fe_104_296 : am_fetch 104 296 = some (.ifCond .ne 64, 3, 2, 360, 0) := by decide +kernel
theorem fe_104_299 : am_fetch 104 299 = some (.aload_n 3, 1, 1, 0, 0) := by decide +kernel
theorem fe_104_300 : am_fetch 104 300 = some (.iload 6, 2, 1, 0, 0) := by decide +kernel
theorem fe_104_302 : am_fetch 104 302 = some (.iaload, 1, 3, 0, 0) := by decide +kernel
theorem fe_104_303 : am_fetch 104 303 = some (.iload 6, 2, 1, 0, 0) := by decide +kernel
theorem fe_104_305 : am_fetch 104 305 = some (.bipush 12, 2, 0, 0, 0) := by decide +kernel
theorem fe_104_307 : am_fetch 104 307 = some (.if_icmp .ge 32, 3, 2, 339, 0) := by decide +kernel
theorem fe_104_310 : am_fetch 104 310 = some (.iload 6, 2, 1, 0, 0) := by decide +kernel
theorem fe_104_312 : am_fetch 104 312 = some (.iload 4, 2, 1, 0, 0) := by decide +kernel
theorem fe_104_314 : am_fetch 104 314 = some (.if_icmp .ge 21, 3, 2, 335, 0) := by decide +kernel
theorem fe_104_317 : am_fetch 104 317 = some (.aload_n 0, 1, 1, 0, 0) := by decide +kernel
theorem fe_104_318 : am_fetch 104 318 = some (.iload 6, 2, 1, 0, 0) := by decide +kernel
theorem fe_104_320 : am_fetch 104 320 = some (.iconst 4, 1, 0, 0, 0) := by decide +kernel
theorem fe_104_321 : am_fetch 104 321 = some (.invokevirtual 23, 3, 7, 44, 0) := by decide +kernel
theorem fe_104_324 : am_fetch 104 324 = some (.aload_n 0, 1, 1, 0, 0) := by decide +kernel
theorem fe_104_325 : am_fetch 104 325 = some (.iload 6, 2, 1, 0, 0) := by decide +kernel
theorem fe_104_327 : am_fetch 104 327 = some (.iconst 5, 1, 0, 0, 0) := by decide +kernel
theorem fe_104_328 : am_fetch 104 328 = some (.invokevirtual 23, 3, 7, 44, 0) := by decide +kernel
theorem fe_104_331 : am_fetch 104 331 = some (.iadd, 1, 0, 0, 0) := by decide +kernel
theorem fe_104_332 : am_fetch 104 332 = some (.goto 17, 3, 2, 349, 0) := by decide +kernel
theorem fe_104_335 : am_fetch 104 335 = some (.iconst 0, 1, 0, 0, 0) := by decide +kernel
theorem fe_104_336 : am_fetch 104 336 = some (.goto 13, 3, 2, 349, 0) := by decide +kernel
theorem fe_104_339 : am_fetch 104 339 = some (.aload_n 0, 1, 1, 0, 0) := by decide +kernel
theorem fe_104_340 : am_fetch 104 340 = some (.iload 6, 2, 1, 0, 0) := by decide +kernel
theorem fe_104_342 : am_fetch 104 342 = some (.bipush 12, 2, 0, 0, 0) := by decide +kernel
theorem fe_104_344 : am_fetch 104 344 = some (.isub, 1, 0, 0, 0) := by decide +kernel
theorem fe_104_345 : am_fetch 104 345 = some (.iconst 1, 1, 0, 0, 0) := by decide +kernel
theorem fe_104_346 : am_fetch 104 346 = some (.invokevirtual 30, 3, 7, 33, 0) := by decide +kernel
theorem fe_104_349 : am_fetch 104 349 = some (.if_icmp .eq 5, 3, 2, 354, 0) := by decide +kernel
theorem fe_104_352 : am_fetch 104 352 = some (.iconst 0, 1, 0, 0, 0) := by decide +kernel
theorem fe_104_353 : am_fetch 104 353 = some (.ireturn, 1, 8, 0, 0) := by decide +kernel
theorem fe_104_354 : am_fetch 104 354 = some (.iinc 6 1, 3, 1, 0, 0) := by decide +kernel
theorem fe_104_357 : am_fetch 104 357 = some (.goto (-81), 3, 2, 276, 0) := by decide +kernel
theorem fe_104_360 : am_fetch 104 360 = some (.iload 5, 2, 1, 0, 0) := by decide +kernel
theorem fe_104_362 : am_fetch 104 362 = some (.iload_n 1, 1, 1, 0, 0) := by decide +kernel
theorem fe_104_363 : am_fetch 104 363 = some (.if_icmp .ne 7, 3, 2, 370, 0) := by decide +kernel
theorem fe_104_366 : am_fetch 104 366 = some (.iconst 1, 1, 0, 0, 0) := by decide +kernel
theorem fe_104_367 : am_fetch 104 367 = some (.goto 4, 3, 2, 371, 0) := by decide +kernel
theorem fe_104_370 : am_fetch 104 370 = some (.iconst 0, 1, 0, 0, 0) := by decide +kernel
theorem fe_104_371 : am_fetch 104 371 = some (.ireturn, 1, 8, 0, 0) := by decide +kernel
theorem fe_105_0 : am_fetch 105 0 = some (.aload_n 0, 1, 1, 0, 0) := by decide +kernel
theorem fe_105_1 : am_fetch 105 1 = some (.iconst 1, 1, 0, 0, 0) := by decide +kernel
theorem fe_105_2 : am_fetch 105 2 = some (.invokevirtual 20, 3, 7, 14, 0) := by decide +kernel
theorem fe_105_5 : am_fetch 105 5 = some (.istore_n 3, 1, 1, 0, 0) := by decide +kernel
theorem fe_105_6 : am_fetch 105 6 = some (.iload_n 3, 1, 1, 0, 0) := by decide +kernel
theorem fe_105_7 : am_fetch 105 7 = some (.ifCond .ne 7, 3, 2, 14, 0) := by decide +kernel
theorem fe_105_10 : am_fetch 105 10 = some (.iconst 0, 1, 0, 0, 0) := by decide +kernel
theorem fe_105_11 : am_fetch 105 11 = some (.goto 8, 3, 2, 19, 0) := by decide +kernel
theorem fe_105_14 : am_fetch 105 14 = some (.iload_n 2, 1, 1, 0, 0) := by decide +kernel
theorem fe_105_15 : am_fetch 105 15 = some (.iload_n 3, 1, 1, 0, 0) := by decide +kernel
theorem fe_105_16 : am_fetch 105 16 = some (.invokestatic 75, 3, 7, 70, 0) := by decide +kernel
theorem fe_105_19 : am_fetch 105 19 = some (.istore 4, 2, 1, 0, 0) := by decide +kernel
theorem fe_105_21 : am_fetch 105 21 = some (.iload_n 1, 1, 1, 0, 0) := by decide +kernel
theorem fe_105_22 : am_fetch 105 22 = some (.bipush 14, 2, 0, 0, 0) := by decide +kernel
theorem fe_105_24 : am_fetch 105 24 = some (.invokestatic 75, 3, 7, 70, 0) := by decide +kernel
theorem fe_105_27 : am_fetch 105 27 = some (.tableswitch 643 0 11 #[61, 61, 144, 144, 144, 275, 329, 420, 485, 485, 581, 609], 61, 2, 0, 0) := by decide +kernel
theorem fe_105_88 : am_fetch 105 88 = some (.iload_n 3, 1, 1, 0, 0) := by decide +kernel
theorem fe_105_89 : am_fetch 105 89 = some (.bipush 12, 2, 0, 0, 0) := by decide +kernel
theorem fe_105_91 : am_fetch 105 91 = some (.if_icmp .eq 74, 3, 2, 165, 0) := by decide +kernel
theorem fe_105_94 : am_fetch 105 94 = some (.aload_n 0, 1, 1, 0, 0) := by decide +kernel
theorem fe_105_95 : am_fetch 105 95 = some (.iload_n 2, 1, 1, 0, 0) := by decide +kernel
theorem fe_105_96 : am_fetch 105 96 = some (.bipush 31, 2, 0, 0, 0) := by decide +kernel
theorem fe_105_98 : am_fetch 105 98 = some (.invokestatic 75, 3, 7, 70, 0) := by decide +kernel
theorem fe_105_101 : am_fetch 105 101 = some (.invokevirtual 78, 3, 7, 81, 0) := by decide +kernel
theorem fe_105_104 : am_fetch 105 104 = some (.iload_n 3, 1, 1, 0, 0) := by decide +kernel
theorem fe_105_105 : am_fetch 105 105 = some (.if_icmp .ne 64, 3, 2, 169, 0) := by decide +kernel
theorem fe_105_108 : am_fetch 105 108 = some (.aload_n 0, 1, 1, 0, 0) := by decide +kernel
theorem fe_105_109 : am_fetch 105 109 = some (.iconst 1, 1, 0, 0, 0) := by decide +kernel
theorem fe_105_110 : am_fetch 105 110 = some (.invokevirtual 20, 3, 7, 14, 0) := by decide +kernel
theorem fe_105_113 : am_fetch 105 113 = some (.iload_n 3, 1, 1, 0, 0) := by decide +kernel
theorem fe_105_114 : am_fetch 105 114 = some (.iconst 1, 1, 0, 0, 0) := by decide +kernel
theorem fe_105_115 : am_fetch 105 115 = some (.iadd, 1, 0, 0, 0) := by decide +kernel
theorem fe_105_116 : am_fetch 105 116 = some (.if_icmp .ne 53, 3, 2, 169, 0) := by decide +kernel
theorem fe_105_119 : am_fetch 105 119 = some (.aload_n 0, 1, 1, 0, 0) := by decide +kernel
theorem fe_105_120 : am_fetch 105 120 = some (.iload_n 3, 1, 1, 0, 0) := by decide +kernel
theorem fe_105_121 : am_fetch 105 121 = some (.iconst 0, 1, 0, 0, 0) := by decide +kernel
theorem fe_105_122 : am_fetch 105 122 = some (.invokevirtual 23, 3, 7, 44, 0) := by decide +kernel
theorem fe_105_125 : am_fetch 105 125 = some (.ifCond .ne 44, 3, 2, 169, 0) := by decide +kernel
theorem fe_105_128 : am_fetch 105 128 = some (.aload_n 0, 1, 1, 0, 0) := by decide +kernel
theorem fe_105_129 : am_fetch 105 129 = some (.iload_n 3, 1, 1, 0, 0) := by decide +kernel
theorem fe_105_130 : am_fetch 105 130 = some (.iconst 1, 1, 0, 0, 0) := by decide +kernel
theorem fe_105_131 : am_fetch 105 131 = some (.invokevirtual 23, 3, 7, 44, 0) := by decide +kernel
theorem fe_105_134 : am_fetch 105 134 = some (.iload_n 2, 1, 1, 0, 0) := by decide +kernel
theorem fe_105_135 : am_fetch 105 135 = some (.bipush 31, 2, 0, 0, 0) := by decide +kernel
theorem fe_105_137 : am_fetch 105 137 = some (.invokestatic 75, 3, 7, 70, 0) := by decide +kernel
theorem fe_105_140 : am_fetch 105 140 = some (.if_icmp .ne 29, 3, 2, 169, 0) := by decide +kernel
theorem fe_105_143 : am_fetch 105 143 = some (.aload_n 0, 1, 1, 0, 0) := by decide +kernel
theorem fe_105_144 : am_fetch 105 144 = some (.iload_n 3, 1, 1, 0, 0) := by decide +kernel
theorem fe_105_145 : am_fetch 105 145 = some (.iconst 2, 1, 0, 0, 0) := by decide +kernel
theorem fe_105_146 : am_fetch 105 146 = some (.invokevirtual 23, 3, 7, 44, 0) := by decide +kernel
theorem fe_105_149 : am_fetch 105 149 = some (.bipush 20, 2, 0, 0, 0) := by decide +kernel
theorem fe_105_151 : am_fetch 105 151 = some (.if_icmp .ne 18, 3, 2, 169, 0) := by decide +kernel
theorem fe_105_154 : am_fetch 105 154 = some (.aload_n 0, 1, 1, 0, 0) := by decide +kernel
theorem fe_105_155 : am_fetch 105 155 = some (.iload_n 3, 1, 1, 0, 0) := by decide +kernel
theorem fe_105_156 : am_fetch 105 156 = some (.iconst 3, 1, 0, 0, 0) := by decide +kernel
theorem fe_105_157 : am_fetch 105 157 = some (.invokevirtual 23, 3, 7, 44, 0) := by decide +kernel
theorem fe_105_160 : am_fetch 105 160 = some (.bipush 20, 2, 0, 0, 0) := by decide +kernel
theorem fe_105_162 : am_fetch 105 162 = some (.if_icmp .ne 7, 3, 2, 169, 0) := by decide +kernel
theorem fe_105_165 : am_fetch 105 165 = some (.iconst 1, 1, 0, 0, 0) := by decide +kernel
theorem fe_105_166 : am_fetch 105 166 = some (.goto 4, 3, 2, 170, 0) := by decide +kernel
theorem fe_105_169 : am_fetch 105 169 = some (.iconst 0, 1, 0, 0, 0) := by decide +kernel
theorem fe_105_170 : am_fetch 105 170 = some (.ireturn, 1, 8, 0, 0) := by decide +kernel
theorem fe_105_171 : am_fetch 105 171 = some (.iload_n 3, 1, 1, 0, 0) := by decide +kernel
theorem fe_105_172 : am_fetch 105 172 = some (.ifCond .eq 21, 3, 2, 193, 0) := by decide +kernel
theorem fe_105_175 : am_fetch 105 175 = some (.iload 4, 2, 1, 0, 0) := by decide +kernel
theorem fe_105_177 : am_fetch 105 177 = some (.iload_n 3, 1, 1, 0, 0) := by decide +kernel
theorem fe_105_178 : am_fetch 105 178 = some (.iconst 1, 1, 0, 0, 0) := by decide +kernel
theorem fe_105_179 : am_fetch 105 179 = some (.isub, 1, 0, 0, 0) := by decide +kernel
theorem fe_105_180 : am_fetch 105 180 = some (.if_icmp .eq 13, 3, 2, 193, 0) := by decide +kernel
theorem fe_105_183 : am_fetch 105 183 = some (.iload_n 2, 1, 1, 0, 0) := by decide +kernel
theorem fe_105_184 : am_fetch 105 184 = some (.iconst 5, 1, 0, 0, 0) := by decide +kernel
theorem fe_105_185 : am_fetch 105 185 = some (.ishr, 1, 0, 0, 0) := by decide +kernel
theorem fe_105_186 : am_fetch 105 186 = some (.iconst 3, 1, 0, 0, 0) := by decide +kernel
theorem fe_105_187 : am_fetch 105 187 = some (.invokestatic 75, 3, 7, 70, 0) := by decide +kernel
theorem fe_105_190 : am_fetch 105 190 = some (.ifCond .ne 17, 3, 2, 207, 0) := by decide +kernel
theorem fe_105_193 : am_fetch 105 193 = some (.bipush 20, 2, 0, 0, 0) := by decide +kernel
theorem fe_105_195 : am_fetch 105 195 = some (.iload_n 2, 1, 1, 0, 0) := by decide +kernel
theorem fe_105_196 : am_fetch 105 196 = some (.bipush 7, 2, 0, 0, 0) := by decide +kernel
theorem fe_105_198 : am_fetch 105 198 = some (.ishr, 1, 0, 0, 0) := by decide +kernel
theorem fe_105_199 : am_fetch 105 199 = some (.iconst 5, 1, 0, 0, 0) := by decide +kernel
theorem fe_105_200 : am_fetch 105 200 = some (.invokestatic 75, 3, 7, 70, 0) := by decide +kernel
theorem fe_105_203 : am_fetch 105 203 = some (.iadd, 1, 0, 0, 0) := by decide +kernel
theorem fe_105_204 : am_fetch 105 204 = some (.goto 21, 3, 2, 225, 0) := by decide +kernel
theorem fe_105_207 : am_fetch 105 207 = some (.iload 4, 2, 1, 0, 0) := by decide +kernel
theorem fe_105_209 : am_fetch 105 209 = some (.iconst 1, 1, 0, 0, 0) := by decide +kernel
theorem fe_105_210 : am_fetch 105 210 = some (.iadd, 1, 0, 0, 0) := by decide +kernel
theorem fe_105_211 : am_fetch 105 211 = some (.iload_n 2, 1, 1, 0, 0) := by decide +kernel
theorem fe_105_212 : am_fetch 105 212 = some (.bipush 7, 2, 0, 0, 0) := by decide +kernel
theorem fe_105_214 : am_fetch 105 214 = some (.ishr, 1, 0, 0, 0) := by decide +kernel
theorem fe_105_215 : am_fetch 105 215 = some (.iload_n 3, 1, 1, 0, 0) := by decide +kernel
theorem fe_105_216 : am_fetch 105 216 = some (.iconst 1, 1, 0, 0, 0) := by decide +kernel
theorem fe_105_217 : am_fetch 105 217 = some (.isub, 1, 0, 0, 0) := by decide +kernel
theorem fe_105_218 : am_fetch 105 218 = some (.iload 4, 2, 1, 0, 0) := by decide +kernel
theorem fe_105_220 : am_fetch 105 220 = some (.isub, 1, 0, 0, 0) := by decide +kernel
theorem fe_105_221 : am_fetch 105 221 = some (.invokestatic 75, 3, 7, 70, 0) := by decide +kernel
theorem fe_105_224 : am_fetch 105 224 = some (.iadd, 1, 0, 0, 0) := by decide +kernel
theorem fe_105_225 : am_fetch 105 225 = some (.istore 5, 2, 1, 0, 0) := by decide +kernel
theorem fe_105_227 : am_fetch 105 227 = some (.iload_n 3, 1, 1, 0, 0) := by decide +kernel
theorem fe_105_228 : am_fetch 105 228 = some (.ifCond .ne 7, 3, 2, 235, 0) := by decide +kernel
theorem fe_105_231 : am_fetch 105 231 = some (.iconst 0, 1, 0, 0, 0) := by decide +kernel
theorem fe_105_232 : am_fetch 105 232 = some (.goto 18, 3, 2, 250, 0) := by decide +kernel
theorem fe_105_235 : am_fetch 105 235 = some (.aload_n 0, 1, 1, 0, 0) := by decide +kernel
theorem fe_105_236 : am_fetch 105 236 = some (.iload 4, 2, 1, 0, 0) := by decide +kernel
theorem fe_105_238 : am_fetch 105 238 = some (.iconst 2, 1, 0, 0, 0) := by decide +kernel
theorem fe_105_239 : am_fetch 105 239 = some (.iload_n 2, 1, 1, 0, 0) := by decide +kernel
theorem fe_105_240 : am_fetch 105 240 = some (.iconst 4, 1, 0, 0, 0) := by decide +kernel
theorem fe_105_241 : am_fetch 105 241 = some (.ishr, 1, 0, 0, 0) := by decide +kernel
theorem fe_105_242 : am_fetch 105 242 = some (.iconst 2, 1, 0, 0, 0) := by decide +kernel
theorem fe_105_243 : am_fetch 105 243 = some (.invokestatic 75, 3, 7, 70, 0) := by decide +kernel
theorem fe_105_246 : am_fetch 105 246 = some (.iadd, 1, 0, 0, 0) := by decide +kernel
theorem fe_105_247 : am_fetch 105 247 = some (.invokevirtual 23, 3, 7, 44, 0) := by decide +kernel
theorem fe_105_250 : am_fetch 105 250 = some (.istore 6, 2, 1, 0, 0) := by decide +kernel
theorem fe_105_252 : am_fetch 105 252 = some (.iload_n 3, 1, 1, 0, 0) := by decide +kernel
theorem fe_105_253 : am_fetch 105 253 = some (.ifCond .eq 43, 3, 2, 296, 0) := by decide +kernel
theorem fe_105_256 : am_fetch 105 256 = some (.aload_n 0, 1, 1, 0, 0) := by decide +kernel
theorem fe_105_257 : am_fetch 105 257 = some (.iload 4, 2, 1, 0, 0) := by decide +kernel
theorem fe_105_259 : am_fetch 105 259 = some (.iload_n 2, 1, 1, 0, 0) := by decide +kernel
theorem fe_105_260 : am_fetch 105 260 = some (.iconst 4, 1, 0, 0, 0) := by decide +kernel
theorem fe_105_261 : am_fetch 105 261 = some (.ishr, 1, 0, 0, 0) := by decide +kernel
theorem fe_105_262 : am_fetch 105 262 = some (.iconst 2, 1, 0, 0, 0) := by decide +kernel
theorem fe_105_263 : am_fetch 105 263 = some (.invokestatic 75, 3, 7, 70, 0) := by decide +kernel
theorem fe_105_266 : am_fetch 105 266 = some (.iload 5, 2, 1, 0, 0) := by decide +kernel
theorem fe_105_268 : am_fetch 105 268 = some (.invokevirtual 81, 3, 7, 85, 0) := by decide +kernel
theorem fe_105_271 : am_fetch 105 271 = some (.iload 6, 2, 1, 0, 0) := by decide +kernel
theorem fe_105_273 : am_fetch 105 273 = some (.if_icmp .ne 27, 3, 2, 300, 0) := by decide +kernel
theorem fe_105_276 : am_fetch 105 276 = some (.aload_n 0, 1, 1, 0, 0) := by decide +kernel
theorem fe_105_277 : am_fetch 105 277 = some (.iload 4, 2, 1, 0, 0) := by decide +kernel
theorem fe_105_279 : am_fetch 105 279 = some (.iconst 2, 1, 0, 0, 0) := by decide +kernel
theorem fe_105_280 : am_fetch 105 280 = some (.iload_n 2, 1, 1, 0, 0) := by decide +kernel
theorem fe_105_281 : am_fetch 105 281 = some (.iconst 4, 1, 0, 0, 0) := by decide +kernel
theorem fe_105_282 : am_fetch 105 282 = some (.ishr, 1, 0, 0, 0) := by decide +kernel
theorem fe_105_283 : am_fetch 105 283 = some (.iconst 2, 1, 0, 0, 0) := by decide +kernel
theorem fe_105_284 : am_fetch 105 284 = some (.invokestatic 75, 3, 7, 70, 0) := by decide +kernel
theorem fe_105_287 : am_fetch 105 287 = some (.iadd, 1, 0, 0, 0) := by decide +kernel
theorem fe_105_288 : am_fetch 105 288 = some (.invokevirtual 23, 3, 7, 44, 0) := by decide +kernel
theorem fe_105_291 : am_fetch 105 291 = some (.iload 5, 2, 1, 0, 0) := by decide +kernel
theorem fe_105_293 : am_fetch 105 293 = some (.if_icmp .ne 7, 3, 2, 300, 0) := by decide +kernel
theorem fe_105_296 : am_fetch 105 296 = some (.iconst 1, 1, 0, 0, 0) := by decide +kernel
theorem fe_105_297 : am_fetch 105 297 = some (.goto 4, 3, 2, 301, 0) := by decide +kernel
theorem fe_105_300 : am_fetch 105 300 = some (.iconst 0, 1, 0, 0, 0) := by decide +kernel
theorem fe_105_301 : am_fetch 105 301 = some (.ireturn, 1, 8, 0, 0) := by decide +kernel
theorem fe_105_302 : am_fetch 105 302 = some (.iload_n 3, 1, 1, 0, 0) := by decide +kernel
theorem fe_105_303 : am_fetch 105 303 = some (.ifCond .ne 7, 3, 2, 310, 0) := by decide +kernel
theorem fe_105_306 : am_fetch 105 306 = some (.iconst 0, 1, 0, 0, 0) := by decide +kernel
theorem fe_105_307 : am_fetch 105 307 = some (.goto 10, 3, 2, 317, 0) := by decide +kernel
theorem fe_105_310 : am_fetch 105 310 = some (.aload_n 0, 1, 1, 0, 0) := by decide +kernel
theorem fe_105_311 : am_fetch 105 311 = some (.iload 4, 2, 1, 0, 0) := by decide +kernel
theorem fe_105_313 : am_fetch 105 313 = some (.iconst 0, 1, 0, 0, 0) := by decide +kernel
theorem fe_105_314 : am_fetch 105 314 = some (.invokevirtual 23, 3, 7, 44, 0) := by decide +kernel
theorem fe_105_317 : am_fetch 105 317 = some (.istore 5, 2, 1, 0, 0) := by decide +kernel
theorem fe_105_319 : am_fetch 105 319 = some (.iload_n 3, 1, 1, 0, 0) := by decide +kernel
theorem fe_105_320 : am_fetch 105 320 = some (.ifCond .eq 30, 3, 2, 350, 0) := by decide +kernel
theorem fe_105_323 : am_fetch 105 323 = some (.aload_n 0, 1, 1, 0, 0) := by decide +kernel
theorem fe_105_324 : am_fetch 105 324 = some (.iload 4, 2, 1, 0, 0) := by decide +kernel
theorem fe_105_326 : am_fetch 105 326 = some (.invokevirtual 84, 3, 7, 87, 0) := by decide +kernel
theorem fe_105_329 : am_fetch 105 329 = some (.iconst 1, 1, 0, 0, 0) := by decide +kernel
theorem fe_105_330 : am_fetch 105 330 = some (.iload 5, 2, 1, 0, 0) := by decide +kernel
theorem fe_105_332 : am_fetch 105 332 = some (.isub, 1, 0, 0, 0) := by decide +kernel
theorem fe_105_333 : am_fetch 105 333 = some (.if_icmp .ne 21, 3, 2, 354, 0) := by decide +kernel
theorem fe_105_336 : am_fetch 105 336 = some (.aload_n 0, 1, 1, 0, 0) := by decide +kernel
theorem fe_105_337 : am_fetch 105 337 = some (.iload 4, 2, 1, 0, 0) := by decide +kernel
theorem fe_105_339 : am_fetch 105 339 = some (.iconst 0, 1, 0, 0, 0) := by decide +kernel
theorem fe_105_340 : am_fetch 105 340 = some (.invokevirtual 23, 3, 7, 44, 0) := by decide +kernel
theorem fe_105_343 : am_fetch 105 343 = some (.iconst 1, 1, 0, 0, 0) := by decide +kernel
theorem fe_105_344 : am_fetch 105 344 = some (.iload 5, 2, 1, 0, 0) := by decide +kernel
theorem fe_105_346 : am_fetch 105 346 = some (.isub, 1, 0, 0, 0) := by decide +kernel
theorem fe_105_347 : am_fetch 105 347 = some (.if_icmp .ne 7, 3, 2, 354, 0) := by decide +kernel
theorem fe_105_350 : am_fetch 105 350 = some (.iconst 1, 1, 0, 0, 0) := by decide +kernel
theorem fe_105_351 : am_fetch 105 351 = some (.goto 4, 3, 2, 355, 0) := by decide +kernel
theorem fe_105_354 : am_fetch 105 354 = some (.iconst 0, 1, 0, 0, 0) := by decide +kernel
theorem fe_105_355 : am_fetch 105 355 = some (.ireturn, 1, 8, 0, 0) := by decide +kernel
theorem fe_105_356 : am_fetch 105 356 = some (.iconst 1, 1, 0, 0, 0) := by decide +kernel
theorem fe_105_357 : am_fetch 105 357 = some (.iload_n 2, 1, 1, 0, 0) := by decide +kernel
theorem fe_105_358 : am_fetch 105 358 = some (.iconst 1, 1, 0, 0, 0) := by decide +kernel
theorem fe_105_359 : am_fetch 105 359 = some (.ishr, 1, 0, 0, 0) := by decide +kernel
theorem fe_105_360 : am_fetch 105 360 = some (.iload_n 2, 1, 1, 0, 0) := by decide +kernel
theorem fe_105_361 : am_fetch 105 361 = some (.iconst 2, 1, 0, 0, 0) := by decide +kernel
theorem fe_105_362 : am_fetch 105 362 = some (.invokestatic 75, 3, 7, 70, 0) := by decide +kernel
theorem fe_105_365 : am_fetch 105 365 = some (.ifCond .ne 8, 3, 2, 373, 0) := by decide +kernel
theorem fe_105_368 : am_fetch 105 368 = some (.bipush 9, 2, 0, 0, 0) := by decide +kernel
theorem fe_105_370 : am_fetch 105 370 = some (.goto 20, 3, 2, 390, 0) := by decide +kernel
theorem fe_105_373 : am_fetch 105 373 = some (.iload_n 2, 1, 1, 0, 0) := by decide +kernel
theorem fe_105_374 : am_fetch 105 374 = some (.bipush 8, 2, 0, 0, 0) := by decide +kernel
theorem fe_105_376 : am_fetch 105 376 = some (.ishr, 1, 0, 0, 0) := by decide +kernel
theorem fe_105_377 : am_fetch 105 377 = some (.iconst 2, 1, 0, 0, 0) := by decide +kernel
theorem fe_105_378 : am_fetch 105 378 = some (.invokestatic 75, 3, 7, 70, 0) := by decide +kernel
theorem fe_105_381 : am_fetch 105 381 = some (.ifCond .ne 8, 3, 2, 389, 0) := by decide +kernel
theorem fe_105_384 : am_fetch 105 384 = some (.bipush 40, 2, 0, 0, 0) := by decide +kernel
theorem fe_105_386 : am_fetch 105 386 = some (.goto 4, 3, 2, 390, 0) := by decide +kernel
theorem fe_105_389 : am_fetch 105 389 = some (.iconst 3, 1, 0, 0, 0) := by decide +kernel
theorem fe_105_390 : am_fetch 105 390 = some (.invokestatic 75, 3, 7, 70, 0) := by decide +kernel
theorem fe_105_393 : am_fetch 105 393 = some (.iadd, 1, 0, 0, 0) := by decide +kernel
theorem fe_105_394 : am_fetch 105 394 = some (.istore 5, 2, 1, 0, 0) := by decide +kernel
theorem fe_105_396 : am_fetch 105 396 = some (.aload_n 0, 1, 1, 0, 0) := by decide +kernel
theorem fe_105_397 : am_fetch 105 397 = some (.iconst 5, 1, 0, 0, 0) := by decide +kernel
theorem fe_105_398 : am_fetch 105 398 = some (.iload_n 2, 1, 1, 0, 0) := by decide +kernel
theorem fe_105_399 : am_fetch 105 399 = some (.iconst 2, 1, 0, 0, 0) := by decide +kernel
theorem fe_105_400 : am_fetch 105 400 = some (.invokestatic 75, 3, 7, 70, 0) := by decide +kernel
theorem fe_105_403 : am_fetch 105 403 = some (.iadd, 1, 0, 0, 0) := by decide +kernel
theorem fe_105_404 : am_fetch 105 404 = some (.invokevirtual 20, 3, 7, 14, 0) := by decide +kernel
theorem fe_105_407 : am_fetch 105 407 = some (.istore 6, 2, 1, 0, 0) := by decide +kernel
theorem fe_105_409 : am_fetch 105 409 = some (.aload_n 0, 1, 1, 0, 0) := by decide +kernel
theorem fe_105_410 : am_fetch 105 410 = some (.iload_n 2, 1, 1, 0, 0) := by decide +kernel
theorem fe_105_411 : am_fetch 105 411 = some (.iconst 2, 1, 0, 0, 0) := by decide +kernel
theorem fe_105_412 : am_fetch 105 412 = some (.invokestatic 75, 3, 7, 70, 0) := by decide +kernel
theorem fe_105_415 : am_fetch 105 415 = some (.iload 5, 2, 1, 0, 0) := by decide +kernel
theorem fe_105_417 : am_fetch 105 417 = some (.invokevirtual 87, 3, 7, 88, 0) := by decide +kernel
theorem fe_105_420 : am_fetch 105 420 = some (.iload 6, 2, 1, 0, 0) := by decide +kernel
theorem fe_105_422 : am_fetch 105 422 = some (.if_icmp .ne 23, 3, 2, 445, 0) := by decide +kernel
theorem fe_105_425 : am_fetch 105 425 = some (.aload_n 0, 1, 1, 0, 0) := by decide +kernel
theorem fe_105_426 : am_fetch 105 426 = some (.iconst 5, 1, 0, 0, 0) := by decide +kernel
theorem fe_105_427 : am_fetch 105 427 = some (.iload_n 2, 1, 1, 0, 0) := by decide +kernel
theorem fe_105_428 : am_fetch 105 428 = some (.iconst 2, 1, 0, 0, 0) := by decide +kernel
theorem fe_105_429 : am_fetch 105 429 = some (.invokestatic 75, 3, 7, 70, 0) := by decide +kernel
theorem fe_105_432 : am_fetch 105 432 = some (.iadd, 1, 0, 0, 0) := by decide +kernel
theorem fe_105_433 : am_fetch 105 433 = some (.invokevirtual 20, 3, 7, 14, 0) := by decide +kernel
theorem fe_105_436 : am_fetch 105 436 = some (.iload 5, 2, 1, 0, 0) := by decide +kernel
theorem fe_105_438 : am_fetch 105 438 = some (.if_icmp .ne 7, 3, 2, 445, 0) := by decide +kernel
theorem fe_105_441 : am_fetch 105 441 = some (.iconst 1, 1, 0, 0, 0) := by decide +kernel
theorem fe_105_442 : am_fetch 105 442 = some (.goto 4, 3, 2, 446, 0) := by decide +kernel
theorem fe_105_445 : am_fetch 105 445 = some (.iconst 0, 1, 0, 0, 0) := by decide +kernel
theorem fe_105_446 : am_fetch 105 446 = some (.ireturn, 1, 8, 0, 0) := by decide +kernel
theorem fe_105_447 : am_fetch 105 447 = some (.aload_n 0, 1, 1, 0, 0) := by decide +kernel
theorem fe_105_448 : am_fetch 105 448 = some (.iload_n 2, 1, 1, 0, 0) := by decide +kernel
theorem fe_105_449 : am_fetch 105 449 = some (.iconst 5, 1, 0, 0, 0) := by decide +kernel
theorem fe_105_450 : am_fetch 105 450 = some (.invokestatic 75, 3, 7, 70, 0) := by decide +kernel
theorem fe_105_453 : am_fetch 105 453 = some (.iconst 0, 1, 0, 0, 0) := by decide +kernel
theorem fe_105_454 : am_fetch 105 454 = some (.invokevirtual 30, 3, 7, 33, 0) := by decide +kernel
theorem fe_105_457 : am_fetch 105 457 = some (.istore 5, 2, 1, 0, 0) := by decide +kernel
theorem fe_105_459 : am_fetch 105 459 = some (.aload_n 0, 1, 1, 0, 0) := by decide +kernel
theorem fe_105_460 : am_fetch 105 460 = some (.iconst 2, 1, 0, 0, 0) := by decide +kernel
theorem fe_105_461 : am_fetch 105 461 = some (.invokevirtual 20, 3, 7, 14, 0) := by decide +kernel
theorem fe_105_464 : am_fetch 105 464 = some (.istore 6, 2, 1, 0, 0) := by decide +kernel
theorem fe_105_466 : am_fetch 105 466 = some (.aload_n 0, 1, 1, 0, 0) := by decide +kernel
theorem fe_105_467 : am_fetch 105 467 = some (.iload_n 2, 1, 1, 0, 0) := by decide +kernel
theorem fe_105_468 : am_fetch 105 468 = some (.iconst 5, 1, 0, 0, 0) := by decide +kernel
theorem fe_105_469 : am_fetch 105 469 = some (.invokestatic 75, 3, 7, 70, 0) := by decide +kernel
theorem fe_105_472 : am_fetch 105 472 = some (.invokevirtual 69, 3, 7, 90, 0) := by decide +kernel
theorem fe_105_475 : am_fetch 105 475 = some (.iload 5, 2, 1, 0, 0) := by decide +kernel
theorem fe_105_477 : am_fetch 105 477 = some (.if_icmp .ne 33, 3, 2, 510, 0) := by decide +kernel
theorem fe_105_480 : am_fetch 105 480 = some (.aload_n 0, 1, 1, 0, 0) := by decide +kernel
theorem fe_105_481 : am_fetch 105 481 = some (.iconst 2, 1, 0, 0, 0) := by decide +kernel
theorem fe_105_482 : am_fetch 105 482 = some (.invokevirtual 20, 3, 7, 14, 0) := by decide +kernel
theorem fe_105_485 : am_fetch 105 485 = some (.iload 6, 2, 1, 0, 0) := by decide +kernel
theorem fe_105_487 : am_fetch 105 487 = some (.iload 5, 2, 1, 0, 0) := by decide +kernel
theorem fe_105_489 : am_fetch 105 489 = some (.iadd, 1, 0, 0, 0) := by decide +kernel
theorem fe_105_490 : am_fetch 105 490 = some (.if_icmp .ne 20, 3, 2, 510, 0) := by decide +kernel
theorem fe_105_493 : am_fetch 105 493 = some (.aload_n 0, 1, 1, 0, 0) := by decide +kernel
theorem fe_105_494 : am_fetch 105 494 = some (.iload_n 2, 1, 1, 0, 0) := by decide +kernel
theorem fe_105_495 : am_fetch 105 495 = some (.iconst 5, 1, 0, 0, 0) := by decide +kernel
theorem fe_105_496 : am_fetch 105 496 = some (.invokestatic 75, 3, 7, 70, 0) := by decide +kernel
theorem fe_105_499 : am_fetch 105 499 = some (.iconst 0, 1, 0, 0, 0) := by decide +kernel
theorem fe_105_500 : am_fetch 105 500 = some (.invokevirtual 30, 3, 7, 33, 0) := by decide +kernel
theorem fe_105_503 : am_fetch 105 503 = some (.ifCond .ne 7, 3, 2, 510, 0) := by decide +kernel
theorem fe_105_506 : am_fetch 105 506 = some (.iconst 1, 1, 0, 0, 0) := by decide +kernel
theorem fe_105_507 : am_fetch 105 507 = some (.goto 4, 3, 2, 511, 0) := by decide +kernel
theorem fe_105_510 : am_fetch 105 510 = some (.iconst 0, 1, 0, 0, 0) := by decide +kernel
theorem fe_105_511 : am_fetch 105 511 = some (.ireturn, 1, 8, 0, 0) := by decide +kernel
theorem fe_105_512 : am_fetch 105 512 = some (.aload_n 0, 1, 1, 0, 0) := by decide +kernel
theorem fe_105_513 : am_fetch 105 513 = some (.iconst 4, 1, 0, 0, 0) := by decide +kernel
theorem fe_105_514 : am_fetch 105 514 = some (.invokevirtual 20, 3, 7, 14, 0) := by decide +kernel
theorem fe_105_517 : am_fetch 105 517 = some (.istore 5, 2, 1, 0, 0) := by decide +kernel
theorem fe_105_519 : am_fetch 105 519 = some (.aload_n 0, 1, 1, 0, 0) := by decide +kernel
theorem fe_105_520 : am_fetch 105 520 = some (.iconst 1, 1, 0, 0, 0) := by decide +kernel
theorem fe_105_521 : am_fetch 105 521 = some (.iload_n 2, 1, 1, 0, 0) := by decide +kernel
theorem fe_105_522 : am_fetch 105 522 = some (.bipush 40, 2, 0, 0, 0) := by decide +kernel
theorem fe_105_524 : am_fetch 105 524 = some (.invokestatic 75, 3, 7, 70, 0) := by decide +kernel
theorem fe_105_527 : am_fetch 105 527 = some (.iadd, 1, 0, 0, 0) := by decide +kernel
theorem fe_105_528 : am_fetch 105 528 = some (.invokestatic 90, 3, 7, 94, 0) := by decide +kernel
theorem fe_105_531 : am_fetch 105 531 = some (.istore 6, 2, 1, 0, 0) := by decide +kernel
theorem fe_105_533 : am_fetch 105 533 = some (.iload 5, 2, 1, 0, 0) := by decide +kernel
theorem fe_105_535 : am_fetch 105 535 = some (.iconst 1, 1, 0, 0, 0) := by decide +kernel
theorem fe_105_536 : am_fetch 105 536 = some (.iadd, 1, 0, 0, 0) := by decide +kernel
theorem fe_105_537 : am_fetch 105 537 = some (.iload_n 2, 1, 1, 0, 0) := by decide +kernel
theorem fe_105_538 : am_fetch 105 538 = some (.bipush 40, 2, 0, 0, 0) := by decide +kernel
theorem fe_105_540 : am_fetch 105 540 = some (.invokestatic 75, 3, 7, 70, 0) := by decide +kernel
theorem fe_105_543 : am_fetch 105 543 = some (.iadd, 1, 0, 0, 0) := by decide +kernel
theorem fe_105_544 : am_fetch 105 544 = some (.sipush 200, 3, 0, 0, 0) := by decide +kernel
theorem fe_105_547 : am_fetch 105 547 = some (.if_icmp .le 29, 3, 2, 576, 0) := by decide +kernel
theorem fe_105_550 : am_fetch 105 550 = some (.iload 6, 2, 1, 0, 0) := by decide +kernel
theorem fe_105_552 : am_fetch 105 552 = some (.sipush (-7002), 3, 0, 0, 0) := by decide +kernel
theorem fe_105_555 : am_fetch 105 555 = some (.if_icmp .ne 17, 3, 2, 572, 0) := by decide +kernel
theorem fe_105_558 : am_fetch 105 558 = some (.aload_n 0, 1, 1, 0, 0) := by decide +kernel
theorem fe_105_559 : am_fetch 105 559 = some (.iconst 4, 1, 0, 0, 0) := by decide +kernel
theorem fe_105_560 : am_fetch 105 560 = some (.invokevirtual 20, 3, 7, 14, 0) := by decide +kernel
theorem fe_105_563 : am_fetch 105 563 = some (.iload 5, 2, 1, 0, 0) := by decide +kernel
theorem fe_105_565 : am_fetch 105 565 = some (.if_icmp .ne 7, 3, 2, 572, 0) := by decide +kernel
theorem fe_105_568 : am_fetch 105 568 = some (.iconst 1, 1, 0, 0, 0) := by decide +kernel
theorem fe_105_569 : am_fetch 105 569 = some (.goto 38, 3, 2, 607, 0) := by decide +kernel
theorem fe_105_572 : am_fetch 105 572 = some (.iconst 0, 1, 0, 0, 0) := by decide +kernel
theorem fe_105_573 : am_fetch 105 573 = some (.goto 34, 3, 2, 607, 0) := by decide +kernel
theorem fe_105_576 : am_fetch 105 576 = some (.iload 6, 2, 1, 0, 0) := by decide +kernel
theorem fe_105_578 : am_fetch 105 578 = some (.iload 5, 2, 1, 0, 0) := by decide +kernel
theorem fe_105_580 : am_fetch 105 580 = some (.iconst 1, 1, 0, 0, 0) := by decide +kernel
theorem fe_105_581 : am_fetch 105 581 = some (.iadd, 1, 0, 0, 0) := by decide +kernel
theorem fe_105_582 : am_fetch 105 582 = some (.iload_n 2, 1, 1, 0, 0) := by decide +kernel
theorem fe_105_583 : am_fetch 105 583 = some (.bipush 40, 2, 0, 0, 0) := by decide +kernel
theorem fe_105_585 : am_fetch 105 585 = some (.invokestatic 75, 3, 7, 70, 0) := by decide +kernel
theorem fe_105_588 : am_fetch 105 588 = some (.iadd, 1, 0, 0, 0) := by decide +kernel
theorem fe_105_589 : am_fetch 105 589 = some (.if_icmp .ne 17, 3, 2, 606, 0) := by decide +kernel
theorem fe_105_592 : am_fetch 105 592 = some (.aload_n 0, 1, 1, 0, 0) := by decide +kernel
theorem fe_105_593 : am_fetch 105 593 = some (.iconst 4, 1, 0, 0, 0) := by decide +kernel
theorem fe_105_594 : am_fetch 105 594 = some (.invokevirtual 20, 3, 7, 14, 0) := by decide +kernel
theorem fe_105_597 : am_fetch 105 597 = some (.iload 6, 2, 1, 0, 0) := by decide +kernel
theorem fe_105_599 : am_fetch 105 599 = some (.if_icmp .ne 7, 3, 2, 606, 0) := by decide +kernel
theorem fe_105_602 : am_fetch 105 602 = some (.iconst 1, 1, 0, 0, 0) := by decide +kernel
theorem fe_105_603 : am_fetch 105 603 = some (.goto 4, 3, 2, 607, 0) := by decide +kernel
theorem fe_105_606 : am_fetch 105 606 = some (.iconst 0, 1, 0, 0, 0) := by decide +kernel
theorem fe_105_607 : am_fetch 105 607 = some (.ireturn, 1, 8, 0, 0) := by decide +kernel
theorem fe_105_608 : am_fetch 105 608 = some (.aload_n 0, 1, 1, 0, 0) := by decide +kernel
theorem fe_105_609 : am_fetch 105 609 = some (.iload_n 2, 1, 1, 0, 0) := by decide +kernel
theorem fe_105_610 : am_fetch 105 610 = some (.iload_n 2, 1, 1, 0, 0) := by decide +kernel
theorem fe_105_611 : am_fetch 105 611 = some (.bipush 11, 2, 0, 0, 0) := by decide +kernel
theorem fe_105_613 : am_fetch 105 613 = some (.ishr, 1, 0, 0, 0) := by decide +kernel
theorem fe_105_614 : am_fetch 105 614 = some (.iconst 2, 1, 0, 0, 0) := by decide +kernel
theorem fe_105_615 : am_fetch 105 615 = some (.invokestatic 75, 3, 7, 70, 0) := by decide +kernel
theorem fe_105_618 : am_fetch 105 618 = some (.ifCond .ne 9, 3, 2, 627, 0) := by decide +kernel
theorem fe_105_621 : am_fetch 105 621 = some (.sipush 1001, 3, 0, 0, 0) := by decide +kernel
theorem fe_105_624 : am_fetch 105 624 = some (.goto 5, 3, 2, 629, 0) := by decide +kernel
theorem fe_105_627 : am_fetch 105 627 = some (.bipush 40, 2, 0, 0, 0) := by decide +kernel
theorem fe_105_629 : am_fetch 105 629 = some (.invokestatic 75, 3, 7, 70, 0) := by decide +kernel
theorem fe_105_632 : am_fetch 105 632 = some (.invokestatic 94, 3, 7, 66, 0) := by decide +kernel
theorem fe_105_635 : am_fetch 105 635 = some (.ireturn, 1, 8, 0, 0) := by decide +kernel
theorem fe_105_636 : am_fetch 105 636 = some (.iload_n 2, 1, 1, 0, 0) := by decide +kernel
theorem fe_105_637 : am_fetch 105 637 = some (.iconst 3, 1, 0, 0, 0) := by decide +kernel
theorem fe_105_638 : am_fetch 105 638 = some (.invokestatic 75, 3, 7, 70, 0) := by decide +kernel
theorem fe_105_641 : am_fetch 105 641 = some (.ifCond .gt 23, 3, 2, 664, 0) := by decide +kernel
theorem fe_105_644 : am_fetch 105 644 = some (.aload_n 0, 1, 1, 0, 0) := by decide +kernel
theorem fe_105_645 : am_fetch 105 645 = some (.iconst 1, 1, 0, 0, 0) := by decide +kernel
theorem fe_105_646 : am_fetch 105 646 = some (.iload_n 2, 1, 1, 0, 0) := by decide +kernel
theorem fe_105_647 : am_fetch 105 647 = some (.iconst 2, 1, 0, 0, 0) := by decide +kernel
theorem fe_105_648 : am_fetch 105 648 = some (.ishr, 1, 0, 0, 0) := by decide +kernel
theorem fe_105_649 : am_fetch 105 649 = some (.bipush 40, 2, 0, 0, 0) := by decide +kernel
theorem fe_105_651 : am_fetch 105 651 = some (.invokestatic 75, 3, 7, 70, 0) := by decide +kernel
theorem fe_105_654 : am_fetch 105 654 = some (.iadd, 1, 0, 0, 0) := by decide +kernel
theorem fe_105_655 : am_fetch 105 655 = some (.iload_n 2, 1, 1, 0, 0) := by decide +kernel
theorem fe_105_656 : am_fetch 105 656 = some (.iconst 4, 1, 0, 0, 0) := by decide +kernel
theorem fe_105_657 : am_fetch 105 657 = some (.ishr, 1, 0, 0, 0) := by decide +kernel
theorem fe_105_658 : am_fetch 105 658 = some (.invokestatic 98, 3, 12, 104, 0) := by decide +kernel
theorem fe_105_661 : am_fetch 105 661 = some (.ifCond .eq 7, 3, 2, 668, 0) := by decide +kernel
theorem fe_105_664 : am_fetch 105 664 = some (.iconst 1, 1, 0, 0, 0) := by decide +kernel
theorem fe_105_665 : am_fetch 105 665 = some (.goto 4, 3, 2, 669, 0) := by decide +kernel
theorem fe_105_668 : am_fetch 105 668 = some (.iconst 0, 1, 0, 0, 0) := by decide +kernel
theorem fe_105_669 : am_fetch 105 669 = some (.ireturn, 1, 8, 0, 0) := by decide +kernel
theorem fe_105_670 : am_fetch 105 670 = some (.aload_n 0, 1, 1, 0, 0) := by decide +kernel
theorem fe_105_671 : am_fetch 105 671 = some (.bipush 9, 2, 0, 0, 0) := by decide +kernel
theorem fe_105_673 : am_fetch 105 673 = some (.invokevirtual 20, 3, 7, 14, 0) := by decide +kernel
theorem fe_105_676 : am_fetch 105 676 = some (.istore 5, 2, 1, 0, 0) := by decide +kernel
theorem fe_105_678 : am_fetch 105 678 = some (.aload_n 0, 1, 1, 0, 0) := by decide +kernel
theorem fe_105_679 : am_fetch 105 679 = some (.iconst 0, 1, 0, 0, 0) := by decide +kernel
theorem fe_105_680 : am_fetch 105 680 = some (.invokevirtual 20, 3, 7, 14, 0) := by decide +kernel
theorem fe_105_683 : am_fetch 105 683 = some (.istore 6, 2, 1, 0, 0) := by decide +kernel
theorem fe_105_685 : am_fetch 105 685 = some (.iconst 1, 1, 0, 0, 0) := by decide +kernel
theorem fe_105_686 : am_fetch 105 686 = some (.iload_n 2, 1, 1, 0, 0) := by decide +kernel
theorem fe_105_687 : am_fetch 105 687 = some (.iload_n 2, 1, 1, 0, 0) := by decide +kernel
theorem fe_105_688 : am_fetch 105 688 = some (.bipush 8, 2, 0, 0, 0) := by decide +kernel
theorem fe_105_690 : am_fetch 105 690 = some (.ishr, 1, 0, 0, 0) := by decide +kernel
theorem fe_105_691 : am_fetch 105 691 = some (.iconst 3, 1, 0, 0, 0) := by decide +kernel
theorem fe_105_692 : am_fetch 105 692 = some (.invokestatic 75, 3, 7, 70, 0) := by decide +kernel
theorem fe_105_695 : am_fetch 105 695 = some (.ifCond .ne 8, 3, 2, 703, 0) := by decide +kernel
theorem fe_105_698 : am_fetch 105 698 = some (.bipush 50, 2, 0, 0, 0) := by decide +kernel
theorem fe_105_700 : am_fetch 105 700 = some (.goto 4, 3, 2, 704, 0) := by decide +kernel
theorem fe_105_703 : am_fetch 105 703 = some (.iconst 5, 1, 0, 0, 0) := by decide +kernel
theorem fe_105_704 : am_fetch 105 704 = some (.invokestatic 75, 3, 7, 70, 0) := by decide +kernel
theorem fe_105_707 : am_fetch 105 707 = some (.iadd, 1, 0, 0, 0) := by decide +kernel
theorem fe_105_708 : am_fetch 105 708 = some (.istore 7, 2, 1, 0, 0) := by decide +kernel
theorem fe_105_710 : am_fetch 105 710 = some (.aload_n 0, 1, 1, 0, 0) := by decide +kernel
theorem fe_105_711 : am_fetch 105 711 = some (.iload 7, 2, 1, 0, 0) := by decide +kernel
theorem fe_105_713 : am_fetch 105 713 = some (.invokevirtual 72, 3, 7, 103, 0) := by decide +kernel
theorem fe_105_716 : am_fetch 105 716 = some (.aload_n 0, 1, 1, 0, 0) := by decide +kernel
theorem fe_105_717 : am_fetch 105 717 = some (.bipush 9, 2, 0, 0, 0) := by decide +kernel
theorem fe_105_719 : am_fetch 105 719 = some (.invokevirtual 20, 3, 7, 14, 0) := by decide +kernel
theorem fe_105_722 : am_fetch 105 722 = some (.iload 5, 2, 1, 0, 0) := by decide +kernel
theorem fe_105_724 : am_fetch 105 724 = some (.isub, 1, 0, 0, 0) := by decide +kernel
theorem fe_105_725 : am_fetch 105 725 = some (.if_icmp .ne 20, 3, 2, 745, 0) := by decide +kernel
theorem fe_105_728 : am_fetch 105 728 = some (.aload_n 0, 1, 1, 0, 0) := by decide +kernel
theorem fe_105_729 : am_fetch 105 729 = some (.iconst 0, 1, 0, 0, 0) := by decide +kernel
theorem fe_105_730 : am_fetch 105 730 = some (.invokevirtual 20, 3, 7, 14, 0) := by decide +kernel
theorem fe_105_733 : am_fetch 105 733 = some (.iload 6, 2, 1, 0, 0) := by decide +kernel
theorem fe_105_735 : am_fetch 105 735 = some (.iload 7, 2, 1, 0, 0) := by decide +kernel
theorem fe_105_737 : am_fetch 105 737 = some (.iadd, 1, 0, 0, 0) := by decide +kernel
theorem fe_105_738 : am_fetch 105 738 = some (.if_icmp .ne 7, 3, 2, 745, 0) := by decide +kernel
theorem fe_105_741 : am_fetch 105 741 = some (.iconst 1, 1, 0, 0, 0) := by decide +kernel
theorem fe_105_742 : am_fetch 105 742 = some (.goto 4, 3, 2, 746, 0) := by decide +kernel
theorem fe_105_745 : am_fetch 105 745 = some (.iconst 0, 1, 0, 0, 0) := by decide +kernel
theorem fe_105_746 : am_fetch 105 746 = some (.ireturn, 1, 8, 0, 0) := by decide +kernel
theorem fe_106_0 : am_fetch 106 0 = some (.new 11, 3, 5, 10, 6) := by decide +kernel
theorem fe_106_3 : am_fetch 106 3 = some (.dup, 1, 0, 0, 0) := by decide +kernel
theorem fe_106_4 : am_fetch 106 4 = some (.invokespecial 102, 3, 7, 11, 0) := by decide +kernel
theorem fe_106_7 : am_fetch 106 7 = some (.astore_n 1, 1, 1, 0, 0) := by decide +kernel
theorem fe_106_8 : am_fetch 106 8 = some (.aload_n 1, 1, 1, 0, 0) := by decide +kernel
theorem fe_106_9 : am_fetch 106 9 = some (.invokestatic 103, 3, 7, 48, 0) := by decide +kernel
theorem fe_106_12 : am_fetch 106 12 = some (.ifCond .eq 38, 3, 2, 50, 0) := by decide +kernel
theorem fe_106_15 : am_fetch 106 15 = some (.aload_n 1, 1, 1, 0, 0) := by decide +kernel
theorem fe_106_16 : am_fetch 106 16 = some (.bipush 7, 2, 0, 0, 0) := by decide +kernel
theorem fe_106_18 : am_fetch 106 18 = some (.invokestatic 94, 3, 7, 66, 0) := by decide +kernel
theorem fe_106_21 : am_fetch 106 21 = some (.ifCond .eq 29, 3, 2, 50, 0) := by decide +kernel
theorem fe_106_24 : am_fetch 106 24 = some (.aload_n 1, 1, 1, 0, 0) := by decide +kernel
theorem fe_106_25 : am_fetch 106 25 = some (.iconst 1, 1, 0, 0, 0) := by decide +kernel
theorem fe_106_26 : am_fetch 106 26 = some (.invokevirtual 48, 3, 7, 47, 0) := by decide +kernel
theorem fe_106_29 : am_fetch 106 29 = some (.ifCond .ne 21, 3, 2, 50, 0) := by decide +kernel
theorem fe_106_32 : am_fetch 106 32 = some (.aload_n 1, 1, 1, 0, 0) := by decide +kernel
theorem fe_106_33 : am_fetch 106 33 = some (.invokevirtual 106, 3, 7, 68, 0) := by decide +kernel
theorem fe_106_36 : am_fetch 106 36 = some (.fconst 0, 1, 0, 0, 0) := by decide +kernel
theorem fe_106_37 : am_fetch 106 37 = some (.fcmp .l, 1, 0, 0, 0) := by decide +kernel
theorem fe_106_38 : am_fetch 106 38 = some (.ifCond .ne 12, 3, 2, 50, 0) := by decide +kernel
theorem fe_106_41 : am_fetch 106 41 = some (.aload_n 1, 1, 1, 0, 0) := by decide +kernel
theorem fe_106_42 : am_fetch 106 42 = some (.iconst 2, 1, 0, 0, 0) := by decide +kernel
theorem fe_106_43 : am_fetch 106 43 = some (.invokevirtual 27, 3, 7, 29, 0) := by decide +kernel
theorem fe_106_46 : am_fetch 106 46 = some (.iconst (-1), 1, 0, 0, 0) := by decide +kernel
theorem fe_106_47 : am_fetch 106 47 = some (.if_icmp .eq 5, 3, 2, 52, 0) := by decide +kernel
theorem fe_106_50 : am_fetch 106 50 = some (.iconst 0, 1, 0, 0, 0) := by decide +kernel
theorem fe_106_51 : am_fetch 106 51 = some (.ireturn, 1, 8, 0, 0) := by decide +kernel
theorem fe_106_52 : am_fetch 106 52 = some (.iconst 0, 1, 0, 0, 0) := by decide +kernel
theorem fe_106_53 : am_fetch 106 53 = some (.istore_n 2, 1, 1, 0, 0) := by decide +kernel
theorem fe_106_54 : am_fetch 106 54 = some (.iload_n 2, 1, 10, 0, 0) := by decide +kernel
theorem fe_106_55 : am_fetch 106 55 = some (.bipush 44, 2, 0, 0, 0) := by decide +kernel
theorem fe_106_57 : am_fetch 106 57 = some (.if_icmp .ge 55, 3, 2, 112, 0) := by decide +kernel
theorem fe_106_60 : am_fetch 106 60 = some (.aload_n 1, 1, 1, 0, 0) := by decide +kernel
theorem fe_106_61 : am_fetch 106 61 = some (.iload_n 2, 1, 1, 0, 0) := by decide +kernel
theorem fe_106_62 : am_fetch 106 62 = some (.bipush 6, 2, 0, 0, 0) := by decide +kernel
theorem fe_106_64 : am_fetch 106 64 = some (.if_icmp .ge 11, 3, 2, 75, 0) := by decide +kernel
theorem fe_106_67 : am_fetch 106 67 = some (.iconst 2, 1, 0, 0, 0) := by decide +kernel
theorem fe_106_68 : am_fetch 106 68 = some (.iload_n 2, 1, 1, 0, 0) := by decide +kernel
theorem fe_106_69 : am_fetch 106 69 = some (.iconst 2, 1, 0, 0, 0) := by decide +kernel
theorem fe_106_70 : am_fetch 106 70 = some (.irem, 1, 0, 0, 0) := by decide +kernel
theorem fe_106_71 : am_fetch 106 71 = some (.imul, 1, 0, 0, 0) := by decide +kernel
theorem fe_106_72 : am_fetch 106 72 = some (.goto 10, 3, 2, 82, 0) := by decide +kernel
theorem fe_106_75 : am_fetch 106 75 = some (.aload_n 0, 1, 1, 0, 0) := by decide +kernel
theorem fe_106_76 : am_fetch 106 76 = some (.iconst 2, 1, 0, 0, 0) := by decide +kernel
theorem fe_106_77 : am_fetch 106 77 = some (.iload_n 2, 1, 1, 0, 0) := by decide +kernel
theorem fe_106_78 : am_fetch 106 78 = some (.imul, 1, 0, 0, 0) := by decide +kernel
theorem fe_106_79 : am_fetch 106 79 = some (.invokestatic 110, 3, 12, 69, 0) := by decide +kernel
theorem fe_106_82 : am_fetch 106 82 = some (.aload_n 0, 1, 1, 0, 0) := by decide +kernel
theorem fe_106_83 : am_fetch 106 83 = some (.iconst 2, 1, 0, 0, 0) := by decide +kernel
theorem fe_106_84 : am_fetch 106 84 = some (.iload_n 2, 1, 1, 0, 0) := by decide +kernel
theorem fe_106_85 : am_fetch 106 85 = some (.imul, 1, 0, 0, 0) := by decide +kernel
theorem fe_106_86 : am_fetch 106 86 = some (.iconst 1, 1, 0, 0, 0) := by decide +kernel
theorem fe_106_87 : am_fetch 106 87 = some (.iadd, 1, 0, 0, 0) := by decide +kernel
theorem fe_106_88 : am_fetch 106 88 = some (.invokestatic 110, 3, 12, 69, 0) := by decide +kernel
theorem fe_106_91 : am_fetch 106 91 = some (.invokestatic 114, 3, 12, 105, 0) := by decide +kernel
theorem fe_106_94 : am_fetch 106 94 = some (.ifCond .eq 10, 3, 2, 104, 0) := by decide +kernel
theorem fe_106_97 : am_fetch 106 97 = some (.aload_n 1, 1, 1, 0, 0) := by decide +kernel
theorem fe_106_98 : am_fetch 106 98 = some (.invokestatic 103, 3, 7, 48, 0) := by decide +kernel
theorem fe_106_101 : am_fetch 106 101 = some (.ifCond .ne 5, 3, 2, 106, 0) := by decide +kernel
theorem fe_106_104 : am_fetch 106 104 = some (.iconst 0, 1, 0, 0, 0) := by decide +kernel
theorem fe_106_105 : am_fetch 106 105 = some (.ireturn, 1, 8, 0, 0) := by decide +kernel
theorem fe_106_106 : am_fetch 106 106 = some (.iinc 2 1, 3, 1, 0, 0) := by decide +kernel
theorem fe_106_109 : am_fetch 106 109 = some (.goto (-55), 3, 2, 54, 0) := by decide +kernel
theorem fe_106_112 : am_fetch 106 112 = some (.aload_n 1, 1, 1, 0, 0) := by decide +kernel
theorem fe_106_113 : am_fetch 106 113 = some (.aload_n 0, 1, 1, 0, 0) := by decide +kernel
theorem fe_106_114 : am_fetch 106 114 = some (.bipush 88, 2, 0, 0, 0) := by decide +kernel
theorem fe_106_116 : am_fetch 106 116 = some (.invokestatic 110, 3, 12, 69, 0) := by decide +kernel
theorem fe_106_119 : am_fetch 106 119 = some (.sipush 1001, 3, 0, 0, 0) := by decide +kernel
theorem fe_106_122 : am_fetch 106 122 = some (.invokestatic 75, 3, 7, 70, 0) := by decide +kernel
theorem fe_106_125 : am_fetch 106 125 = some (.invokestatic 94, 3, 7, 66, 0) := by decide +kernel
theorem fe_106_128 : am_fetch 106 128 = some (.ifCond .eq 40, 3, 2, 168, 0) := by decide +kernel
theorem fe_106_131 : am_fetch 106 131 = some (.aload_n 1, 1, 1, 0, 0) := by decide +kernel
theorem fe_106_132 : am_fetch 106 132 = some (.iconst 1, 1, 0, 0, 0) := by decide +kernel
theorem fe_106_133 : am_fetch 106 133 = some (.aload_n 0, 1, 1, 0, 0) := by decide +kernel
theorem fe_106_134 : am_fetch 106 134 = some (.bipush 89, 2, 0, 0, 0) := by decide +kernel
theorem fe_106_136 : am_fetch 106 136 = some (.invokestatic 110, 3, 12, 69, 0) := by decide +kernel
theorem fe_106_139 : am_fetch 106 139 = some (.bipush 40, 2, 0, 0, 0) := by decide +kernel
theorem fe_106_141 : am_fetch 106 141 = some (.invokestatic 75, 3, 7, 70, 0) := by decide +kernel
theorem fe_106_144 : am_fetch 106 144 = some (.iadd, 1, 0, 0, 0) := by decide +kernel
theorem fe_106_145 : am_fetch 106 145 = some (.aload_n 0, 1, 1, 0, 0) := by decide +kernel
theorem fe_106_146 : am_fetch 106 146 = some (.bipush 90, 2, 0, 0, 0) := by decide +kernel
theorem fe_106_148 : am_fetch 106 148 = some (.invokestatic 110, 3, 12, 69, 0) := by decide +kernel
theorem fe_106_151 : am_fetch 106 151 = some (.invokestatic 98, 3, 12, 104, 0) := by decide +kernel
theorem fe_106_154 : am_fetch 106 154 = some (.ifCond .eq 14, 3, 2, 168, 0) := by decide +kernel
theorem fe_106_157 : am_fetch 106 157 = some (.aload_n 1, 1, 1, 0, 0) := by decide +kernel
theorem fe_106_158 : am_fetch 106 158 = some (.invokestatic 103, 3, 7, 48, 0) := by decide +kernel
theorem fe_106_161 : am_fetch 106 161 = some (.ifCond .eq 7, 3, 2, 168, 0) := by decide +kernel
theorem fe_106_164 : am_fetch 106 164 = some (.iconst 1, 1, 0, 0, 0) := by decide +kernel
theorem fe_106_165 : am_fetch 106 165 = some (.goto 4, 3, 2, 169, 0) := by decide +kernel
theorem fe_106_168 : am_fetch 106 168 = some (.iconst 0, 1, 0, 0, 0) := by decide +kernel
theorem fe_106_169 : am_fetch 106 169 = some (.ireturn, 1, 8, 0, 0) := by decide +kernel
theorem at_0 : am_at ay_SK 0 = some (.inl (10, [some (.ref 1), some (.ref 33), some (.ref 40), some (.ref 45), some (.ref 56), some (.ref 253)])) := by decide +kernel
theorem at_1 : am_at ay_SK 1 = some (.inl (7, [none, none, none, none, none, some (.ref 2), some (.ref 4), some (.ref 6), some (.ref 8), some (.ref 19), some (.ref 26)])) := by decide +kernel
theorem at_2 : am_at ay_SK 2 = some (.inl (6, [some (.ref 3)])) := by decide +kernel
theorem at_3 : am_at ay_SK 3 = some (.inr (0, 2, [])) := by decide +kernel
theorem at_4 : am_at ay_SK 4 = some (.inl (6, [some (.ref 5)])) := by decide +kernel
theorem at_5 : am_at ay_SK 5 = some (.inr (0, 5, [])) := by decide +kernel
theorem at_6 : am_at ay_SK 6 = some (.inl (6, [some (.ref 7)])) := by decide +kernel
theorem at_7 : am_at ay_SK 7 = some (.inr (0, 5, [])) := by decide +kernel
theorem at_8 : am_at ay_SK 8 = some (.inl (1, [none, some (.ref 9), some (.ref 11), some (.ref 13), some (.ref 15), some (.ref 17)])) := by decide +kernel
theorem at_9 : am_at ay_SK 9 = some (.inl (6, [some (.ref 10)])) := by decide +kernel
theorem at_10 : am_at ay_SK 10 = some (.inr (0, 12, [])) := by decide +kernel
theorem at_11 : am_at ay_SK 11 = some (.inl (6, [some (.ref 12)])) := by decide +kernel
theorem at_12 : am_at ay_SK 12 = some (.inr (0, 12, [])) := by decide +kernel
theorem at_13 : am_at ay_SK 13 = some (.inl (6, [some (.ref 14)])) := by decide +kernel
theorem at_14 : am_at ay_SK 14 = some (.inr (0, 12, [])) := by decide +kernel
theorem at_15 : am_at ay_SK 15 = some (.inl (6, [some (.ref 16)])) := by decide +kernel
theorem at_16 : am_at ay_SK 16 = some (.inr (0, 24, [])) := by decide +kernel
theorem at_17 : am_at ay_SK 17 = some (.inl (6, [some (.ref 18)])) := by decide +kernel
theorem at_18 : am_at ay_SK 18 = some (.inr (0, 24, [])) := by decide +kernel
theorem at_19 : am_at ay_SK 19 = some (.inl (0, [none, some (.ref 20), some (.ref 22), some (.ref 24)])) := by decide +kernel
theorem at_20 : am_at ay_SK 20 = some (.inl (6, [some (.ref 21)])) := by decide +kernel
theorem at_21 : am_at ay_SK 21 = some (.inr (0, 40, [])) := by decide +kernel
theorem at_22 : am_at ay_SK 22 = some (.inl (6, [some (.ref 23)])) := by decide +kernel
theorem at_23 : am_at ay_SK 23 = some (.inr (0, 40, [])) := by decide +kernel
theorem at_24 : am_at ay_SK 24 = some (.inl (6, [some (.ref 25)])) := by decide +kernel
theorem at_25 : am_at ay_SK 25 = some (.inr (0, 40, [])) := by decide +kernel
theorem at_26 : am_at ay_SK 26 = some (.inl (8, [none, none, none, some (.ref 27), some (.ref 29), some (.ref 31)])) := by decide +kernel
theorem at_27 : am_at ay_SK 27 = some (.inl (6, [some (.ref 28)])) := by decide +kernel
theorem at_28 : am_at ay_SK 28 = some (.inr (0, 60, [])) := by decide +kernel
theorem at_29 : am_at ay_SK 29 = some (.inl (6, [some (.ref 30)])) := by decide +kernel
theorem at_30 : am_at ay_SK 30 = some (.inr (0, 60, [])) := by decide +kernel
theorem at_31 : am_at ay_SK 31 = some (.inl (6, [some (.ref 32)])) := by decide +kernel
theorem at_32 : am_at ay_SK 32 = some (.inr (0, 60, [])) := by decide +kernel
theorem at_33 : am_at ay_SK 33 = some (.inl (5, [some (.ref 8), some (.ref 34), some (.ref 36), some (.ref 38)])) := by decide +kernel
theorem at_34 : am_at ay_SK 34 = some (.inl (6, [some (.ref 35)])) := by decide +kernel
theorem at_35 : am_at ay_SK 35 = some (.inr (0, 12, [])) := by decide +kernel
theorem at_36 : am_at ay_SK 36 = some (.inl (6, [some (.ref 37)])) := by decide +kernel
theorem at_37 : am_at ay_SK 37 = some (.inr (0, 25, [])) := by decide +kernel
theorem at_38 : am_at ay_SK 38 = some (.inl (6, [some (.ref 39)])) := by decide +kernel
theorem at_39 : am_at ay_SK 39 = some (.inr (0, 25, [])) := by decide +kernel
theorem at_40 : am_at ay_SK 40 = some (.inl (3, [some (.ref 26), some (.ref 41), some (.ref 43), none])) := by decide +kernel
theorem at_41 : am_at ay_SK 41 = some (.inl (6, [some (.ref 42)])) := by decide +kernel
theorem at_42 : am_at ay_SK 42 = some (.inr (0, 31, [])) := by decide +kernel
theorem at_43 : am_at ay_SK 43 = some (.inl (6, [some (.ref 44)])) := by decide +kernel
theorem at_44 : am_at ay_SK 44 = some (.inr (0, 60, [])) := by decide +kernel
theorem at_45 : am_at ay_SK 45 = some (.inl (4, [none, some (.ref 46), none, none, some (.ref 48), some (.ref 50), some (.ref 52), some (.ref 54)])) := by decide +kernel
theorem at_46 : am_at ay_SK 46 = some (.inl (6, [some (.ref 47)])) := by decide +kernel
theorem at_47 : am_at ay_SK 47 = some (.inr (0, 60, [])) := by decide +kernel
theorem at_48 : am_at ay_SK 48 = some (.inl (6, [some (.ref 49)])) := by decide +kernel
theorem at_49 : am_at ay_SK 49 = some (.inr (0, 20, [])) := by decide +kernel
theorem at_50 : am_at ay_SK 50 = some (.inl (6, [some (.ref 51)])) := by decide +kernel
theorem at_51 : am_at ay_SK 51 = some (.inr (0, 20, [])) := by decide +kernel
theorem at_52 : am_at ay_SK 52 = some (.inl (6, [some (.ref 53)])) := by decide +kernel
theorem at_53 : am_at ay_SK 53 = some (.inr (0, 20, [])) := by decide +kernel
theorem at_54 : am_at ay_SK 54 = some (.inl (6, [some (.ref 55)])) := by decide +kernel
theorem at_55 : am_at ay_SK 55 = some (.inr (0, 20, [])) := by decide +kernel
theorem at_56 : am_at ay_SK 56 = some (.inl (2, [some (.ref 57), none, none])) := by decide +kernel
theorem at_57 : am_at ay_SK 57 = some (.inl (9, [some (.ref 58), some (.ref 251)])) := by decide +kernel
theorem at_58 : am_at ay_SK 58 = some (.inr (3, 6, [some 59, some 91, some 123, some 155, some 187, some 219])) := by decide +kernel
theorem at_59 : am_at ay_SK 59 = some (.inl (7, [none, none, none, none, none, some (.ref 60), some (.ref 62), some (.ref 64), some (.ref 66), some (.ref 77), some (.ref 84)])) := by decide +kernel
theorem at_60 : am_at ay_SK 60 = some (.inl (6, [some (.ref 61)])) := by decide +kernel
theorem at_61 : am_at ay_SK 61 = some (.inr (0, 2, [])) := by decide +kernel
theorem at_62 : am_at ay_SK 62 = some (.inl (6, [some (.ref 63)])) := by decide +kernel
theorem at_63 : am_at ay_SK 63 = some (.inr (0, 5, [])) := by decide +kernel
theorem at_64 : am_at ay_SK 64 = some (.inl (6, [some (.ref 65)])) := by decide +kernel
theorem at_65 : am_at ay_SK 65 = some (.inr (0, 5, [])) := by decide +kernel
theorem at_66 : am_at ay_SK 66 = some (.inl (1, [none, some (.ref 67), some (.ref 69), some (.ref 71), some (.ref 73), some (.ref 75)])) := by decide +kernel
theorem at_67 : am_at ay_SK 67 = some (.inl (6, [some (.ref 68)])) := by decide +kernel
theorem at_68 : am_at ay_SK 68 = some (.inr (0, 12, [])) := by decide +kernel
theorem at_69 : am_at ay_SK 69 = some (.inl (6, [some (.ref 70)])) := by decide +kernel
theorem at_70 : am_at ay_SK 70 = some (.inr (0, 12, [])) := by decide +kernel
theorem at_71 : am_at ay_SK 71 = some (.inl (6, [some (.ref 72)])) := by decide +kernel
theorem at_72 : am_at ay_SK 72 = some (.inr (0, 12, [])) := by decide +kernel
theorem at_73 : am_at ay_SK 73 = some (.inl (6, [some (.ref 74)])) := by decide +kernel
theorem at_74 : am_at ay_SK 74 = some (.inr (0, 24, [])) := by decide +kernel
theorem at_75 : am_at ay_SK 75 = some (.inl (6, [some (.ref 76)])) := by decide +kernel
theorem at_76 : am_at ay_SK 76 = some (.inr (0, 24, [])) := by decide +kernel
theorem at_77 : am_at ay_SK 77 = some (.inl (0, [none, some (.ref 78), some (.ref 80), some (.ref 82)])) := by decide +kernel
theorem at_78 : am_at ay_SK 78 = some (.inl (6, [some (.ref 79)])) := by decide +kernel
theorem at_79 : am_at ay_SK 79 = some (.inr (0, 40, [])) := by decide +kernel
theorem at_80 : am_at ay_SK 80 = some (.inl (6, [some (.ref 81)])) := by decide +kernel
theorem at_81 : am_at ay_SK 81 = some (.inr (0, 40, [])) := by decide +kernel
theorem at_82 : am_at ay_SK 82 = some (.inl (6, [some (.ref 83)])) := by decide +kernel
theorem at_83 : am_at ay_SK 83 = some (.inr (0, 40, [])) := by decide +kernel
theorem at_84 : am_at ay_SK 84 = some (.inl (8, [none, none, none, some (.ref 85), some (.ref 87), some (.ref 89)])) := by decide +kernel
theorem at_85 : am_at ay_SK 85 = some (.inl (6, [some (.ref 86)])) := by decide +kernel
theorem at_86 : am_at ay_SK 86 = some (.inr (0, 60, [])) := by decide +kernel
theorem at_87 : am_at ay_SK 87 = some (.inl (6, [some (.ref 88)])) := by decide +kernel
theorem at_88 : am_at ay_SK 88 = some (.inr (0, 60, [])) := by decide +kernel
theorem at_89 : am_at ay_SK 89 = some (.inl (6, [some (.ref 90)])) := by decide +kernel
theorem at_90 : am_at ay_SK 90 = some (.inr (0, 60, [])) := by decide +kernel
theorem at_91 : am_at ay_SK 91 = some (.inl (7, [none, none, none, none, none, some (.ref 92), some (.ref 94), some (.ref 96), some (.ref 98), some (.ref 109), some (.ref 116)])) := by decide +kernel
theorem at_92 : am_at ay_SK 92 = some (.inl (6, [some (.ref 93)])) := by decide +kernel
theorem at_93 : am_at ay_SK 93 = some (.inr (0, 2, [])) := by decide +kernel
theorem at_94 : am_at ay_SK 94 = some (.inl (6, [some (.ref 95)])) := by decide +kernel
theorem at_95 : am_at ay_SK 95 = some (.inr (0, 5, [])) := by decide +kernel
theorem at_96 : am_at ay_SK 96 = some (.inl (6, [some (.ref 97)])) := by decide +kernel
theorem at_97 : am_at ay_SK 97 = some (.inr (0, 5, [])) := by decide +kernel
theorem at_98 : am_at ay_SK 98 = some (.inl (1, [none, some (.ref 99), some (.ref 101), some (.ref 103), some (.ref 105), some (.ref 107)])) := by decide +kernel
theorem at_99 : am_at ay_SK 99 = some (.inl (6, [some (.ref 100)])) := by decide +kernel
theorem at_100 : am_at ay_SK 100 = some (.inr (0, 12, [])) := by decide +kernel
theorem at_101 : am_at ay_SK 101 = some (.inl (6, [some (.ref 102)])) := by decide +kernel
theorem at_102 : am_at ay_SK 102 = some (.inr (0, 12, [])) := by decide +kernel
theorem at_103 : am_at ay_SK 103 = some (.inl (6, [some (.ref 104)])) := by decide +kernel
theorem at_104 : am_at ay_SK 104 = some (.inr (0, 12, [])) := by decide +kernel
theorem at_105 : am_at ay_SK 105 = some (.inl (6, [some (.ref 106)])) := by decide +kernel
theorem at_106 : am_at ay_SK 106 = some (.inr (0, 24, [])) := by decide +kernel
theorem at_107 : am_at ay_SK 107 = some (.inl (6, [some (.ref 108)])) := by decide +kernel
theorem at_108 : am_at ay_SK 108 = some (.inr (0, 24, [])) := by decide +kernel
theorem at_109 : am_at ay_SK 109 = some (.inl (0, [none, some (.ref 110), some (.ref 112), some (.ref 114)])) := by decide +kernel
theorem at_110 : am_at ay_SK 110 = some (.inl (6, [some (.ref 111)])) := by decide +kernel
theorem at_111 : am_at ay_SK 111 = some (.inr (0, 40, [])) := by decide +kernel
theorem at_112 : am_at ay_SK 112 = some (.inl (6, [some (.ref 113)])) := by decide +kernel
theorem at_113 : am_at ay_SK 113 = some (.inr (0, 40, [])) := by decide +kernel
theorem at_114 : am_at ay_SK 114 = some (.inl (6, [some (.ref 115)])) := by decide +kernel
theorem at_115 : am_at ay_SK 115 = some (.inr (0, 40, [])) := by decide +kernel
theorem at_116 : am_at ay_SK 116 = some (.inl (8, [none, none, none, some (.ref 117), some (.ref 119), some (.ref 121)])) := by decide +kernel
theorem at_117 : am_at ay_SK 117 = some (.inl (6, [some (.ref 118)])) := by decide +kernel
theorem at_118 : am_at ay_SK 118 = some (.inr (0, 60, [])) := by decide +kernel
theorem at_119 : am_at ay_SK 119 = some (.inl (6, [some (.ref 120)])) := by decide +kernel
theorem at_120 : am_at ay_SK 120 = some (.inr (0, 60, [])) := by decide +kernel
theorem at_121 : am_at ay_SK 121 = some (.inl (6, [some (.ref 122)])) := by decide +kernel
theorem at_122 : am_at ay_SK 122 = some (.inr (0, 60, [])) := by decide +kernel
theorem at_123 : am_at ay_SK 123 = some (.inl (7, [none, none, none, none, none, some (.ref 124), some (.ref 126), some (.ref 128), some (.ref 130), some (.ref 141), some (.ref 148)])) := by decide +kernel
theorem at_124 : am_at ay_SK 124 = some (.inl (6, [some (.ref 125)])) := by decide +kernel
theorem at_125 : am_at ay_SK 125 = some (.inr (0, 2, [])) := by decide +kernel
theorem at_126 : am_at ay_SK 126 = some (.inl (6, [some (.ref 127)])) := by decide +kernel
theorem at_127 : am_at ay_SK 127 = some (.inr (0, 5, [])) := by decide +kernel
theorem at_128 : am_at ay_SK 128 = some (.inl (6, [some (.ref 129)])) := by decide +kernel
theorem at_129 : am_at ay_SK 129 = some (.inr (0, 5, [])) := by decide +kernel
theorem at_130 : am_at ay_SK 130 = some (.inl (1, [none, some (.ref 131), some (.ref 133), some (.ref 135), some (.ref 137), some (.ref 139)])) := by decide +kernel
theorem at_131 : am_at ay_SK 131 = some (.inl (6, [some (.ref 132)])) := by decide +kernel
theorem at_132 : am_at ay_SK 132 = some (.inr (0, 12, [])) := by decide +kernel
theorem at_133 : am_at ay_SK 133 = some (.inl (6, [some (.ref 134)])) := by decide +kernel
theorem at_134 : am_at ay_SK 134 = some (.inr (0, 12, [])) := by decide +kernel
theorem at_135 : am_at ay_SK 135 = some (.inl (6, [some (.ref 136)])) := by decide +kernel
theorem at_136 : am_at ay_SK 136 = some (.inr (0, 12, [])) := by decide +kernel
theorem at_137 : am_at ay_SK 137 = some (.inl (6, [some (.ref 138)])) := by decide +kernel
theorem at_138 : am_at ay_SK 138 = some (.inr (0, 24, [])) := by decide +kernel
theorem at_139 : am_at ay_SK 139 = some (.inl (6, [some (.ref 140)])) := by decide +kernel
theorem at_140 : am_at ay_SK 140 = some (.inr (0, 24, [])) := by decide +kernel
theorem at_141 : am_at ay_SK 141 = some (.inl (0, [none, some (.ref 142), some (.ref 144), some (.ref 146)])) := by decide +kernel
theorem at_142 : am_at ay_SK 142 = some (.inl (6, [some (.ref 143)])) := by decide +kernel
theorem at_143 : am_at ay_SK 143 = some (.inr (0, 40, [])) := by decide +kernel
theorem at_144 : am_at ay_SK 144 = some (.inl (6, [some (.ref 145)])) := by decide +kernel
theorem at_145 : am_at ay_SK 145 = some (.inr (0, 40, [])) := by decide +kernel
theorem at_146 : am_at ay_SK 146 = some (.inl (6, [some (.ref 147)])) := by decide +kernel
theorem at_147 : am_at ay_SK 147 = some (.inr (0, 40, [])) := by decide +kernel
theorem at_148 : am_at ay_SK 148 = some (.inl (8, [none, none, none, some (.ref 149), some (.ref 151), some (.ref 153)])) := by decide +kernel
theorem at_149 : am_at ay_SK 149 = some (.inl (6, [some (.ref 150)])) := by decide +kernel
theorem at_150 : am_at ay_SK 150 = some (.inr (0, 60, [])) := by decide +kernel
theorem at_151 : am_at ay_SK 151 = some (.inl (6, [some (.ref 152)])) := by decide +kernel
theorem at_152 : am_at ay_SK 152 = some (.inr (0, 60, [])) := by decide +kernel
theorem at_153 : am_at ay_SK 153 = some (.inl (6, [some (.ref 154)])) := by decide +kernel
theorem at_154 : am_at ay_SK 154 = some (.inr (0, 60, [])) := by decide +kernel
theorem at_155 : am_at ay_SK 155 = some (.inl (7, [none, none, none, none, none, some (.ref 156), some (.ref 158), some (.ref 160), some (.ref 162), some (.ref 173), some (.ref 180)])) := by decide +kernel
theorem at_156 : am_at ay_SK 156 = some (.inl (6, [some (.ref 157)])) := by decide +kernel
theorem at_157 : am_at ay_SK 157 = some (.inr (0, 2, [])) := by decide +kernel
theorem at_158 : am_at ay_SK 158 = some (.inl (6, [some (.ref 159)])) := by decide +kernel
theorem at_159 : am_at ay_SK 159 = some (.inr (0, 5, [])) := by decide +kernel
theorem at_160 : am_at ay_SK 160 = some (.inl (6, [some (.ref 161)])) := by decide +kernel
theorem at_161 : am_at ay_SK 161 = some (.inr (0, 5, [])) := by decide +kernel
theorem at_162 : am_at ay_SK 162 = some (.inl (1, [none, some (.ref 163), some (.ref 165), some (.ref 167), some (.ref 169), some (.ref 171)])) := by decide +kernel
theorem at_163 : am_at ay_SK 163 = some (.inl (6, [some (.ref 164)])) := by decide +kernel
theorem at_164 : am_at ay_SK 164 = some (.inr (0, 12, [])) := by decide +kernel
theorem at_165 : am_at ay_SK 165 = some (.inl (6, [some (.ref 166)])) := by decide +kernel
theorem at_166 : am_at ay_SK 166 = some (.inr (0, 12, [])) := by decide +kernel
theorem at_167 : am_at ay_SK 167 = some (.inl (6, [some (.ref 168)])) := by decide +kernel
theorem at_168 : am_at ay_SK 168 = some (.inr (0, 12, [])) := by decide +kernel
theorem at_169 : am_at ay_SK 169 = some (.inl (6, [some (.ref 170)])) := by decide +kernel
theorem at_170 : am_at ay_SK 170 = some (.inr (0, 24, [])) := by decide +kernel
theorem at_171 : am_at ay_SK 171 = some (.inl (6, [some (.ref 172)])) := by decide +kernel
theorem at_172 : am_at ay_SK 172 = some (.inr (0, 24, [])) := by decide +kernel
theorem at_173 : am_at ay_SK 173 = some (.inl (0, [none, some (.ref 174), some (.ref 176), some (.ref 178)])) := by decide +kernel
theorem at_174 : am_at ay_SK 174 = some (.inl (6, [some (.ref 175)])) := by decide +kernel
theorem at_175 : am_at ay_SK 175 = some (.inr (0, 40, [])) := by decide +kernel
theorem at_176 : am_at ay_SK 176 = some (.inl (6, [some (.ref 177)])) := by decide +kernel
theorem at_177 : am_at ay_SK 177 = some (.inr (0, 40, [])) := by decide +kernel
theorem at_178 : am_at ay_SK 178 = some (.inl (6, [some (.ref 179)])) := by decide +kernel
theorem at_179 : am_at ay_SK 179 = some (.inr (0, 40, [])) := by decide +kernel
theorem at_180 : am_at ay_SK 180 = some (.inl (8, [none, none, none, some (.ref 181), some (.ref 183), some (.ref 185)])) := by decide +kernel
theorem at_181 : am_at ay_SK 181 = some (.inl (6, [some (.ref 182)])) := by decide +kernel
theorem at_182 : am_at ay_SK 182 = some (.inr (0, 60, [])) := by decide +kernel
theorem at_183 : am_at ay_SK 183 = some (.inl (6, [some (.ref 184)])) := by decide +kernel
theorem at_184 : am_at ay_SK 184 = some (.inr (0, 60, [])) := by decide +kernel
theorem at_185 : am_at ay_SK 185 = some (.inl (6, [some (.ref 186)])) := by decide +kernel
theorem at_186 : am_at ay_SK 186 = some (.inr (0, 60, [])) := by decide +kernel
theorem at_187 : am_at ay_SK 187 = some (.inl (7, [none, none, none, none, none, some (.ref 188), some (.ref 190), some (.ref 192), some (.ref 194), some (.ref 205), some (.ref 212)])) := by decide +kernel
theorem at_188 : am_at ay_SK 188 = some (.inl (6, [some (.ref 189)])) := by decide +kernel
theorem at_189 : am_at ay_SK 189 = some (.inr (0, 2, [])) := by decide +kernel
theorem at_190 : am_at ay_SK 190 = some (.inl (6, [some (.ref 191)])) := by decide +kernel
theorem at_191 : am_at ay_SK 191 = some (.inr (0, 5, [])) := by decide +kernel
theorem at_192 : am_at ay_SK 192 = some (.inl (6, [some (.ref 193)])) := by decide +kernel
theorem at_193 : am_at ay_SK 193 = some (.inr (0, 5, [])) := by decide +kernel
theorem at_194 : am_at ay_SK 194 = some (.inl (1, [none, some (.ref 195), some (.ref 197), some (.ref 199), some (.ref 201), some (.ref 203)])) := by decide +kernel
theorem at_195 : am_at ay_SK 195 = some (.inl (6, [some (.ref 196)])) := by decide +kernel
theorem at_196 : am_at ay_SK 196 = some (.inr (0, 12, [])) := by decide +kernel
theorem at_197 : am_at ay_SK 197 = some (.inl (6, [some (.ref 198)])) := by decide +kernel
theorem at_198 : am_at ay_SK 198 = some (.inr (0, 12, [])) := by decide +kernel
theorem at_199 : am_at ay_SK 199 = some (.inl (6, [some (.ref 200)])) := by decide +kernel
theorem at_200 : am_at ay_SK 200 = some (.inr (0, 12, [])) := by decide +kernel
theorem at_201 : am_at ay_SK 201 = some (.inl (6, [some (.ref 202)])) := by decide +kernel
theorem at_202 : am_at ay_SK 202 = some (.inr (0, 24, [])) := by decide +kernel
theorem at_203 : am_at ay_SK 203 = some (.inl (6, [some (.ref 204)])) := by decide +kernel
theorem at_204 : am_at ay_SK 204 = some (.inr (0, 24, [])) := by decide +kernel
theorem at_205 : am_at ay_SK 205 = some (.inl (0, [none, some (.ref 206), some (.ref 208), some (.ref 210)])) := by decide +kernel
theorem at_206 : am_at ay_SK 206 = some (.inl (6, [some (.ref 207)])) := by decide +kernel
theorem at_207 : am_at ay_SK 207 = some (.inr (0, 40, [])) := by decide +kernel
theorem at_208 : am_at ay_SK 208 = some (.inl (6, [some (.ref 209)])) := by decide +kernel
theorem at_209 : am_at ay_SK 209 = some (.inr (0, 40, [])) := by decide +kernel
theorem at_210 : am_at ay_SK 210 = some (.inl (6, [some (.ref 211)])) := by decide +kernel
theorem at_211 : am_at ay_SK 211 = some (.inr (0, 40, [])) := by decide +kernel
theorem at_212 : am_at ay_SK 212 = some (.inl (8, [none, none, none, some (.ref 213), some (.ref 215), some (.ref 217)])) := by decide +kernel
theorem at_213 : am_at ay_SK 213 = some (.inl (6, [some (.ref 214)])) := by decide +kernel
theorem at_214 : am_at ay_SK 214 = some (.inr (0, 60, [])) := by decide +kernel
theorem at_215 : am_at ay_SK 215 = some (.inl (6, [some (.ref 216)])) := by decide +kernel
theorem at_216 : am_at ay_SK 216 = some (.inr (0, 60, [])) := by decide +kernel
theorem at_217 : am_at ay_SK 217 = some (.inl (6, [some (.ref 218)])) := by decide +kernel
theorem at_218 : am_at ay_SK 218 = some (.inr (0, 60, [])) := by decide +kernel
theorem at_219 : am_at ay_SK 219 = some (.inl (7, [none, none, none, none, none, some (.ref 220), some (.ref 222), some (.ref 224), some (.ref 226), some (.ref 237), some (.ref 244)])) := by decide +kernel
theorem at_220 : am_at ay_SK 220 = some (.inl (6, [some (.ref 221)])) := by decide +kernel
theorem at_221 : am_at ay_SK 221 = some (.inr (0, 2, [])) := by decide +kernel
theorem at_222 : am_at ay_SK 222 = some (.inl (6, [some (.ref 223)])) := by decide +kernel
theorem at_223 : am_at ay_SK 223 = some (.inr (0, 5, [])) := by decide +kernel
theorem at_224 : am_at ay_SK 224 = some (.inl (6, [some (.ref 225)])) := by decide +kernel
theorem at_225 : am_at ay_SK 225 = some (.inr (0, 5, [])) := by decide +kernel
theorem at_226 : am_at ay_SK 226 = some (.inl (1, [none, some (.ref 227), some (.ref 229), some (.ref 231), some (.ref 233), some (.ref 235)])) := by decide +kernel
theorem at_227 : am_at ay_SK 227 = some (.inl (6, [some (.ref 228)])) := by decide +kernel
theorem at_228 : am_at ay_SK 228 = some (.inr (0, 12, [])) := by decide +kernel
theorem at_229 : am_at ay_SK 229 = some (.inl (6, [some (.ref 230)])) := by decide +kernel
theorem at_230 : am_at ay_SK 230 = some (.inr (0, 12, [])) := by decide +kernel
theorem at_231 : am_at ay_SK 231 = some (.inl (6, [some (.ref 232)])) := by decide +kernel
theorem at_232 : am_at ay_SK 232 = some (.inr (0, 12, [])) := by decide +kernel
theorem at_233 : am_at ay_SK 233 = some (.inl (6, [some (.ref 234)])) := by decide +kernel
theorem at_234 : am_at ay_SK 234 = some (.inr (0, 24, [])) := by decide +kernel
theorem at_235 : am_at ay_SK 235 = some (.inl (6, [some (.ref 236)])) := by decide +kernel
theorem at_236 : am_at ay_SK 236 = some (.inr (0, 24, [])) := by decide +kernel
theorem at_237 : am_at ay_SK 237 = some (.inl (0, [none, some (.ref 238), some (.ref 240), some (.ref 242)])) := by decide +kernel
theorem at_238 : am_at ay_SK 238 = some (.inl (6, [some (.ref 239)])) := by decide +kernel
theorem at_239 : am_at ay_SK 239 = some (.inr (0, 40, [])) := by decide +kernel
theorem at_240 : am_at ay_SK 240 = some (.inl (6, [some (.ref 241)])) := by decide +kernel
theorem at_241 : am_at ay_SK 241 = some (.inr (0, 40, [])) := by decide +kernel
theorem at_242 : am_at ay_SK 242 = some (.inl (6, [some (.ref 243)])) := by decide +kernel
theorem at_243 : am_at ay_SK 243 = some (.inr (0, 40, [])) := by decide +kernel
theorem at_244 : am_at ay_SK 244 = some (.inl (8, [none, none, none, some (.ref 245), some (.ref 247), some (.ref 249)])) := by decide +kernel
theorem at_245 : am_at ay_SK 245 = some (.inl (6, [some (.ref 246)])) := by decide +kernel
theorem at_246 : am_at ay_SK 246 = some (.inr (0, 60, [])) := by decide +kernel
theorem at_247 : am_at ay_SK 247 = some (.inl (6, [some (.ref 248)])) := by decide +kernel
theorem at_248 : am_at ay_SK 248 = some (.inr (0, 60, [])) := by decide +kernel
theorem at_249 : am_at ay_SK 249 = some (.inl (6, [some (.ref 250)])) := by decide +kernel
theorem at_250 : am_at ay_SK 250 = some (.inr (0, 60, [])) := by decide +kernel
theorem at_251 : am_at ay_SK 251 = some (.inl (6, [some (.ref 252)])) := by decide +kernel
theorem at_252 : am_at ay_SK 252 = some (.inr (0, 6, [])) := by decide +kernel
theorem at_253 : am_at ay_SK 253 = some (.inl (9, [some (.ref 254), some (.ref 319)])) := by decide +kernel
theorem at_254 : am_at ay_SK 254 = some (.inr (3, 2, [some 255, some 287])) := by decide +kernel
theorem at_255 : am_at ay_SK 255 = some (.inl (7, [none, none, none, none, none, some (.ref 256), some (.ref 258), some (.ref 260), some (.ref 262), some (.ref 273), some (.ref 280)])) := by decide +kernel
theorem at_256 : am_at ay_SK 256 = some (.inl (6, [some (.ref 257)])) := by decide +kernel
theorem at_257 : am_at ay_SK 257 = some (.inr (0, 2, [])) := by decide +kernel
theorem at_258 : am_at ay_SK 258 = some (.inl (6, [some (.ref 259)])) := by decide +kernel
theorem at_259 : am_at ay_SK 259 = some (.inr (0, 5, [])) := by decide +kernel
theorem at_260 : am_at ay_SK 260 = some (.inl (6, [some (.ref 261)])) := by decide +kernel
theorem at_261 : am_at ay_SK 261 = some (.inr (0, 5, [])) := by decide +kernel
theorem at_262 : am_at ay_SK 262 = some (.inl (1, [none, some (.ref 263), some (.ref 265), some (.ref 267), some (.ref 269), some (.ref 271)])) := by decide +kernel
theorem at_263 : am_at ay_SK 263 = some (.inl (6, [some (.ref 264)])) := by decide +kernel
theorem at_264 : am_at ay_SK 264 = some (.inr (0, 12, [])) := by decide +kernel
theorem at_265 : am_at ay_SK 265 = some (.inl (6, [some (.ref 266)])) := by decide +kernel
theorem at_266 : am_at ay_SK 266 = some (.inr (0, 12, [])) := by decide +kernel
theorem at_267 : am_at ay_SK 267 = some (.inl (6, [some (.ref 268)])) := by decide +kernel
theorem at_268 : am_at ay_SK 268 = some (.inr (0, 12, [])) := by decide +kernel
theorem at_269 : am_at ay_SK 269 = some (.inl (6, [some (.ref 270)])) := by decide +kernel
theorem at_270 : am_at ay_SK 270 = some (.inr (0, 24, [])) := by decide +kernel
theorem at_271 : am_at ay_SK 271 = some (.inl (6, [some (.ref 272)])) := by decide +kernel
theorem at_272 : am_at ay_SK 272 = some (.inr (0, 24, [])) := by decide +kernel
theorem at_273 : am_at ay_SK 273 = some (.inl (0, [none, some (.ref 274), some (.ref 276), some (.ref 278)])) := by decide +kernel
theorem at_274 : am_at ay_SK 274 = some (.inl (6, [some (.ref 275)])) := by decide +kernel
theorem at_275 : am_at ay_SK 275 = some (.inr (0, 40, [])) := by decide +kernel
theorem at_276 : am_at ay_SK 276 = some (.inl (6, [some (.ref 277)])) := by decide +kernel
theorem at_277 : am_at ay_SK 277 = some (.inr (0, 40, [])) := by decide +kernel
theorem at_278 : am_at ay_SK 278 = some (.inl (6, [some (.ref 279)])) := by decide +kernel
theorem at_279 : am_at ay_SK 279 = some (.inr (0, 40, [])) := by decide +kernel
theorem at_280 : am_at ay_SK 280 = some (.inl (8, [none, none, none, some (.ref 281), some (.ref 283), some (.ref 285)])) := by decide +kernel
theorem at_281 : am_at ay_SK 281 = some (.inl (6, [some (.ref 282)])) := by decide +kernel
theorem at_282 : am_at ay_SK 282 = some (.inr (0, 60, [])) := by decide +kernel
theorem at_283 : am_at ay_SK 283 = some (.inl (6, [some (.ref 284)])) := by decide +kernel
theorem at_284 : am_at ay_SK 284 = some (.inr (0, 60, [])) := by decide +kernel
theorem at_285 : am_at ay_SK 285 = some (.inl (6, [some (.ref 286)])) := by decide +kernel
theorem at_286 : am_at ay_SK 286 = some (.inr (0, 60, [])) := by decide +kernel
theorem at_287 : am_at ay_SK 287 = some (.inl (7, [none, none, none, none, none, some (.ref 288), some (.ref 290), some (.ref 292), some (.ref 294), some (.ref 305), some (.ref 312)])) := by decide +kernel
theorem at_288 : am_at ay_SK 288 = some (.inl (6, [some (.ref 289)])) := by decide +kernel
theorem at_289 : am_at ay_SK 289 = some (.inr (0, 2, [])) := by decide +kernel
theorem at_290 : am_at ay_SK 290 = some (.inl (6, [some (.ref 291)])) := by decide +kernel
theorem at_291 : am_at ay_SK 291 = some (.inr (0, 5, [])) := by decide +kernel
theorem at_292 : am_at ay_SK 292 = some (.inl (6, [some (.ref 293)])) := by decide +kernel
theorem at_293 : am_at ay_SK 293 = some (.inr (0, 5, [])) := by decide +kernel
theorem at_294 : am_at ay_SK 294 = some (.inl (1, [none, some (.ref 295), some (.ref 297), some (.ref 299), some (.ref 301), some (.ref 303)])) := by decide +kernel
theorem at_295 : am_at ay_SK 295 = some (.inl (6, [some (.ref 296)])) := by decide +kernel
theorem at_296 : am_at ay_SK 296 = some (.inr (0, 12, [])) := by decide +kernel
theorem at_297 : am_at ay_SK 297 = some (.inl (6, [some (.ref 298)])) := by decide +kernel
theorem at_298 : am_at ay_SK 298 = some (.inr (0, 12, [])) := by decide +kernel
theorem at_299 : am_at ay_SK 299 = some (.inl (6, [some (.ref 300)])) := by decide +kernel
theorem at_300 : am_at ay_SK 300 = some (.inr (0, 12, [])) := by decide +kernel
theorem at_301 : am_at ay_SK 301 = some (.inl (6, [some (.ref 302)])) := by decide +kernel
theorem at_302 : am_at ay_SK 302 = some (.inr (0, 24, [])) := by decide +kernel
theorem at_303 : am_at ay_SK 303 = some (.inl (6, [some (.ref 304)])) := by decide +kernel
theorem at_304 : am_at ay_SK 304 = some (.inr (0, 24, [])) := by decide +kernel
theorem at_305 : am_at ay_SK 305 = some (.inl (0, [none, some (.ref 306), some (.ref 308), some (.ref 310)])) := by decide +kernel
theorem at_306 : am_at ay_SK 306 = some (.inl (6, [some (.ref 307)])) := by decide +kernel
theorem at_307 : am_at ay_SK 307 = some (.inr (0, 40, [])) := by decide +kernel
theorem at_308 : am_at ay_SK 308 = some (.inl (6, [some (.ref 309)])) := by decide +kernel
theorem at_309 : am_at ay_SK 309 = some (.inr (0, 40, [])) := by decide +kernel
theorem at_310 : am_at ay_SK 310 = some (.inl (6, [some (.ref 311)])) := by decide +kernel
theorem at_311 : am_at ay_SK 311 = some (.inr (0, 40, [])) := by decide +kernel
theorem at_312 : am_at ay_SK 312 = some (.inl (8, [none, none, none, some (.ref 313), some (.ref 315), some (.ref 317)])) := by decide +kernel
theorem at_313 : am_at ay_SK 313 = some (.inl (6, [some (.ref 314)])) := by decide +kernel
theorem at_314 : am_at ay_SK 314 = some (.inr (0, 60, [])) := by decide +kernel
theorem at_315 : am_at ay_SK 315 = some (.inl (6, [some (.ref 316)])) := by decide +kernel
theorem at_316 : am_at ay_SK 316 = some (.inr (0, 60, [])) := by decide +kernel
theorem at_317 : am_at ay_SK 317 = some (.inl (6, [some (.ref 318)])) := by decide +kernel
theorem at_318 : am_at ay_SK 318 = some (.inr (0, 60, [])) := by decide +kernel
theorem at_319 : am_at ay_SK 319 = some (.inl (6, [some (.ref 320)])) := by decide +kernel
theorem at_320 : am_at ay_SK 320 = some (.inr (0, 2, [])) := by decide +kernel
