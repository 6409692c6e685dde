/-! the code tables' rows and the skeleton's, by name -/
theorem fe_4_0 : am_fetch 4 0 = some (.iload_n 1, 1, 1, 0, 0) := by decide +kernel
theorem fe_4_1 : am_fetch 4 1 = some (.ifCond .lt 19, 3, 2, 20, 0) := by decide +kernel
theorem fe_4_4 : am_fetch 4 4 = some (.iload_n 1, 1, 1, 0, 0) := by decide +kernel
theorem fe_4_5 : am_fetch 4 5 = some (.aload_n 0, 1, 1, 0, 0) := by decide +kernel
theorem fe_4_6 : am_fetch 4 6 = some (.getfield 13, 3, 3, 6, 0) := by decide +kernel
theorem fe_4_9 : am_fetch 4 9 = some (.arraylength, 1, 3, 0, 0) := by decide +kernel
theorem fe_4_10 : am_fetch 4 10 = some (.if_icmp .ge 10, 3, 2, 20, 0) := by decide +kernel
theorem fe_4_13 : am_fetch 4 13 = some (.aload_n 0, 1, 1, 0, 0) := by decide +kernel
theorem fe_4_14 : am_fetch 4 14 = some (.getfield 13, 3, 3, 6, 0) := by decide +kernel
theorem fe_4_17 : am_fetch 4 17 = some (.iload_n 1, 1, 1, 0, 0) := by decide +kernel
theorem fe_4_18 : am_fetch 4 18 = some (.iload_n 2, 1, 1, 0, 0) := by decide +kernel
theorem fe_4_19 : am_fetch 4 19 = some (.iastore, 1, 4, 0, 0) := by decide +kernel
theorem fe_4_20 : am_fetch 4 20 = some (.return_, 1, 8, 0, 0) := by decide +kernel
theorem fe_13_0 : am_fetch 13 0 = some (.iload_n 0, 1, 1, 0, 0) := by decide +kernel
theorem fe_13_1 : am_fetch 13 1 = some (.ifCond .lt 13, 3, 2, 14, 0) := by decide +kernel
theorem fe_13_4 : am_fetch 13 4 = some (.iload_n 0, 1, 1, 0, 0) := by decide +kernel
theorem fe_13_5 : am_fetch 13 5 = some (.bipush 31, 2, 0, 0, 0) := by decide +kernel
theorem fe_13_7 : am_fetch 13 7 = some (.if_icmp .ge 7, 3, 2, 14, 0) := by decide +kernel
theorem fe_13_10 : am_fetch 13 10 = some (.iconst 1, 1, 0, 0, 0) := by decide +kernel
theorem fe_13_11 : am_fetch 13 11 = some (.goto 4, 3, 2, 15, 0) := by decide +kernel
theorem fe_13_14 : am_fetch 13 14 = some (.iconst 0, 1, 0, 0, 0) := by decide +kernel
theorem fe_13_15 : am_fetch 13 15 = some (.ireturn, 1, 8, 0, 0) := by decide +kernel
theorem fe_14_0 : am_fetch 14 0 = some (.aload_n 0, 1, 1, 0, 0) := by decide +kernel
theorem fe_14_1 : am_fetch 14 1 = some (.getfield 32, 3, 3, 1, 0) := by decide +kernel
theorem fe_14_4 : am_fetch 14 4 = some (.bipush 12, 2, 0, 0, 0) := by decide +kernel
theorem fe_14_6 : am_fetch 14 6 = some (.if_icmp .ge 7, 3, 2, 13, 0) := by decide +kernel
theorem fe_14_9 : am_fetch 14 9 = some (.iconst 1, 1, 0, 0, 0) := by decide +kernel
theorem fe_14_10 : am_fetch 14 10 = some (.goto 4, 3, 2, 14, 0) := by decide +kernel
theorem fe_14_13 : am_fetch 14 13 = some (.iconst 0, 1, 0, 0, 0) := by decide +kernel
theorem fe_14_14 : am_fetch 14 14 = some (.ireturn, 1, 8, 0, 0) := by decide +kernel
theorem fe_15_0 : am_fetch 15 0 = some (.aload_n 0, 1, 1, 0, 0) := by decide +kernel
theorem fe_15_1 : am_fetch 15 1 = some (.getfield 24, 3, 3, 2, 1) := by decide +kernel
theorem fe_15_4 : am_fetch 15 4 = some (.iload_n 1, 1, 1, 0, 0) := by decide +kernel
theorem fe_15_5 : am_fetch 15 5 = some (.iadd, 1, 0, 0, 0) := by decide +kernel
theorem fe_15_6 : am_fetch 15 6 = some (.bipush 6, 2, 0, 0, 0) := by decide +kernel
theorem fe_15_8 : am_fetch 15 8 = some (.irem, 1, 0, 0, 0) := by decide +kernel
theorem fe_15_9 : am_fetch 15 9 = some (.ireturn, 1, 8, 0, 0) := by decide +kernel
theorem fe_16_0 : am_fetch 16 0 = some (.aload_n 1, 1, 1, 0, 0) := by decide +kernel
theorem fe_16_1 : am_fetch 16 1 = some (.getfield 13, 3, 3, 6, 0) := by decide +kernel
theorem fe_16_4 : am_fetch 16 4 = some (.iconst 0, 1, 0, 0, 0) := by decide +kernel
theorem fe_16_5 : am_fetch 16 5 = some (.aload_n 0, 1, 1, 0, 0) := by decide +kernel
theorem fe_16_6 : am_fetch 16 6 = some (.getfield 13, 3, 3, 6, 0) := by decide +kernel
theorem fe_16_9 : am_fetch 16 9 = some (.iconst 0, 1, 0, 0, 0) := by decide +kernel
theorem fe_16_10 : am_fetch 16 10 = some (.aload_n 1, 1, 1, 0, 0) := by decide +kernel
theorem fe_16_11 : am_fetch 16 11 = some (.getfield 13, 3, 3, 6, 0) := by decide +kernel
theorem fe_16_14 : am_fetch 16 14 = some (.arraylength, 1, 3, 0, 0) := by decide +kernel
theorem fe_16_15 : am_fetch 16 15 = some (.aload_n 0, 1, 1, 0, 0) := by decide +kernel
theorem fe_16_16 : am_fetch 16 16 = some (.getfield 13, 3, 3, 6, 0) := by decide +kernel
theorem fe_16_19 : am_fetch 16 19 = some (.arraylength, 1, 3, 0, 0) := by decide +kernel
theorem fe_16_20 : am_fetch 16 20 = some (.invokestatic 27, 3, 6, 3, 0) := by decide +kernel
theorem fe_16_23 : am_fetch 16 23 = some (.invokestatic 30, 3, 6, 4, 0) := by decide +kernel
theorem fe_16_26 : am_fetch 16 26 = some (.return_, 1, 8, 0, 0) := by decide +kernel
theorem fe_17_0 : am_fetch 17 0 = some (.aload_n 0, 1, 1, 0, 0) := by decide +kernel
theorem fe_17_1 : am_fetch 17 1 = some (.aload_n 1, 1, 1, 0, 0) := by decide +kernel
theorem fe_17_2 : am_fetch 17 2 = some (.getfield 32, 3, 3, 1, 0) := by decide +kernel
theorem fe_17_5 : am_fetch 17 5 = some (.putfield 32, 3, 4, 1, 0) := by decide +kernel
theorem fe_17_8 : am_fetch 17 8 = some (.aload_n 0, 1, 1, 0, 0) := by decide +kernel
theorem fe_17_9 : am_fetch 17 9 = some (.getfield 14, 3, 3, 1, 1) := by decide +kernel
theorem fe_17_12 : am_fetch 17 12 = some (.aload_n 1, 1, 1, 0, 0) := by decide +kernel
theorem fe_17_13 : am_fetch 17 13 = some (.getfield 14, 3, 3, 1, 1) := by decide +kernel
theorem fe_17_16 : am_fetch 17 16 = some (.invokevirtual 36, 3, 7, 16, 0) := by decide +kernel
theorem fe_17_19 : am_fetch 17 19 = some (.aload_n 0, 1, 1, 0, 0) := by decide +kernel
theorem fe_17_20 : am_fetch 17 20 = some (.getfield 20, 3, 3, 1, 2) := by decide +kernel
theorem fe_17_23 : am_fetch 17 23 = some (.aload_n 1, 1, 1, 0, 0) := by decide +kernel
theorem fe_17_24 : am_fetch 17 24 = some (.getfield 20, 3, 3, 1, 2) := by decide +kernel
theorem fe_17_27 : am_fetch 17 27 = some (.invokevirtual 36, 3, 7, 16, 0) := by decide +kernel
theorem fe_17_30 : am_fetch 17 30 = some (.aload_n 0, 1, 1, 0, 0) := by decide +kernel
theorem fe_17_31 : am_fetch 17 31 = some (.getfield 23, 3, 3, 1, 3) := by decide +kernel
theorem fe_17_34 : am_fetch 17 34 = some (.aload_n 1, 1, 1, 0, 0) := by decide +kernel
theorem fe_17_35 : am_fetch 17 35 = some (.getfield 23, 3, 3, 1, 3) := by decide +kernel
theorem fe_17_38 : am_fetch 17 38 = some (.invokevirtual 36, 3, 7, 16, 0) := by decide +kernel
theorem fe_17_41 : am_fetch 17 41 = some (.aload_n 0, 1, 1, 0, 0) := by decide +kernel
theorem fe_17_42 : am_fetch 17 42 = some (.getfield 26, 3, 3, 1, 4) := by decide +kernel
theorem fe_17_45 : am_fetch 17 45 = some (.aload_n 1, 1, 1, 0, 0) := by decide +kernel
theorem fe_17_46 : am_fetch 17 46 = some (.getfield 26, 3, 3, 1, 4) := by decide +kernel
theorem fe_17_49 : am_fetch 17 49 = some (.invokevirtual 36, 3, 7, 16, 0) := by decide +kernel
theorem fe_17_52 : am_fetch 17 52 = some (.aload_n 0, 1, 1, 0, 0) := by decide +kernel
theorem fe_17_53 : am_fetch 17 53 = some (.getfield 29, 3, 3, 1, 5) := by decide +kernel
theorem fe_17_56 : am_fetch 17 56 = some (.aload_n 1, 1, 1, 0, 0) := by decide +kernel
theorem fe_17_57 : am_fetch 17 57 = some (.getfield 29, 3, 3, 1, 5) := by decide +kernel
theorem fe_17_60 : am_fetch 17 60 = some (.invokevirtual 36, 3, 7, 16, 0) := by decide +kernel
theorem fe_17_63 : am_fetch 17 63 = some (.return_, 1, 8, 0, 0) := by decide +kernel
theorem fe_18_0 : am_fetch 18 0 = some (.aload_n 0, 1, 1, 0, 0) := by decide +kernel
theorem fe_18_1 : am_fetch 18 1 = some (.aload_n 1, 1, 1, 0, 0) := by decide +kernel
theorem fe_18_2 : am_fetch 18 2 = some (.getfield 26, 3, 3, 0, 0) := by decide +kernel
theorem fe_18_5 : am_fetch 18 5 = some (.putfield 26, 3, 4, 0, 0) := by decide +kernel
theorem fe_18_8 : am_fetch 18 8 = some (.aload_n 0, 1, 1, 0, 0) := by decide +kernel
theorem fe_18_9 : am_fetch 18 9 = some (.getfield 14, 3, 3, 0, 1) := by decide +kernel
theorem fe_18_12 : am_fetch 18 12 = some (.aload_n 1, 1, 1, 0, 0) := by decide +kernel
theorem fe_18_13 : am_fetch 18 13 = some (.getfield 14, 3, 3, 0, 1) := by decide +kernel
theorem fe_18_16 : am_fetch 18 16 = some (.invokevirtual 30, 3, 7, 16, 0) := by decide +kernel
theorem fe_18_19 : am_fetch 18 19 = some (.aload_n 0, 1, 1, 0, 0) := by decide +kernel
theorem fe_18_20 : am_fetch 18 20 = some (.getfield 20, 3, 3, 0, 2) := by decide +kernel
theorem fe_18_23 : am_fetch 18 23 = some (.aload_n 1, 1, 1, 0, 0) := by decide +kernel
theorem fe_18_24 : am_fetch 18 24 = some (.getfield 20, 3, 3, 0, 2) := by decide +kernel
theorem fe_18_27 : am_fetch 18 27 = some (.invokevirtual 30, 3, 7, 16, 0) := by decide +kernel
theorem fe_18_30 : am_fetch 18 30 = some (.aload_n 0, 1, 1, 0, 0) := by decide +kernel
theorem fe_18_31 : am_fetch 18 31 = some (.getfield 23, 3, 3, 0, 3) := by decide +kernel
theorem fe_18_34 : am_fetch 18 34 = some (.aload_n 1, 1, 1, 0, 0) := by decide +kernel
theorem fe_18_35 : am_fetch 18 35 = some (.getfield 23, 3, 3, 0, 3) := by decide +kernel
theorem fe_18_38 : am_fetch 18 38 = some (.invokevirtual 30, 3, 7, 16, 0) := by decide +kernel
theorem fe_18_41 : am_fetch 18 41 = some (.return_, 1, 8, 0, 0) := by decide +kernel
theorem fe_19_0 : am_fetch 19 0 = some (.aload_n 0, 1, 1, 0, 0) := by decide +kernel
theorem fe_19_1 : am_fetch 19 1 = some (.aload_n 1, 1, 1, 0, 0) := by decide +kernel
theorem fe_19_2 : am_fetch 19 2 = some (.getfield 26, 3, 3, 8, 0) := by decide +kernel
theorem fe_19_5 : am_fetch 19 5 = some (.putfield 26, 3, 4, 8, 0) := by decide +kernel
theorem fe_19_8 : am_fetch 19 8 = some (.aload_n 0, 1, 1, 0, 0) := by decide +kernel
theorem fe_19_9 : am_fetch 19 9 = some (.aload_n 1, 1, 1, 0, 0) := by decide +kernel
theorem fe_19_10 : am_fetch 19 10 = some (.getfield 30, 3, 3, 8, 1) := by decide +kernel
theorem fe_19_13 : am_fetch 19 13 = some (.putfield 30, 3, 4, 8, 1) := by decide +kernel
theorem fe_19_16 : am_fetch 19 16 = some (.aload_n 0, 1, 1, 0, 0) := by decide +kernel
theorem fe_19_17 : am_fetch 19 17 = some (.aload_n 1, 1, 1, 0, 0) := by decide +kernel
theorem fe_19_18 : am_fetch 19 18 = some (.getfield 33, 3, 3, 8, 2) := by decide +kernel
theorem fe_19_21 : am_fetch 19 21 = some (.putfield 33, 3, 4, 8, 2) := by decide +kernel
theorem fe_19_24 : am_fetch 19 24 = some (.aload_n 0, 1, 1, 0, 0) := by decide +kernel
theorem fe_19_25 : am_fetch 19 25 = some (.getfield 14, 3, 3, 8, 3) := by decide +kernel
theorem fe_19_28 : am_fetch 19 28 = some (.aload_n 1, 1, 1, 0, 0) := by decide +kernel
theorem fe_19_29 : am_fetch 19 29 = some (.getfield 14, 3, 3, 8, 3) := by decide +kernel
theorem fe_19_32 : am_fetch 19 32 = some (.invokevirtual 36, 3, 7, 16, 0) := by decide +kernel
theorem fe_19_35 : am_fetch 19 35 = some (.aload_n 0, 1, 1, 0, 0) := by decide +kernel
theorem fe_19_36 : am_fetch 19 36 = some (.getfield 20, 3, 3, 8, 4) := by decide +kernel
theorem fe_19_39 : am_fetch 19 39 = some (.aload_n 1, 1, 1, 0, 0) := by decide +kernel
theorem fe_19_40 : am_fetch 19 40 = some (.getfield 20, 3, 3, 8, 4) := by decide +kernel
theorem fe_19_43 : am_fetch 19 43 = some (.invokevirtual 36, 3, 7, 16, 0) := by decide +kernel
theorem fe_19_46 : am_fetch 19 46 = some (.aload_n 0, 1, 1, 0, 0) := by decide +kernel
theorem fe_19_47 : am_fetch 19 47 = some (.getfield 23, 3, 3, 8, 5) := by decide +kernel
theorem fe_19_50 : am_fetch 19 50 = some (.aload_n 1, 1, 1, 0, 0) := by decide +kernel
theorem fe_19_51 : am_fetch 19 51 = some (.getfield 23, 3, 3, 8, 5) := by decide +kernel
theorem fe_19_54 : am_fetch 19 54 = some (.invokevirtual 36, 3, 7, 16, 0) := by decide +kernel
theorem fe_19_57 : am_fetch 19 57 = some (.return_, 1, 8, 0, 0) := by decide +kernel
theorem fe_20_0 : am_fetch 20 0 = some (.aload_n 0, 1, 1, 0, 0) := by decide +kernel
theorem fe_20_1 : am_fetch 20 1 = some (.aload_n 1, 1, 1, 0, 0) := by decide +kernel
theorem fe_20_2 : am_fetch 20 2 = some (.getfield 55, 3, 3, 7, 0) := by decide +kernel
theorem fe_20_5 : am_fetch 20 5 = some (.putfield 55, 3, 4, 7, 0) := by decide +kernel
theorem fe_20_8 : am_fetch 20 8 = some (.aload_n 0, 1, 1, 0, 0) := by decide +kernel
theorem fe_20_9 : am_fetch 20 9 = some (.aload_n 1, 1, 1, 0, 0) := by decide +kernel
theorem fe_20_10 : am_fetch 20 10 = some (.getfield 9, 3, 3, 7, 1) := by decide +kernel
theorem fe_20_13 : am_fetch 20 13 = some (.putfield 9, 3, 4, 7, 1) := by decide +kernel
theorem fe_20_16 : am_fetch 20 16 = some (.aload_n 0, 1, 1, 0, 0) := by decide +kernel
theorem fe_20_17 : am_fetch 20 17 = some (.aload_n 1, 1, 1, 0, 0) := by decide +kernel
theorem fe_20_18 : am_fetch 20 18 = some (.getfield 58, 3, 3, 7, 2) := by decide +kernel
theorem fe_20_21 : am_fetch 20 21 = some (.putfield 58, 3, 4, 7, 2) := by decide +kernel
theorem fe_20_24 : am_fetch 20 24 = some (.aload_n 0, 1, 1, 0, 0) := by decide +kernel
theorem fe_20_25 : am_fetch 20 25 = some (.aload_n 1, 1, 1, 0, 0) := by decide +kernel
theorem fe_20_26 : am_fetch 20 26 = some (.getfield 61, 3, 3, 7, 3) := by decide +kernel
theorem fe_20_29 : am_fetch 20 29 = some (.putfield 61, 3, 4, 7, 3) := by decide +kernel
theorem fe_20_32 : am_fetch 20 32 = some (.aload_n 0, 1, 1, 0, 0) := by decide +kernel
theorem fe_20_33 : am_fetch 20 33 = some (.aload_n 1, 1, 1, 0, 0) := by decide +kernel
theorem fe_20_34 : am_fetch 20 34 = some (.getfield 64, 3, 3, 7, 4) := by decide +kernel
theorem fe_20_37 : am_fetch 20 37 = some (.putfield 64, 3, 4, 7, 4) := by decide +kernel
theorem fe_20_40 : am_fetch 20 40 = some (.aload_n 0, 1, 1, 0, 0) := by decide +kernel
theorem fe_20_41 : am_fetch 20 41 = some (.getfield 20, 3, 3, 7, 5) := by decide +kernel
theorem fe_20_44 : am_fetch 20 44 = some (.aload_n 1, 1, 1, 0, 0) := by decide +kernel
theorem fe_20_45 : am_fetch 20 45 = some (.getfield 20, 3, 3, 7, 5) := by decide +kernel
theorem fe_20_48 : am_fetch 20 48 = some (.invokevirtual 67, 3, 7, 16, 0) := by decide +kernel
theorem fe_20_51 : am_fetch 20 51 = some (.aload_n 0, 1, 1, 0, 0) := by decide +kernel
theorem fe_20_52 : am_fetch 20 52 = some (.getfield 24, 3, 3, 7, 6) := by decide +kernel
theorem fe_20_55 : am_fetch 20 55 = some (.aload_n 1, 1, 1, 0, 0) := by decide +kernel
theorem fe_20_56 : am_fetch 20 56 = some (.getfield 24, 3, 3, 7, 6) := by decide +kernel
theorem fe_20_59 : am_fetch 20 59 = some (.invokevirtual 67, 3, 7, 16, 0) := by decide +kernel
theorem fe_20_62 : am_fetch 20 62 = some (.aload_n 0, 1, 1, 0, 0) := by decide +kernel
theorem fe_20_63 : am_fetch 20 63 = some (.getfield 27, 3, 3, 7, 7) := by decide +kernel
theorem fe_20_66 : am_fetch 20 66 = some (.aload_n 1, 1, 1, 0, 0) := by decide +kernel
theorem fe_20_67 : am_fetch 20 67 = some (.getfield 27, 3, 3, 7, 7) := by decide +kernel
theorem fe_20_70 : am_fetch 20 70 = some (.invokevirtual 67, 3, 7, 16, 0) := by decide +kernel
theorem fe_20_73 : am_fetch 20 73 = some (.aload_n 0, 1, 1, 0, 0) := by decide +kernel
theorem fe_20_74 : am_fetch 20 74 = some (.getfield 33, 3, 3, 7, 8) := by decide +kernel
theorem fe_20_77 : am_fetch 20 77 = some (.aload_n 1, 1, 1, 0, 0) := by decide +kernel
theorem fe_20_78 : am_fetch 20 78 = some (.getfield 33, 3, 3, 7, 8) := by decide +kernel
theorem fe_20_81 : am_fetch 20 81 = some (.invokevirtual 71, 3, 7, 17, 0) := by decide +kernel
theorem fe_20_84 : am_fetch 20 84 = some (.aload_n 0, 1, 1, 0, 0) := by decide +kernel
theorem fe_20_85 : am_fetch 20 85 = some (.getfield 40, 3, 3, 7, 9) := by decide +kernel
theorem fe_20_88 : am_fetch 20 88 = some (.aload_n 1, 1, 1, 0, 0) := by decide +kernel
theorem fe_20_89 : am_fetch 20 89 = some (.getfield 40, 3, 3, 7, 9) := by decide +kernel
theorem fe_20_92 : am_fetch 20 92 = some (.invokevirtual 74, 3, 7, 18, 0) := by decide +kernel
theorem fe_20_95 : am_fetch 20 95 = some (.aload_n 0, 1, 1, 0, 0) := by decide +kernel
theorem fe_20_96 : am_fetch 20 96 = some (.getfield 47, 3, 3, 7, 10) := by decide +kernel
theorem fe_20_99 : am_fetch 20 99 = some (.aload_n 1, 1, 1, 0, 0) := by decide +kernel
theorem fe_20_100 : am_fetch 20 100 = some (.getfield 47, 3, 3, 7, 10) := by decide +kernel
theorem fe_20_103 : am_fetch 20 103 = some (.invokevirtual 77, 3, 7, 19, 0) := by decide +kernel
theorem fe_20_106 : am_fetch 20 106 = some (.return_, 1, 8, 0, 0) := by decide +kernel
theorem fe_21_0 : am_fetch 21 0 = some (.iload_n 1, 1, 1, 0, 0) := by decide +kernel
theorem fe_21_1 : am_fetch 21 1 = some (.ifCond .lt 40, 3, 2, 41, 0) := by decide +kernel
theorem fe_21_4 : am_fetch 21 4 = some (.iload_n 1, 1, 1, 0, 0) := by decide +kernel
theorem fe_21_5 : am_fetch 21 5 = some (.aload_n 0, 1, 1, 0, 0) := by decide +kernel
theorem fe_21_6 : am_fetch 21 6 = some (.getfield 15, 3, 3, 9, 0) := by decide +kernel
theorem fe_21_9 : am_fetch 21 9 = some (.arraylength, 1, 3, 0, 0) := by decide +kernel
theorem fe_21_10 : am_fetch 21 10 = some (.if_icmp .ge 31, 3, 2, 41, 0) := by decide +kernel
theorem fe_21_13 : am_fetch 21 13 = some (.aload_n 0, 1, 1, 0, 0) := by decide +kernel
theorem fe_21_14 : am_fetch 21 14 = some (.getfield 15, 3, 3, 9, 0) := by decide +kernel
theorem fe_21_17 : am_fetch 21 17 = some (.iload_n 1, 1, 1, 0, 0) := by decide +kernel
theorem fe_21_18 : am_fetch 21 18 = some (.aaload, 1, 3, 0, 0) := by decide +kernel
theorem fe_21_19 : am_fetch 21 19 = some (.ifnull 22, 3, 2, 41, 0) := by decide +kernel
theorem fe_21_22 : am_fetch 21 22 = some (.aload_n 0, 1, 1, 0, 0) := by decide +kernel
theorem fe_21_23 : am_fetch 21 23 = some (.getfield 15, 3, 3, 9, 0) := by decide +kernel
theorem fe_21_26 : am_fetch 21 26 = some (.iload_n 1, 1, 1, 0, 0) := by decide +kernel
theorem fe_21_27 : am_fetch 21 27 = some (.aaload, 1, 3, 0, 0) := by decide +kernel
theorem fe_21_28 : am_fetch 21 28 = some (.aload_n 2, 1, 1, 0, 0) := by decide +kernel
theorem fe_21_29 : am_fetch 21 29 = some (.invokevirtual 35, 3, 7, 20, 0) := by decide +kernel
theorem fe_21_32 : am_fetch 21 32 = some (.aload_n 0, 1, 1, 0, 0) := by decide +kernel
theorem fe_21_33 : am_fetch 21 33 = some (.getfield 27, 3, 3, 9, 1) := by decide +kernel
theorem fe_21_36 : am_fetch 21 36 = some (.iload_n 1, 1, 1, 0, 0) := by decide +kernel
theorem fe_21_37 : am_fetch 21 37 = some (.iconst 1, 1, 0, 0, 0) := by decide +kernel
theorem fe_21_38 : am_fetch 21 38 = some (.invokevirtual 39, 3, 7, 4, 0) := by decide +kernel
theorem fe_21_41 : am_fetch 21 41 = some (.return_, 1, 8, 0, 0) := by decide +kernel
theorem fe_22_0 : am_fetch 22 0 = some (.aload_n 0, 1, 1, 0, 0) := by decide +kernel
theorem fe_22_1 : am_fetch 22 1 = some (.getfield 14, 3, 3, 2, 0) := by decide +kernel
theorem fe_22_4 : am_fetch 22 4 = some (.aload_n 0, 1, 1, 0, 0) := by decide +kernel
theorem fe_22_5 : am_fetch 22 5 = some (.aload_n 0, 1, 1, 0, 0) := by decide +kernel
theorem fe_22_6 : am_fetch 22 6 = some (.getfield 20, 3, 3, 2, 2) := by decide +kernel
theorem fe_22_9 : am_fetch 22 9 = some (.invokevirtual 27, 3, 7, 15, 0) := by decide +kernel
theorem fe_22_12 : am_fetch 22 12 = some (.aload_n 1, 1, 1, 0, 0) := by decide +kernel
theorem fe_22_13 : am_fetch 22 13 = some (.invokevirtual 31, 3, 7, 21, 0) := by decide +kernel
theorem fe_22_16 : am_fetch 22 16 = some (.aload_n 0, 1, 1, 0, 0) := by decide +kernel
theorem fe_22_17 : am_fetch 22 17 = some (.getfield 20, 3, 3, 2, 2) := by decide +kernel
theorem fe_22_20 : am_fetch 22 20 = some (.bipush 6, 2, 0, 0, 0) := by decide +kernel
theorem fe_22_22 : am_fetch 22 22 = some (.if_icmp .ge 16, 3, 2, 38, 0) := by decide +kernel
theorem fe_22_25 : am_fetch 22 25 = some (.aload_n 0, 1, 1, 0, 0) := by decide +kernel
theorem fe_22_26 : am_fetch 22 26 = some (.dup, 1, 0, 0, 0) := by decide +kernel
theorem fe_22_27 : am_fetch 22 27 = some (.getfield 20, 3, 3, 2, 2) := by decide +kernel
theorem fe_22_30 : am_fetch 22 30 = some (.iconst 1, 1, 0, 0, 0) := by decide +kernel
theorem fe_22_31 : am_fetch 22 31 = some (.iadd, 1, 0, 0, 0) := by decide +kernel
theorem fe_22_32 : am_fetch 22 32 = some (.putfield 20, 3, 4, 2, 2) := by decide +kernel
theorem fe_22_35 : am_fetch 22 35 = some (.goto 12, 3, 2, 47, 0) := by decide +kernel
theorem fe_22_38 : am_fetch 22 38 = some (.aload_n 0, 1, 1, 0, 0) := by decide +kernel
theorem fe_22_39 : am_fetch 22 39 = some (.aload_n 0, 1, 1, 0, 0) := by decide +kernel
theorem fe_22_40 : am_fetch 22 40 = some (.iconst 1, 1, 0, 0, 0) := by decide +kernel
theorem fe_22_41 : am_fetch 22 41 = some (.invokevirtual 27, 3, 7, 15, 0) := by decide +kernel
theorem fe_22_44 : am_fetch 22 44 = some (.putfield 24, 3, 4, 2, 1) := by decide +kernel
theorem fe_22_47 : am_fetch 22 47 = some (.return_, 1, 8, 0, 0) := by decide +kernel
theorem fe_23_0 : am_fetch 23 0 = some (.aload_n 0, 1, 1, 0, 0) := by decide +kernel
theorem fe_23_1 : am_fetch 23 1 = some (.getfield 32, 3, 3, 1, 0) := by decide +kernel
theorem fe_23_4 : am_fetch 23 4 = some (.istore_n 2, 1, 1, 0, 0) := by decide +kernel
theorem fe_23_5 : am_fetch 23 5 = some (.aload_n 0, 1, 1, 0, 0) := by decide +kernel
theorem fe_23_6 : am_fetch 23 6 = some (.dup, 1, 0, 0, 0) := by decide +kernel
theorem fe_23_7 : am_fetch 23 7 = some (.getfield 32, 3, 3, 1, 0) := by decide +kernel
theorem fe_23_10 : am_fetch 23 10 = some (.iconst 1, 1, 0, 0, 0) := by decide +kernel
theorem fe_23_11 : am_fetch 23 11 = some (.iadd, 1, 0, 0, 0) := by decide +kernel
theorem fe_23_12 : am_fetch 23 12 = some (.putfield 32, 3, 4, 1, 0) := by decide +kernel
theorem fe_23_15 : am_fetch 23 15 = some (.aload_n 0, 1, 1, 0, 0) := by decide +kernel
theorem fe_23_16 : am_fetch 23 16 = some (.getfield 20, 3, 3, 1, 2) := by decide +kernel
theorem fe_23_19 : am_fetch 23 19 = some (.iload_n 2, 1, 1, 0, 0) := by decide +kernel
theorem fe_23_20 : am_fetch 23 20 = some (.iload_n 1, 1, 1, 0, 0) := by decide +kernel
theorem fe_23_21 : am_fetch 23 21 = some (.invokevirtual 44, 3, 7, 4, 0) := by decide +kernel
theorem fe_23_24 : am_fetch 23 24 = some (.aload_n 0, 1, 1, 0, 0) := by decide +kernel
theorem fe_23_25 : am_fetch 23 25 = some (.getfield 26, 3, 3, 1, 4) := by decide +kernel
theorem fe_23_28 : am_fetch 23 28 = some (.iconst 2, 1, 0, 0, 0) := by decide +kernel
theorem fe_23_29 : am_fetch 23 29 = some (.iload_n 2, 1, 1, 0, 0) := by decide +kernel
theorem fe_23_30 : am_fetch 23 30 = some (.imul, 1, 0, 0, 0) := by decide +kernel
theorem fe_23_31 : am_fetch 23 31 = some (.bipush 20, 2, 0, 0, 0) := by decide +kernel
theorem fe_23_33 : am_fetch 23 33 = some (.invokevirtual 44, 3, 7, 4, 0) := by decide +kernel
theorem fe_23_36 : am_fetch 23 36 = some (.aload_n 0, 1, 1, 0, 0) := by decide +kernel
theorem fe_23_37 : am_fetch 23 37 = some (.getfield 26, 3, 3, 1, 4) := by decide +kernel
theorem fe_23_40 : am_fetch 23 40 = some (.iconst 2, 1, 0, 0, 0) := by decide +kernel
theorem fe_23_41 : am_fetch 23 41 = some (.iload_n 2, 1, 1, 0, 0) := by decide +kernel
theorem fe_23_42 : am_fetch 23 42 = some (.imul, 1, 0, 0, 0) := by decide +kernel
theorem fe_23_43 : am_fetch 23 43 = some (.iconst 1, 1, 0, 0, 0) := by decide +kernel
theorem fe_23_44 : am_fetch 23 44 = some (.iadd, 1, 0, 0, 0) := by decide +kernel
theorem fe_23_45 : am_fetch 23 45 = some (.bipush 20, 2, 0, 0, 0) := by decide +kernel
theorem fe_23_47 : am_fetch 23 47 = some (.invokevirtual 44, 3, 7, 4, 0) := by decide +kernel
theorem fe_23_50 : am_fetch 23 50 = some (.iload_n 2, 1, 1, 0, 0) := by decide +kernel
theorem fe_23_51 : am_fetch 23 51 = some (.ireturn, 1, 8, 0, 0) := by decide +kernel
theorem fe_24_0 : am_fetch 24 0 = some (.iload_n 1, 1, 1, 0, 0) := by decide +kernel
theorem fe_24_1 : am_fetch 24 1 = some (.invokestatic 65, 3, 7, 13, 0) := by decide +kernel
theorem fe_24_4 : am_fetch 24 4 = some (.ifCond .ne 13, 3, 2, 17, 0) := by decide +kernel
theorem fe_24_7 : am_fetch 24 7 = some (.new 69, 3, 9, 0, 0) := by decide +kernel
theorem fe_24_10 : am_fetch 24 10 = some (.dup, 1, 0, 0, 0) := by decide +kernel
theorem fe_24_17 : am_fetch 24 17 = some (.aload_n 0, 1, 1, 0, 0) := by decide +kernel
theorem fe_24_18 : am_fetch 24 18 = some (.getfield 12, 3, 3, 10, 0) := by decide +kernel
theorem fe_24_21 : am_fetch 24 21 = some (.getfield 18, 3, 3, 107, 8) := by decide +kernel
theorem fe_24_24 : am_fetch 24 24 = some (.invokevirtual 76, 3, 7, 14, 0) := by decide +kernel
theorem fe_24_27 : am_fetch 24 27 = some (.ifCond .ne 13, 3, 2, 40, 0) := by decide +kernel
theorem fe_24_30 : am_fetch 24 30 = some (.new 82, 3, 9, 1, 0) := by decide +kernel
theorem fe_24_33 : am_fetch 24 33 = some (.dup, 1, 0, 0, 0) := by decide +kernel
theorem fe_24_40 : am_fetch 24 40 = some (.aload_n 0, 1, 1, 0, 0) := by decide +kernel
theorem fe_24_41 : am_fetch 24 41 = some (.getfield 52, 3, 3, 10, 4) := by decide +kernel
theorem fe_24_44 : am_fetch 24 44 = some (.aload_n 0, 1, 1, 0, 0) := by decide +kernel
theorem fe_24_45 : am_fetch 24 45 = some (.getfield 12, 3, 3, 10, 0) := by decide +kernel
theorem fe_24_48 : am_fetch 24 48 = some (.invokevirtual 87, 3, 7, 22, 0) := by decide +kernel
theorem fe_24_51 : am_fetch 24 51 = some (.aload_n 0, 1, 1, 0, 0) := by decide +kernel
theorem fe_24_52 : am_fetch 24 52 = some (.getfield 12, 3, 3, 10, 0) := by decide +kernel
theorem fe_24_55 : am_fetch 24 55 = some (.getfield 18, 3, 3, 107, 8) := by decide +kernel
theorem fe_24_58 : am_fetch 24 58 = some (.iload_n 1, 1, 1, 0, 0) := by decide +kernel
theorem fe_24_59 : am_fetch 24 59 = some (.invokevirtual 91, 3, 7, 23, 0) := by decide +kernel
theorem fe_24_62 : am_fetch 24 62 = some (.ireturn, 1, 8, 0, 0) := by decide +kernel
theorem fe_25_0 : am_fetch 25 0 = some (.aload_n 2, 1, 1, 0, 0) := by decide +kernel
theorem fe_25_1 : am_fetch 25 1 = some (.iconst 0, 1, 0, 0, 0) := by decide +kernel
theorem fe_25_2 : am_fetch 25 2 = some (.aload_n 0, 1, 1, 0, 0) := by decide +kernel
theorem fe_25_3 : am_fetch 25 3 = some (.iload_n 1, 1, 1, 0, 0) := by decide +kernel
theorem fe_25_4 : am_fetch 25 4 = some (.invokevirtual 7, 3, 7, 24, 0) := by decide +kernel
theorem fe_25_7 : am_fetch 25 7 = some (.i2l, 1, 0, 0, 0) := by decide +kernel
theorem fe_25_8 : am_fetch 25 8 = some (.lastore, 1, 4, 0, 0) := by decide +kernel
theorem fe_25_9 : am_fetch 25 9 = some (.goto 9, 3, 2, 18, 0) := by decide +kernel
theorem fe_25_12 : am_fetch 25 12 = some (.astore_n 3, 1, 1, 0, 0) := by decide +kernel
theorem fe_25_13 : am_fetch 25 13 = some (.iconst 1, 1, 0, 0, 0) := by decide +kernel
theorem fe_25_14 : am_fetch 25 14 = some (.ireturn, 1, 8, 0, 0) := by decide +kernel
theorem fe_25_15 : am_fetch 25 15 = some (.astore_n 3, 1, 1, 0, 0) := by decide +kernel
theorem fe_25_16 : am_fetch 25 16 = some (.iconst 2, 1, 0, 0, 0) := by decide +kernel
theorem fe_25_17 : am_fetch 25 17 = some (.ireturn, 1, 8, 0, 0) := by decide +kernel
theorem fe_25_18 : am_fetch 25 18 = some (.iconst 0, 1, 0, 0, 0) := by decide +kernel
theorem fe_25_19 : am_fetch 25 19 = some (.ireturn, 1, 8, 0, 0) := by decide +kernel
theorem fe_26_0 : am_fetch 26 0 = some (.iload_n 0, 1, 1, 0, 0) := by decide +kernel
theorem fe_26_1 : am_fetch 26 1 = some (.iload_n 1, 1, 1, 0, 0) := by decide +kernel
theorem fe_26_2 : am_fetch 26 2 = some (.if_icmp .lt 12, 3, 2, 14, 0) := by decide +kernel
theorem fe_26_5 : am_fetch 26 5 = some (.iload_n 0, 1, 1, 0, 0) := by decide +kernel
theorem fe_26_6 : am_fetch 26 6 = some (.iload_n 2, 1, 1, 0, 0) := by decide +kernel
theorem fe_26_7 : am_fetch 26 7 = some (.if_icmp .gt 7, 3, 2, 14, 0) := by decide +kernel
theorem fe_26_10 : am_fetch 26 10 = some (.iconst 1, 1, 0, 0, 0) := by decide +kernel
theorem fe_26_11 : am_fetch 26 11 = some (.goto 4, 3, 2, 15, 0) := by decide +kernel
theorem fe_26_14 : am_fetch 26 14 = some (.iconst 0, 1, 0, 0, 0) := by decide +kernel
theorem fe_26_15 : am_fetch 26 15 = some (.ireturn, 1, 8, 0, 0) := by decide +kernel
theorem fe_27_0 : am_fetch 27 0 = some (.iload_n 0, 1, 1, 0, 0) := by decide +kernel
theorem fe_27_1 : am_fetch 27 1 = some (.iconst 0, 1, 0, 0, 0) := by decide +kernel
theorem fe_27_2 : am_fetch 27 2 = some (.bipush 30, 2, 0, 0, 0) := by decide +kernel
theorem fe_27_4 : am_fetch 27 4 = some (.invokestatic 36, 3, 7, 26, 0) := by decide +kernel
theorem fe_27_7 : am_fetch 27 7 = some (.ireturn, 1, 8, 0, 0) := by decide +kernel
theorem fe_28_0 : am_fetch 28 0 = some (.iload_n 1, 1, 1, 0, 0) := by decide +kernel
theorem fe_28_1 : am_fetch 28 1 = some (.invokestatic 79, 3, 7, 27, 0) := by decide +kernel
theorem fe_28_4 : am_fetch 28 4 = some (.ifCond .ne 7, 3, 2, 11, 0) := by decide +kernel
theorem fe_28_7 : am_fetch 28 7 = some (.iconst 1, 1, 0, 0, 0) := by decide +kernel
theorem fe_28_8 : am_fetch 28 8 = some (.goto 19, 3, 2, 27, 0) := by decide +kernel
theorem fe_28_11 : am_fetch 28 11 = some (.aload_n 0, 1, 1, 0, 0) := by decide +kernel
theorem fe_28_12 : am_fetch 28 12 = some (.getfield 7, 3, 3, 11, 0) := by decide +kernel
theorem fe_28_15 : am_fetch 28 15 = some (.iconst 1, 1, 0, 0, 0) := by decide +kernel
theorem fe_28_16 : am_fetch 28 16 = some (.iaload, 1, 3, 0, 0) := by decide +kernel
theorem fe_28_17 : am_fetch 28 17 = some (.bipush 12, 2, 0, 0, 0) := by decide +kernel
theorem fe_28_19 : am_fetch 28 19 = some (.if_icmp .ne 7, 3, 2, 26, 0) := by decide +kernel
theorem fe_28_22 : am_fetch 28 22 = some (.iconst 2, 1, 0, 0, 0) := by decide +kernel
theorem fe_28_23 : am_fetch 28 23 = some (.goto 4, 3, 2, 27, 0) := by decide +kernel
theorem fe_28_26 : am_fetch 28 26 = some (.iconst 0, 1, 0, 0, 0) := by decide +kernel
theorem fe_28_27 : am_fetch 28 27 = some (.ireturn, 1, 8, 0, 0) := by decide +kernel
theorem fe_29_0 : am_fetch 29 0 = some (.aload_n 0, 1, 1, 0, 0) := by decide +kernel
theorem fe_29_1 : am_fetch 29 1 = some (.iload_n 1, 1, 1, 0, 0) := by decide +kernel
theorem fe_29_2 : am_fetch 29 2 = some (.putfield 32, 3, 4, 11, 7) := by decide +kernel
theorem fe_29_5 : am_fetch 29 5 = some (.iload_n 1, 1, 1, 0, 0) := by decide +kernel
theorem fe_29_6 : am_fetch 29 6 = some (.ifCond .ne 7, 3, 2, 13, 0) := by decide +kernel
theorem fe_29_9 : am_fetch 29 9 = some (.iconst 1, 1, 0, 0, 0) := by decide +kernel
theorem fe_29_10 : am_fetch 29 10 = some (.goto 4, 3, 2, 14, 0) := by decide +kernel
theorem fe_29_13 : am_fetch 29 13 = some (.iconst 0, 1, 0, 0, 0) := by decide +kernel
theorem fe_29_14 : am_fetch 29 14 = some (.ireturn, 1, 8, 0, 0) := by decide +kernel
theorem fe_30_0 : am_fetch 30 0 = some (.iconst 0, 1, 0, 0, 0) := by decide +kernel
theorem fe_30_1 : am_fetch 30 1 = some (.istore 4, 2, 1, 0, 0) := by decide +kernel
theorem fe_30_3 : am_fetch 30 3 = some (.iload 4, 2, 1, 0, 0) := by decide +kernel
theorem fe_30_5 : am_fetch 30 5 = some (.sipush 405, 3, 0, 0, 0) := by decide +kernel
theorem fe_30_8 : am_fetch 30 8 = some (.if_icmp .ge 21, 3, 2, 29, 0) := by decide +kernel
theorem fe_30_11 : am_fetch 30 11 = some (.aload_n 2, 1, 1, 0, 0) := by decide +kernel
theorem fe_30_12 : am_fetch 30 12 = some (.iload_n 3, 1, 1, 0, 0) := by decide +kernel
theorem fe_30_13 : am_fetch 30 13 = some (.iload 4, 2, 1, 0, 0) := by decide +kernel
theorem fe_30_15 : am_fetch 30 15 = some (.iadd, 1, 0, 0, 0) := by decide +kernel
theorem fe_30_16 : am_fetch 30 16 = some (.aload_n 0, 1, 1, 0, 0) := by decide +kernel
theorem fe_30_17 : am_fetch 30 17 = some (.iload_n 1, 1, 1, 0, 0) := by decide +kernel
theorem fe_30_18 : am_fetch 30 18 = some (.iload 4, 2, 1, 0, 0) := by decide +kernel
theorem fe_30_20 : am_fetch 30 20 = some (.iadd, 1, 0, 0, 0) := by decide +kernel
theorem fe_30_21 : am_fetch 30 21 = some (.iaload, 1, 3, 0, 0) := by decide +kernel
theorem fe_30_22 : am_fetch 30 22 = some (.iastore, 1, 4, 0, 0) := by decide +kernel
theorem fe_30_23 : am_fetch 30 23 = some (.iinc 4 1, 3, 1, 0, 0) := by decide +kernel
theorem fe_30_26 : am_fetch 30 26 = some (.goto (-23), 3, 2, 3, 0) := by decide +kernel
theorem fe_30_29 : am_fetch 30 29 = some (.return_, 1, 8, 0, 0) := by decide +kernel
theorem fe_31_0 : am_fetch 31 0 = some (.aload_n 0, 1, 1, 0, 0) := by decide +kernel
theorem fe_31_1 : am_fetch 31 1 = some (.getfield 47, 3, 3, 11, 2) := by decide +kernel
theorem fe_31_4 : am_fetch 31 4 = some (.bipush 6, 2, 0, 0, 0) := by decide +kernel
theorem fe_31_6 : am_fetch 31 6 = some (.if_icmp .ne 44, 3, 2, 50, 0) := by decide +kernel
theorem fe_31_9 : am_fetch 31 9 = some (.iconst 0, 1, 0, 0, 0) := by decide +kernel
theorem fe_31_10 : am_fetch 31 10 = some (.istore_n 1, 1, 1, 0, 0) := by decide +kernel
theorem fe_31_11 : am_fetch 31 11 = some (.iload_n 1, 1, 1, 0, 0) := by decide +kernel
theorem fe_31_12 : am_fetch 31 12 = some (.sipush 2025, 3, 0, 0, 0) := by decide +kernel
theorem fe_31_15 : am_fetch 31 15 = some (.if_icmp .ge 25, 3, 2, 40, 0) := by decide +kernel
theorem fe_31_18 : am_fetch 31 18 = some (.aload_n 0, 1, 1, 0, 0) := by decide +kernel
theorem fe_31_19 : am_fetch 31 19 = some (.getfield 13, 3, 3, 11, 1) := by decide +kernel
theorem fe_31_22 : am_fetch 31 22 = some (.iload_n 1, 1, 1, 0, 0) := by decide +kernel
theorem fe_31_23 : am_fetch 31 23 = some (.aload_n 0, 1, 1, 0, 0) := by decide +kernel
theorem fe_31_24 : am_fetch 31 24 = some (.getfield 13, 3, 3, 11, 1) := by decide +kernel
theorem fe_31_27 : am_fetch 31 27 = some (.sipush 405, 3, 0, 0, 0) := by decide +kernel
theorem fe_31_30 : am_fetch 31 30 = some (.iload_n 1, 1, 1, 0, 0) := by decide +kernel
theorem fe_31_31 : am_fetch 31 31 = some (.iadd, 1, 0, 0, 0) := by decide +kernel
theorem fe_31_32 : am_fetch 31 32 = some (.iaload, 1, 3, 0, 0) := by decide +kernel
theorem fe_31_33 : am_fetch 31 33 = some (.iastore, 1, 4, 0, 0) := by decide +kernel
theorem fe_31_34 : am_fetch 31 34 = some (.iinc 1 1, 3, 1, 0, 0) := by decide +kernel
theorem fe_31_37 : am_fetch 31 37 = some (.goto (-26), 3, 2, 11, 0) := by decide +kernel
theorem fe_31_40 : am_fetch 31 40 = some (.aload_n 0, 1, 1, 0, 0) := by decide +kernel
theorem fe_31_41 : am_fetch 31 41 = some (.dup, 1, 0, 0, 0) := by decide +kernel
theorem fe_31_42 : am_fetch 31 42 = some (.getfield 47, 3, 3, 11, 2) := by decide +kernel
theorem fe_31_45 : am_fetch 31 45 = some (.iconst 1, 1, 0, 0, 0) := by decide +kernel
theorem fe_31_46 : am_fetch 31 46 = some (.isub, 1, 0, 0, 0) := by decide +kernel
theorem fe_31_47 : am_fetch 31 47 = some (.putfield 47, 3, 4, 11, 2) := by decide +kernel
theorem fe_31_50 : am_fetch 31 50 = some (.aload_n 0, 1, 1, 0, 0) := by decide +kernel
theorem fe_31_51 : am_fetch 31 51 = some (.getfield 7, 3, 3, 11, 0) := by decide +kernel
theorem fe_31_54 : am_fetch 31 54 = some (.iconst 0, 1, 0, 0, 0) := by decide +kernel
theorem fe_31_55 : am_fetch 31 55 = some (.aload_n 0, 1, 1, 0, 0) := by decide +kernel
theorem fe_31_56 : am_fetch 31 56 = some (.getfield 13, 3, 3, 11, 1) := by decide +kernel
theorem fe_31_59 : am_fetch 31 59 = some (.sipush 405, 3, 0, 0, 0) := by decide +kernel
theorem fe_31_62 : am_fetch 31 62 = some (.aload_n 0, 1, 1, 0, 0) := by decide +kernel
theorem fe_31_63 : am_fetch 31 63 = some (.getfield 47, 3, 3, 11, 2) := by decide +kernel
theorem fe_31_66 : am_fetch 31 66 = some (.imul, 1, 0, 0, 0) := by decide +kernel
theorem fe_31_67 : am_fetch 31 67 = some (.invokestatic 50, 3, 7, 30, 0) := by decide +kernel
theorem fe_31_70 : am_fetch 31 70 = some (.aload_n 0, 1, 1, 0, 0) := by decide +kernel
theorem fe_31_71 : am_fetch 31 71 = some (.dup, 1, 0, 0, 0) := by decide +kernel
theorem fe_31_72 : am_fetch 31 72 = some (.getfield 47, 3, 3, 11, 2) := by decide +kernel
theorem fe_31_75 : am_fetch 31 75 = some (.iconst 1, 1, 0, 0, 0) := by decide +kernel
theorem fe_31_76 : am_fetch 31 76 = some (.iadd, 1, 0, 0, 0) := by decide +kernel
theorem fe_31_77 : am_fetch 31 77 = some (.putfield 47, 3, 4, 11, 2) := by decide +kernel
theorem fe_31_80 : am_fetch 31 80 = some (.return_, 1, 8, 0, 0) := by decide +kernel
theorem fe_32_0 : am_fetch 32 0 = some (.aload_n 0, 1, 1, 0, 0) := by decide +kernel
theorem fe_32_1 : am_fetch 32 1 = some (.getfield 7, 3, 3, 11, 0) := by decide +kernel
theorem fe_32_4 : am_fetch 32 4 = some (.bipush 11, 2, 0, 0, 0) := by decide +kernel
theorem fe_32_6 : am_fetch 32 6 = some (.bipush 7, 2, 0, 0, 0) := by decide +kernel
theorem fe_32_8 : am_fetch 32 8 = some (.iload_n 1, 1, 1, 0, 0) := by decide +kernel
theorem fe_32_9 : am_fetch 32 9 = some (.imul, 1, 0, 0, 0) := by decide +kernel
theorem fe_32_10 : am_fetch 32 10 = some (.iadd, 1, 0, 0, 0) := by decide +kernel
theorem fe_32_11 : am_fetch 32 11 = some (.iload_n 2, 1, 1, 0, 0) := by decide +kernel
theorem fe_32_12 : am_fetch 32 12 = some (.iadd, 1, 0, 0, 0) := by decide +kernel
theorem fe_32_13 : am_fetch 32 13 = some (.iload_n 3, 1, 1, 0, 0) := by decide +kernel
theorem fe_32_14 : am_fetch 32 14 = some (.iastore, 1, 4, 0, 0) := by decide +kernel
theorem fe_32_15 : am_fetch 32 15 = some (.return_, 1, 8, 0, 0) := by decide +kernel
theorem fe_33_0 : am_fetch 33 0 = some (.aload_n 0, 1, 1, 0, 0) := by decide +kernel
theorem fe_33_1 : am_fetch 33 1 = some (.getfield 7, 3, 3, 11, 0) := by decide +kernel
theorem fe_33_4 : am_fetch 33 4 = some (.iconst 1, 1, 0, 0, 0) := by decide +kernel
theorem fe_33_5 : am_fetch 33 5 = some (.iaload, 1, 3, 0, 0) := by decide +kernel
theorem fe_33_6 : am_fetch 33 6 = some (.istore_n 2, 1, 1, 0, 0) := by decide +kernel
theorem fe_33_7 : am_fetch 33 7 = some (.iconst 0, 1, 0, 0, 0) := by decide +kernel
theorem fe_33_8 : am_fetch 33 8 = some (.istore_n 3, 1, 1, 0, 0) := by decide +kernel
theorem fe_33_9 : am_fetch 33 9 = some (.iload_n 3, 1, 1, 0, 0) := by decide +kernel
theorem fe_33_10 : am_fetch 33 10 = some (.bipush 7, 2, 0, 0, 0) := by decide +kernel
theorem fe_33_12 : am_fetch 33 12 = some (.if_icmp .ge 16, 3, 2, 28, 0) := by decide +kernel
theorem fe_33_15 : am_fetch 33 15 = some (.aload_n 0, 1, 1, 0, 0) := by decide +kernel
theorem fe_33_16 : am_fetch 33 16 = some (.iload_n 2, 1, 1, 0, 0) := by decide +kernel
theorem fe_33_17 : am_fetch 33 17 = some (.iload_n 3, 1, 1, 0, 0) := by decide +kernel
theorem fe_33_18 : am_fetch 33 18 = some (.iconst 0, 1, 0, 0, 0) := by decide +kernel
theorem fe_33_19 : am_fetch 33 19 = some (.invokevirtual 62, 3, 7, 32, 0) := by decide +kernel
theorem fe_33_22 : am_fetch 33 22 = some (.iinc 3 1, 3, 1, 0, 0) := by decide +kernel
theorem fe_33_25 : am_fetch 33 25 = some (.goto (-16), 3, 2, 9, 0) := by decide +kernel
theorem fe_33_28 : am_fetch 33 28 = some (.aload_n 0, 1, 1, 0, 0) := by decide +kernel
theorem fe_33_29 : am_fetch 33 29 = some (.iload_n 2, 1, 1, 0, 0) := by decide +kernel
theorem fe_33_30 : am_fetch 33 30 = some (.iconst 1, 1, 0, 0, 0) := by decide +kernel
theorem fe_33_31 : am_fetch 33 31 = some (.iload_n 1, 1, 1, 0, 0) := by decide +kernel
theorem fe_33_32 : am_fetch 33 32 = some (.invokevirtual 62, 3, 7, 32, 0) := by decide +kernel
theorem fe_33_35 : am_fetch 33 35 = some (.aload_n 0, 1, 1, 0, 0) := by decide +kernel
theorem fe_33_36 : am_fetch 33 36 = some (.iload_n 2, 1, 1, 0, 0) := by decide +kernel
theorem fe_33_37 : am_fetch 33 37 = some (.iconst 2, 1, 0, 0, 0) := by decide +kernel
theorem fe_33_38 : am_fetch 33 38 = some (.bipush 20, 2, 0, 0, 0) := by decide +kernel
theorem fe_33_40 : am_fetch 33 40 = some (.invokevirtual 62, 3, 7, 32, 0) := by decide +kernel
theorem fe_33_43 : am_fetch 33 43 = some (.aload_n 0, 1, 1, 0, 0) := by decide +kernel
theorem fe_33_44 : am_fetch 33 44 = some (.iload_n 2, 1, 1, 0, 0) := by decide +kernel
theorem fe_33_45 : am_fetch 33 45 = some (.iconst 3, 1, 0, 0, 0) := by decide +kernel
theorem fe_33_46 : am_fetch 33 46 = some (.bipush 20, 2, 0, 0, 0) := by decide +kernel
theorem fe_33_48 : am_fetch 33 48 = some (.invokevirtual 62, 3, 7, 32, 0) := by decide +kernel
theorem fe_33_51 : am_fetch 33 51 = some (.aload_n 0, 1, 1, 0, 0) := by decide +kernel
theorem fe_33_52 : am_fetch 33 52 = some (.getfield 7, 3, 3, 11, 0) := by decide +kernel
theorem fe_33_55 : am_fetch 33 55 = some (.iconst 1, 1, 0, 0, 0) := by decide +kernel
theorem fe_33_56 : am_fetch 33 56 = some (.dup2, 1, 0, 0, 0) := by decide +kernel
theorem fe_33_57 : am_fetch 33 57 = some (.iaload, 1, 3, 0, 0) := by decide +kernel
theorem fe_33_58 : am_fetch 33 58 = some (.iconst 1, 1, 0, 0, 0) := by decide +kernel
theorem fe_33_59 : am_fetch 33 59 = some (.iadd, 1, 0, 0, 0) := by decide +kernel
theorem fe_33_60 : am_fetch 33 60 = some (.iastore, 1, 4, 0, 0) := by decide +kernel
theorem fe_33_61 : am_fetch 33 61 = some (.iload_n 2, 1, 1, 0, 0) := by decide +kernel
theorem fe_33_62 : am_fetch 33 62 = some (.ireturn, 1, 8, 0, 0) := by decide +kernel
theorem fe_34_0 : am_fetch 34 0 = some (.aload_n 0, 1, 1, 0, 0) := by decide +kernel
theorem fe_34_1 : am_fetch 34 1 = some (.aload_n 0, 1, 1, 0, 0) := by decide +kernel
theorem fe_34_2 : am_fetch 34 2 = some (.iload_n 1, 1, 1, 0, 0) := by decide +kernel
theorem fe_34_3 : am_fetch 34 3 = some (.invokevirtual 88, 3, 7, 28, 0) := by decide +kernel
theorem fe_34_6 : am_fetch 34 6 = some (.invokevirtual 91, 3, 7, 29, 0) := by decide +kernel
theorem fe_34_9 : am_fetch 34 9 = some (.ifCond .ne 5, 3, 2, 14, 0) := by decide +kernel
theorem fe_34_12 : am_fetch 34 12 = some (.iconst 0, 1, 0, 0, 0) := by decide +kernel
theorem fe_34_13 : am_fetch 34 13 = some (.ireturn, 1, 8, 0, 0) := by decide +kernel
theorem fe_34_14 : am_fetch 34 14 = some (.aload_n 0, 1, 1, 0, 0) := by decide +kernel
theorem fe_34_15 : am_fetch 34 15 = some (.invokevirtual 94, 3, 7, 31, 0) := by decide +kernel
theorem fe_34_18 : am_fetch 34 18 = some (.aload_n 0, 1, 1, 0, 0) := by decide +kernel
theorem fe_34_19 : am_fetch 34 19 = some (.iload_n 1, 1, 1, 0, 0) := by decide +kernel
theorem fe_34_20 : am_fetch 34 20 = some (.invokevirtual 97, 3, 7, 33, 0) := by decide +kernel
theorem fe_34_23 : am_fetch 34 23 = some (.ireturn, 1, 8, 0, 0) := by decide +kernel
theorem fe_35_0 : am_fetch 35 0 = some (.aload_n 0, 1, 1, 0, 0) := by decide +kernel
theorem fe_35_1 : am_fetch 35 1 = some (.getfield 32, 3, 3, 11, 7) := by decide +kernel
theorem fe_35_4 : am_fetch 35 4 = some (.ireturn, 1, 8, 0, 0) := by decide +kernel
theorem fe_36_0 : am_fetch 36 0 = some (.iload_n 1, 1, 1, 0, 0) := by decide +kernel
theorem fe_36_1 : am_fetch 36 1 = some (.ifCond .lt 15, 3, 2, 16, 0) := by decide +kernel
theorem fe_36_4 : am_fetch 36 4 = some (.iload_n 1, 1, 1, 0, 0) := by decide +kernel
theorem fe_36_5 : am_fetch 36 5 = some (.aload_n 0, 1, 1, 0, 0) := by decide +kernel
theorem fe_36_6 : am_fetch 36 6 = some (.getfield 32, 3, 3, 1, 0) := by decide +kernel
theorem fe_36_9 : am_fetch 36 9 = some (.if_icmp .ge 7, 3, 2, 16, 0) := by decide +kernel
theorem fe_36_12 : am_fetch 36 12 = some (.iconst 1, 1, 0, 0, 0) := by decide +kernel
theorem fe_36_13 : am_fetch 36 13 = some (.goto 4, 3, 2, 17, 0) := by decide +kernel
theorem fe_36_16 : am_fetch 36 16 = some (.iconst 0, 1, 0, 0, 0) := by decide +kernel
theorem fe_36_17 : am_fetch 36 17 = some (.ireturn, 1, 8, 0, 0) := by decide +kernel
theorem fe_37_0 : am_fetch 37 0 = some (.aload_n 0, 1, 1, 0, 0) := by decide +kernel
theorem fe_37_1 : am_fetch 37 1 = some (.iload_n 1, 1, 1, 0, 0) := by decide +kernel
theorem fe_37_2 : am_fetch 37 2 = some (.invokevirtual 40, 3, 7, 36, 0) := by decide +kernel
theorem fe_37_5 : am_fetch 37 5 = some (.ifCond .eq 16, 3, 2, 21, 0) := by decide +kernel
theorem fe_37_8 : am_fetch 37 8 = some (.iload_n 2, 1, 1, 0, 0) := by decide +kernel
theorem fe_37_9 : am_fetch 37 9 = some (.ifCond .eq 8, 3, 2, 17, 0) := by decide +kernel
theorem fe_37_12 : am_fetch 37 12 = some (.iload_n 2, 1, 1, 0, 0) := by decide +kernel
theorem fe_37_13 : am_fetch 37 13 = some (.iconst 1, 1, 0, 0, 0) := by decide +kernel
theorem fe_37_14 : am_fetch 37 14 = some (.if_icmp .ne 7, 3, 2, 21, 0) := by decide +kernel
theorem fe_37_17 : am_fetch 37 17 = some (.iconst 1, 1, 0, 0, 0) := by decide +kernel
theorem fe_37_18 : am_fetch 37 18 = some (.goto 4, 3, 2, 22, 0) := by decide +kernel
theorem fe_37_21 : am_fetch 37 21 = some (.iconst 0, 1, 0, 0, 0) := by decide +kernel
theorem fe_37_22 : am_fetch 37 22 = some (.ireturn, 1, 8, 0, 0) := by decide +kernel
theorem fe_38_0 : am_fetch 38 0 = some (.aload_n 0, 1, 1, 0, 0) := by decide +kernel
theorem fe_38_1 : am_fetch 38 1 = some (.iload_n 1, 1, 1, 0, 0) := by decide +kernel
theorem fe_38_2 : am_fetch 38 2 = some (.invokevirtual 40, 3, 7, 36, 0) := by decide +kernel
theorem fe_38_5 : am_fetch 38 5 = some (.ifCond .ne 15, 3, 2, 20, 0) := by decide +kernel
theorem fe_38_8 : am_fetch 38 8 = some (.iload_n 1, 1, 1, 0, 0) := by decide +kernel
theorem fe_38_9 : am_fetch 38 9 = some (.bipush 20, 2, 0, 0, 0) := by decide +kernel
theorem fe_38_11 : am_fetch 38 11 = some (.if_icmp .lt 13, 3, 2, 24, 0) := by decide +kernel
theorem fe_38_14 : am_fetch 38 14 = some (.iload_n 1, 1, 1, 0, 0) := by decide +kernel
theorem fe_38_15 : am_fetch 38 15 = some (.bipush 25, 2, 0, 0, 0) := by decide +kernel
theorem fe_38_17 : am_fetch 38 17 = some (.if_icmp .ge 7, 3, 2, 24, 0) := by decide +kernel
theorem fe_38_20 : am_fetch 38 20 = some (.iconst 1, 1, 0, 0, 0) := by decide +kernel
theorem fe_38_21 : am_fetch 38 21 = some (.goto 4, 3, 2, 25, 0) := by decide +kernel
theorem fe_38_24 : am_fetch 38 24 = some (.iconst 0, 1, 0, 0, 0) := by decide +kernel
theorem fe_38_25 : am_fetch 38 25 = some (.ireturn, 1, 8, 0, 0) := by decide +kernel
theorem fe_39_0 : am_fetch 39 0 = some (.iload_n 1, 1, 1, 0, 0) := by decide +kernel
theorem fe_39_1 : am_fetch 39 1 = some (.ifCond .lt 21, 3, 2, 22, 0) := by decide +kernel
theorem fe_39_4 : am_fetch 39 4 = some (.iload_n 1, 1, 1, 0, 0) := by decide +kernel
theorem fe_39_5 : am_fetch 39 5 = some (.aload_n 0, 1, 1, 0, 0) := by decide +kernel
theorem fe_39_6 : am_fetch 39 6 = some (.getfield 13, 3, 3, 6, 0) := by decide +kernel
theorem fe_39_9 : am_fetch 39 9 = some (.arraylength, 1, 3, 0, 0) := by decide +kernel
theorem fe_39_10 : am_fetch 39 10 = some (.if_icmp .ge 12, 3, 2, 22, 0) := by decide +kernel
theorem fe_39_13 : am_fetch 39 13 = some (.aload_n 0, 1, 1, 0, 0) := by decide +kernel
theorem fe_39_14 : am_fetch 39 14 = some (.getfield 13, 3, 3, 6, 0) := by decide +kernel
theorem fe_39_17 : am_fetch 39 17 = some (.iload_n 1, 1, 1, 0, 0) := by decide +kernel
theorem fe_39_18 : am_fetch 39 18 = some (.iaload, 1, 3, 0, 0) := by decide +kernel
theorem fe_39_19 : am_fetch 39 19 = some (.goto 4, 3, 2, 23, 0) := by decide +kernel
theorem fe_39_22 : am_fetch 39 22 = some (.iconst 0, 1, 0, 0, 0) := by decide +kernel
theorem fe_39_23 : am_fetch 39 23 = some (.ireturn, 1, 8, 0, 0) := by decide +kernel
theorem fe_40_0 : am_fetch 40 0 = some (.aload_n 0, 1, 1, 0, 0) := by decide +kernel
theorem fe_40_1 : am_fetch 40 1 = some (.iload_n 1, 1, 1, 0, 0) := by decide +kernel
theorem fe_40_2 : am_fetch 40 2 = some (.invokevirtual 19, 3, 7, 39, 0) := by decide +kernel
theorem fe_40_5 : am_fetch 40 5 = some (.istore_n 3, 1, 1, 0, 0) := by decide +kernel
theorem fe_40_6 : am_fetch 40 6 = some (.aload_n 0, 1, 1, 0, 0) := by decide +kernel
theorem fe_40_7 : am_fetch 40 7 = some (.iload_n 1, 1, 1, 0, 0) := by decide +kernel
theorem fe_40_8 : am_fetch 40 8 = some (.iload_n 2, 1, 1, 0, 0) := by decide +kernel
theorem fe_40_9 : am_fetch 40 9 = some (.invokevirtual 23, 3, 7, 4, 0) := by decide +kernel
theorem fe_40_12 : am_fetch 40 12 = some (.iload_n 3, 1, 1, 0, 0) := by decide +kernel
theorem fe_40_13 : am_fetch 40 13 = some (.ireturn, 1, 8, 0, 0) := by decide +kernel
theorem fe_41_0 : am_fetch 41 0 = some (.aload_n 0, 1, 1, 0, 0) := by decide +kernel
theorem fe_41_1 : am_fetch 41 1 = some (.getfield 26, 3, 3, 1, 4) := by decide +kernel
theorem fe_41_4 : am_fetch 41 4 = some (.iconst 2, 1, 0, 0, 0) := by decide +kernel
theorem fe_41_5 : am_fetch 41 5 = some (.iload_n 1, 1, 1, 0, 0) := by decide +kernel
theorem fe_41_6 : am_fetch 41 6 = some (.imul, 1, 0, 0, 0) := by decide +kernel
theorem fe_41_7 : am_fetch 41 7 = some (.iload_n 2, 1, 1, 0, 0) := by decide +kernel
theorem fe_41_8 : am_fetch 41 8 = some (.iadd, 1, 0, 0, 0) := by decide +kernel
theorem fe_41_9 : am_fetch 41 9 = some (.iload_n 3, 1, 1, 0, 0) := by decide +kernel
theorem fe_41_10 : am_fetch 41 10 = some (.invokevirtual 48, 3, 7, 40, 0) := by decide +kernel
theorem fe_41_13 : am_fetch 41 13 = some (.ireturn, 1, 8, 0, 0) := by decide +kernel
theorem fe_42_0 : am_fetch 42 0 = some (.aload_n 0, 1, 1, 0, 0) := by decide +kernel
theorem fe_42_1 : am_fetch 42 1 = some (.getfield 12, 3, 3, 10, 0) := by decide +kernel
theorem fe_42_4 : am_fetch 42 4 = some (.getfield 18, 3, 3, 107, 8) := by decide +kernel
theorem fe_42_7 : am_fetch 42 7 = some (.iload_n 1, 1, 1, 0, 0) := by decide +kernel
theorem fe_42_8 : am_fetch 42 8 = some (.iload_n 2, 1, 1, 0, 0) := by decide +kernel
theorem fe_42_9 : am_fetch 42 9 = some (.invokevirtual 95, 3, 7, 37, 0) := by decide +kernel
theorem fe_42_12 : am_fetch 42 12 = some (.ifCond .eq 17, 3, 2, 29, 0) := by decide +kernel
theorem fe_42_15 : am_fetch 42 15 = some (.aload_n 0, 1, 1, 0, 0) := by decide +kernel
theorem fe_42_16 : am_fetch 42 16 = some (.getfield 12, 3, 3, 10, 0) := by decide +kernel
theorem fe_42_19 : am_fetch 42 19 = some (.getfield 18, 3, 3, 107, 8) := by decide +kernel
theorem fe_42_22 : am_fetch 42 22 = some (.iload_n 3, 1, 1, 0, 0) := by decide +kernel
theorem fe_42_23 : am_fetch 42 23 = some (.invokevirtual 99, 3, 7, 38, 0) := by decide +kernel
theorem fe_42_26 : am_fetch 42 26 = some (.ifCond .ne 13, 3, 2, 39, 0) := by decide +kernel
theorem fe_42_29 : am_fetch 42 29 = some (.new 102, 3, 9, 2, 0) := by decide +kernel
theorem fe_42_32 : am_fetch 42 32 = some (.dup, 1, 0, 0, 0) := by decide +kernel
theorem fe_42_39 : am_fetch 42 39 = some (.iload_n 3, 1, 1, 0, 0) := by decide +kernel
theorem fe_42_40 : am_fetch 42 40 = some (.iload_n 1, 1, 1, 0, 0) := by decide +kernel
theorem fe_42_41 : am_fetch 42 41 = some (.if_icmp .gt 13, 3, 2, 54, 0) := by decide +kernel
theorem fe_42_44 : am_fetch 42 44 = some (.new 69, 3, 9, 0, 0) := by decide +kernel
theorem fe_42_47 : am_fetch 42 47 = some (.dup, 1, 0, 0, 0) := by decide +kernel
theorem fe_42_54 : am_fetch 42 54 = some (.aload_n 0, 1, 1, 0, 0) := by decide +kernel
theorem fe_42_55 : am_fetch 42 55 = some (.getfield 52, 3, 3, 10, 4) := by decide +kernel
theorem fe_42_58 : am_fetch 42 58 = some (.aload_n 0, 1, 1, 0, 0) := by decide +kernel
theorem fe_42_59 : am_fetch 42 59 = some (.getfield 12, 3, 3, 10, 0) := by decide +kernel
theorem fe_42_62 : am_fetch 42 62 = some (.invokevirtual 87, 3, 7, 22, 0) := by decide +kernel
theorem fe_42_65 : am_fetch 42 65 = some (.aload_n 0, 1, 1, 0, 0) := by decide +kernel
theorem fe_42_66 : am_fetch 42 66 = some (.getfield 12, 3, 3, 10, 0) := by decide +kernel
theorem fe_42_69 : am_fetch 42 69 = some (.getfield 18, 3, 3, 107, 8) := by decide +kernel
theorem fe_42_72 : am_fetch 42 72 = some (.iload_n 1, 1, 1, 0, 0) := by decide +kernel
theorem fe_42_73 : am_fetch 42 73 = some (.iload_n 2, 1, 1, 0, 0) := by decide +kernel
theorem fe_42_74 : am_fetch 42 74 = some (.iload_n 3, 1, 1, 0, 0) := by decide +kernel
theorem fe_42_75 : am_fetch 42 75 = some (.invokevirtual 109, 3, 7, 41, 0) := by decide +kernel
theorem fe_42_78 : am_fetch 42 78 = some (.ireturn, 1, 8, 0, 0) := by decide +kernel
theorem fe_43_0 : am_fetch 43 0 = some (.aload 4, 2, 1, 0, 0) := by decide +kernel
theorem fe_43_2 : am_fetch 43 2 = some (.iconst 0, 1, 0, 0, 0) := by decide +kernel
theorem fe_43_3 : am_fetch 43 3 = some (.aload_n 0, 1, 1, 0, 0) := by decide +kernel
theorem fe_43_4 : am_fetch 43 4 = some (.iload_n 1, 1, 1, 0, 0) := by decide +kernel
theorem fe_43_5 : am_fetch 43 5 = some (.iload_n 2, 1, 1, 0, 0) := by decide +kernel
theorem fe_43_6 : am_fetch 43 6 = some (.iload_n 3, 1, 1, 0, 0) := by decide +kernel
theorem fe_43_7 : am_fetch 43 7 = some (.invokevirtual 17, 3, 7, 42, 0) := by decide +kernel
theorem fe_43_10 : am_fetch 43 10 = some (.i2l, 1, 0, 0, 0) := by decide +kernel
theorem fe_43_11 : am_fetch 43 11 = some (.lastore, 1, 4, 0, 0) := by decide +kernel
theorem fe_43_12 : am_fetch 43 12 = some (.goto 11, 3, 2, 23, 0) := by decide +kernel
theorem fe_43_15 : am_fetch 43 15 = some (.astore 5, 2, 1, 0, 0) := by decide +kernel
theorem fe_43_17 : am_fetch 43 17 = some (.iconst 1, 1, 0, 0, 0) := by decide +kernel
theorem fe_43_18 : am_fetch 43 18 = some (.ireturn, 1, 8, 0, 0) := by decide +kernel
theorem fe_43_19 : am_fetch 43 19 = some (.astore 5, 2, 1, 0, 0) := by decide +kernel
theorem fe_43_21 : am_fetch 43 21 = some (.iconst 2, 1, 0, 0, 0) := by decide +kernel
theorem fe_43_22 : am_fetch 43 22 = some (.ireturn, 1, 8, 0, 0) := by decide +kernel
theorem fe_43_23 : am_fetch 43 23 = some (.iconst 0, 1, 0, 0, 0) := by decide +kernel
theorem fe_43_24 : am_fetch 43 24 = some (.ireturn, 1, 8, 0, 0) := by decide +kernel
theorem fe_44_0 : am_fetch 44 0 = some (.iload_n 1, 1, 1, 0, 0) := by decide +kernel
theorem fe_44_1 : am_fetch 44 1 = some (.iconst 0, 1, 0, 0, 0) := by decide +kernel
theorem fe_44_2 : am_fetch 44 2 = some (.aload_n 0, 1, 1, 0, 0) := by decide +kernel
theorem fe_44_3 : am_fetch 44 3 = some (.getfield 7, 3, 3, 11, 0) := by decide +kernel
theorem fe_44_6 : am_fetch 44 6 = some (.iconst 1, 1, 0, 0, 0) := by decide +kernel
theorem fe_44_7 : am_fetch 44 7 = some (.iaload, 1, 3, 0, 0) := by decide +kernel
theorem fe_44_8 : am_fetch 44 8 = some (.iconst 1, 1, 0, 0, 0) := by decide +kernel
theorem fe_44_9 : am_fetch 44 9 = some (.isub, 1, 0, 0, 0) := by decide +kernel
theorem fe_44_10 : am_fetch 44 10 = some (.invokestatic 36, 3, 7, 26, 0) := by decide +kernel
theorem fe_44_13 : am_fetch 44 13 = some (.ireturn, 1, 8, 0, 0) := by decide +kernel
theorem fe_45_0 : am_fetch 45 0 = some (.iload_n 0, 1, 1, 0, 0) := by decide +kernel
theorem fe_45_1 : am_fetch 45 1 = some (.iconst 0, 1, 0, 0, 0) := by decide +kernel
theorem fe_45_2 : am_fetch 45 2 = some (.iconst 4, 1, 0, 0, 0) := by decide +kernel
theorem fe_45_3 : am_fetch 45 3 = some (.invokestatic 36, 3, 7, 26, 0) := by decide +kernel
theorem fe_45_6 : am_fetch 45 6 = some (.ireturn, 1, 8, 0, 0) := by decide +kernel
theorem fe_46_0 : am_fetch 46 0 = some (.aload_n 0, 1, 1, 0, 0) := by decide +kernel
theorem fe_46_1 : am_fetch 46 1 = some (.iload_n 1, 1, 1, 0, 0) := by decide +kernel
theorem fe_46_2 : am_fetch 46 2 = some (.invokevirtual 40, 3, 7, 44, 0) := by decide +kernel
theorem fe_46_5 : am_fetch 46 5 = some (.ifCond .ne 13, 3, 2, 18, 0) := by decide +kernel
theorem fe_46_8 : am_fetch 46 8 = some (.iload_n 1, 1, 1, 0, 0) := by decide +kernel
theorem fe_46_9 : am_fetch 46 9 = some (.bipush 20, 2, 0, 0, 0) := by decide +kernel
theorem fe_46_11 : am_fetch 46 11 = some (.isub, 1, 0, 0, 0) := by decide +kernel
theorem fe_46_12 : am_fetch 46 12 = some (.invokestatic 44, 3, 7, 45, 0) := by decide +kernel
theorem fe_46_15 : am_fetch 46 15 = some (.ifCond .eq 7, 3, 2, 22, 0) := by decide +kernel
theorem fe_46_18 : am_fetch 46 18 = some (.iconst 1, 1, 0, 0, 0) := by decide +kernel
theorem fe_46_19 : am_fetch 46 19 = some (.goto 4, 3, 2, 23, 0) := by decide +kernel
theorem fe_46_22 : am_fetch 46 22 = some (.iconst 0, 1, 0, 0, 0) := by decide +kernel
theorem fe_46_23 : am_fetch 46 23 = some (.ireturn, 1, 8, 0, 0) := by decide +kernel
theorem fe_47_0 : am_fetch 47 0 = some (.aload_n 0, 1, 1, 0, 0) := by decide +kernel
theorem fe_47_1 : am_fetch 47 1 = some (.iload_n 1, 1, 1, 0, 0) := by decide +kernel
theorem fe_47_2 : am_fetch 47 2 = some (.invokevirtual 40, 3, 7, 44, 0) := by decide +kernel
theorem fe_47_5 : am_fetch 47 5 = some (.ifCond .eq 24, 3, 2, 29, 0) := by decide +kernel
theorem fe_47_8 : am_fetch 47 8 = some (.iload_n 2, 1, 1, 0, 0) := by decide +kernel
theorem fe_47_9 : am_fetch 47 9 = some (.iconst 0, 1, 0, 0, 0) := by decide +kernel
theorem fe_47_10 : am_fetch 47 10 = some (.iconst 1, 1, 0, 0, 0) := by decide +kernel
theorem fe_47_11 : am_fetch 47 11 = some (.invokestatic 36, 3, 7, 26, 0) := by decide +kernel
theorem fe_47_14 : am_fetch 47 14 = some (.ifCond .eq 15, 3, 2, 29, 0) := by decide +kernel
theorem fe_47_17 : am_fetch 47 17 = some (.aload_n 0, 1, 1, 0, 0) := by decide +kernel
theorem fe_47_18 : am_fetch 47 18 = some (.iload_n 3, 1, 1, 0, 0) := by decide +kernel
theorem fe_47_19 : am_fetch 47 19 = some (.invokevirtual 82, 3, 7, 46, 0) := by decide +kernel
theorem fe_47_22 : am_fetch 47 22 = some (.ifCond .eq 7, 3, 2, 29, 0) := by decide +kernel
theorem fe_47_25 : am_fetch 47 25 = some (.iconst 1, 1, 0, 0, 0) := by decide +kernel
theorem fe_47_26 : am_fetch 47 26 = some (.goto 4, 3, 2, 30, 0) := by decide +kernel
theorem fe_47_29 : am_fetch 47 29 = some (.iconst 0, 1, 0, 0, 0) := by decide +kernel
theorem fe_47_30 : am_fetch 47 30 = some (.istore 4, 2, 1, 0, 0) := by decide +kernel
theorem fe_47_32 : am_fetch 47 32 = some (.iload 4, 2, 1, 0, 0) := by decide +kernel
theorem fe_47_34 : am_fetch 47 34 = some (.ifCond .ne 7, 3, 2, 41, 0) := by decide +kernel
theorem fe_47_37 : am_fetch 47 37 = some (.iconst 1, 1, 0, 0, 0) := by decide +kernel
theorem fe_47_38 : am_fetch 47 38 = some (.goto 13, 3, 2, 51, 0) := by decide +kernel
theorem fe_47_41 : am_fetch 47 41 = some (.iload_n 3, 1, 1, 0, 0) := by decide +kernel
theorem fe_47_42 : am_fetch 47 42 = some (.iload_n 1, 1, 1, 0, 0) := by decide +kernel
theorem fe_47_43 : am_fetch 47 43 = some (.if_icmp .gt 7, 3, 2, 50, 0) := by decide +kernel
theorem fe_47_46 : am_fetch 47 46 = some (.iconst 2, 1, 0, 0, 0) := by decide +kernel
theorem fe_47_47 : am_fetch 47 47 = some (.goto 4, 3, 2, 51, 0) := by decide +kernel
theorem fe_47_50 : am_fetch 47 50 = some (.iconst 0, 1, 0, 0, 0) := by decide +kernel
theorem fe_47_51 : am_fetch 47 51 = some (.ireturn, 1, 8, 0, 0) := by decide +kernel
theorem fe_48_0 : am_fetch 48 0 = some (.aload_n 0, 1, 1, 0, 0) := by decide +kernel
theorem fe_48_1 : am_fetch 48 1 = some (.getfield 7, 3, 3, 11, 0) := by decide +kernel
theorem fe_48_4 : am_fetch 48 4 = some (.bipush 11, 2, 0, 0, 0) := by decide +kernel
theorem fe_48_6 : am_fetch 48 6 = some (.bipush 7, 2, 0, 0, 0) := by decide +kernel
theorem fe_48_8 : am_fetch 48 8 = some (.iload_n 1, 1, 1, 0, 0) := by decide +kernel
theorem fe_48_9 : am_fetch 48 9 = some (.imul, 1, 0, 0, 0) := by decide +kernel
theorem fe_48_10 : am_fetch 48 10 = some (.iadd, 1, 0, 0, 0) := by decide +kernel
theorem fe_48_11 : am_fetch 48 11 = some (.iload_n 2, 1, 1, 0, 0) := by decide +kernel
theorem fe_48_12 : am_fetch 48 12 = some (.iadd, 1, 0, 0, 0) := by decide +kernel
theorem fe_48_13 : am_fetch 48 13 = some (.iaload, 1, 3, 0, 0) := by decide +kernel
theorem fe_48_14 : am_fetch 48 14 = some (.ireturn, 1, 8, 0, 0) := by decide +kernel
theorem fe_49_0 : am_fetch 49 0 = some (.aload_n 0, 1, 1, 0, 0) := by decide +kernel
theorem fe_49_1 : am_fetch 49 1 = some (.iload_n 1, 1, 1, 0, 0) := by decide +kernel
theorem fe_49_2 : am_fetch 49 2 = some (.iconst 2, 1, 0, 0, 0) := by decide +kernel
theorem fe_49_3 : am_fetch 49 3 = some (.iload_n 2, 1, 1, 0, 0) := by decide +kernel
theorem fe_49_4 : am_fetch 49 4 = some (.iadd, 1, 0, 0, 0) := by decide +kernel
theorem fe_49_5 : am_fetch 49 5 = some (.invokevirtual 54, 3, 7, 48, 0) := by decide +kernel
theorem fe_49_8 : am_fetch 49 8 = some (.istore 4, 2, 1, 0, 0) := by decide +kernel
theorem fe_49_10 : am_fetch 49 10 = some (.aload_n 0, 1, 1, 0, 0) := by decide +kernel
theorem fe_49_11 : am_fetch 49 11 = some (.iload_n 1, 1, 1, 0, 0) := by decide +kernel
theorem fe_49_12 : am_fetch 49 12 = some (.iconst 2, 1, 0, 0, 0) := by decide +kernel
theorem fe_49_13 : am_fetch 49 13 = some (.iload_n 2, 1, 1, 0, 0) := by decide +kernel
theorem fe_49_14 : am_fetch 49 14 = some (.iadd, 1, 0, 0, 0) := by decide +kernel
theorem fe_49_15 : am_fetch 49 15 = some (.iload_n 3, 1, 1, 0, 0) := by decide +kernel
theorem fe_49_16 : am_fetch 49 16 = some (.invokevirtual 62, 3, 7, 32, 0) := by decide +kernel
theorem fe_49_19 : am_fetch 49 19 = some (.iload 4, 2, 1, 0, 0) := by decide +kernel
theorem fe_49_21 : am_fetch 49 21 = some (.ireturn, 1, 8, 0, 0) := by decide +kernel
theorem fe_50_0 : am_fetch 50 0 = some (.aload_n 0, 1, 1, 0, 0) := by decide +kernel
theorem fe_50_1 : am_fetch 50 1 = some (.aload_n 0, 1, 1, 0, 0) := by decide +kernel
theorem fe_50_2 : am_fetch 50 2 = some (.iload_n 1, 1, 1, 0, 0) := by decide +kernel
theorem fe_50_3 : am_fetch 50 3 = some (.iload_n 2, 1, 1, 0, 0) := by decide +kernel
theorem fe_50_4 : am_fetch 50 4 = some (.iload_n 3, 1, 1, 0, 0) := by decide +kernel
theorem fe_50_5 : am_fetch 50 5 = some (.invokevirtual 100, 3, 7, 47, 0) := by decide +kernel
theorem fe_50_8 : am_fetch 50 8 = some (.invokevirtual 91, 3, 7, 29, 0) := by decide +kernel
theorem fe_50_11 : am_fetch 50 11 = some (.ifCond .ne 5, 3, 2, 16, 0) := by decide +kernel
theorem fe_50_14 : am_fetch 50 14 = some (.iconst 0, 1, 0, 0, 0) := by decide +kernel
theorem fe_50_15 : am_fetch 50 15 = some (.ireturn, 1, 8, 0, 0) := by decide +kernel
theorem fe_50_16 : am_fetch 50 16 = some (.aload_n 0, 1, 1, 0, 0) := by decide +kernel
theorem fe_50_17 : am_fetch 50 17 = some (.invokevirtual 94, 3, 7, 31, 0) := by decide +kernel
theorem fe_50_20 : am_fetch 50 20 = some (.aload_n 0, 1, 1, 0, 0) := by decide +kernel
theorem fe_50_21 : am_fetch 50 21 = some (.iload_n 1, 1, 1, 0, 0) := by decide +kernel
theorem fe_50_22 : am_fetch 50 22 = some (.iload_n 2, 1, 1, 0, 0) := by decide +kernel
theorem fe_50_23 : am_fetch 50 23 = some (.iload_n 3, 1, 1, 0, 0) := by decide +kernel
theorem fe_50_24 : am_fetch 50 24 = some (.invokevirtual 104, 3, 7, 49, 0) := by decide +kernel
theorem fe_50_27 : am_fetch 50 27 = some (.ireturn, 1, 8, 0, 0) := by decide +kernel
theorem fe_51_0 : am_fetch 51 0 = some (.aload_n 0, 1, 1, 0, 0) := by decide +kernel
theorem fe_51_1 : am_fetch 51 1 = some (.getfield 20, 3, 3, 1, 2) := by decide +kernel
theorem fe_51_4 : am_fetch 51 4 = some (.iload_n 1, 1, 1, 0, 0) := by decide +kernel
theorem fe_51_5 : am_fetch 51 5 = some (.iload_n 2, 1, 1, 0, 0) := by decide +kernel
theorem fe_51_6 : am_fetch 51 6 = some (.invokevirtual 48, 3, 7, 40, 0) := by decide +kernel
theorem fe_51_9 : am_fetch 51 9 = some (.ireturn, 1, 8, 0, 0) := by decide +kernel
theorem fe_52_0 : am_fetch 52 0 = some (.aload_n 0, 1, 1, 0, 0) := by decide +kernel
theorem fe_52_1 : am_fetch 52 1 = some (.getfield 12, 3, 3, 10, 0) := by decide +kernel
theorem fe_52_4 : am_fetch 52 4 = some (.getfield 18, 3, 3, 107, 8) := by decide +kernel
theorem fe_52_7 : am_fetch 52 7 = some (.iload_n 1, 1, 1, 0, 0) := by decide +kernel
theorem fe_52_8 : am_fetch 52 8 = some (.invokevirtual 113, 3, 7, 36, 0) := by decide +kernel
theorem fe_52_11 : am_fetch 52 11 = some (.ifCond .ne 13, 3, 2, 24, 0) := by decide +kernel
theorem fe_52_14 : am_fetch 52 14 = some (.new 102, 3, 9, 2, 0) := by decide +kernel
theorem fe_52_17 : am_fetch 52 17 = some (.dup, 1, 0, 0, 0) := by decide +kernel
theorem fe_52_24 : am_fetch 52 24 = some (.iload_n 2, 1, 1, 0, 0) := by decide +kernel
theorem fe_52_25 : am_fetch 52 25 = some (.invokestatic 65, 3, 7, 13, 0) := by decide +kernel
theorem fe_52_28 : am_fetch 52 28 = some (.ifCond .ne 13, 3, 2, 41, 0) := by decide +kernel
theorem fe_52_31 : am_fetch 52 31 = some (.new 69, 3, 9, 0, 0) := by decide +kernel
theorem fe_52_34 : am_fetch 52 34 = some (.dup, 1, 0, 0, 0) := by decide +kernel
theorem fe_52_41 : am_fetch 52 41 = some (.aload_n 0, 1, 1, 0, 0) := by decide +kernel
theorem fe_52_42 : am_fetch 52 42 = some (.getfield 52, 3, 3, 10, 4) := by decide +kernel
theorem fe_52_45 : am_fetch 52 45 = some (.aload_n 0, 1, 1, 0, 0) := by decide +kernel
theorem fe_52_46 : am_fetch 52 46 = some (.getfield 12, 3, 3, 10, 0) := by decide +kernel
theorem fe_52_49 : am_fetch 52 49 = some (.invokevirtual 87, 3, 7, 22, 0) := by decide +kernel
theorem fe_52_52 : am_fetch 52 52 = some (.aload_n 0, 1, 1, 0, 0) := by decide +kernel
theorem fe_52_53 : am_fetch 52 53 = some (.getfield 12, 3, 3, 10, 0) := by decide +kernel
theorem fe_52_56 : am_fetch 52 56 = some (.getfield 18, 3, 3, 107, 8) := by decide +kernel
theorem fe_52_59 : am_fetch 52 59 = some (.iload_n 1, 1, 1, 0, 0) := by decide +kernel
theorem fe_52_60 : am_fetch 52 60 = some (.iload_n 2, 1, 1, 0, 0) := by decide +kernel
theorem fe_52_61 : am_fetch 52 61 = some (.invokevirtual 118, 3, 7, 51, 0) := by decide +kernel
theorem fe_52_64 : am_fetch 52 64 = some (.ireturn, 1, 8, 0, 0) := by decide +kernel
theorem fe_53_0 : am_fetch 53 0 = some (.aload_n 3, 1, 1, 0, 0) := by decide +kernel
theorem fe_53_1 : am_fetch 53 1 = some (.iconst 0, 1, 0, 0, 0) := by decide +kernel
theorem fe_53_2 : am_fetch 53 2 = some (.aload_n 0, 1, 1, 0, 0) := by decide +kernel
theorem fe_53_3 : am_fetch 53 3 = some (.iload_n 1, 1, 1, 0, 0) := by decide +kernel
theorem fe_53_4 : am_fetch 53 4 = some (.iload_n 2, 1, 1, 0, 0) := by decide +kernel
theorem fe_53_5 : am_fetch 53 5 = some (.invokevirtual 23, 3, 7, 52, 0) := by decide +kernel
theorem fe_53_8 : am_fetch 53 8 = some (.i2l, 1, 0, 0, 0) := by decide +kernel
theorem fe_53_9 : am_fetch 53 9 = some (.lastore, 1, 4, 0, 0) := by decide +kernel
theorem fe_53_10 : am_fetch 53 10 = some (.goto 11, 3, 2, 21, 0) := by decide +kernel
theorem fe_53_13 : am_fetch 53 13 = some (.astore 4, 2, 1, 0, 0) := by decide +kernel
theorem fe_53_15 : am_fetch 53 15 = some (.iconst 1, 1, 0, 0, 0) := by decide +kernel
theorem fe_53_16 : am_fetch 53 16 = some (.ireturn, 1, 8, 0, 0) := by decide +kernel
theorem fe_53_17 : am_fetch 53 17 = some (.astore 4, 2, 1, 0, 0) := by decide +kernel
theorem fe_53_19 : am_fetch 53 19 = some (.iconst 2, 1, 0, 0, 0) := by decide +kernel
theorem fe_53_20 : am_fetch 53 20 = some (.ireturn, 1, 8, 0, 0) := by decide +kernel
theorem fe_53_21 : am_fetch 53 21 = some (.iconst 0, 1, 0, 0, 0) := by decide +kernel
theorem fe_53_22 : am_fetch 53 22 = some (.ireturn, 1, 8, 0, 0) := by decide +kernel
theorem fe_54_0 : am_fetch 54 0 = some (.aload_n 0, 1, 1, 0, 0) := by decide +kernel
theorem fe_54_1 : am_fetch 54 1 = some (.aload_n 0, 1, 1, 0, 0) := by decide +kernel
theorem fe_54_2 : am_fetch 54 2 = some (.iload_n 1, 1, 1, 0, 0) := by decide +kernel
theorem fe_54_3 : am_fetch 54 3 = some (.invokevirtual 40, 3, 7, 44, 0) := by decide +kernel
theorem fe_54_6 : am_fetch 54 6 = some (.ifCond .ne 7, 3, 2, 13, 0) := by decide +kernel
theorem fe_54_9 : am_fetch 54 9 = some (.iconst 1, 1, 0, 0, 0) := by decide +kernel
theorem fe_54_10 : am_fetch 54 10 = some (.goto 15, 3, 2, 25, 0) := by decide +kernel
theorem fe_54_13 : am_fetch 54 13 = some (.iload_n 2, 1, 1, 0, 0) := by decide +kernel
theorem fe_54_14 : am_fetch 54 14 = some (.invokestatic 79, 3, 7, 27, 0) := by decide +kernel
theorem fe_54_17 : am_fetch 54 17 = some (.ifCond .ne 7, 3, 2, 24, 0) := by decide +kernel
theorem fe_54_20 : am_fetch 54 20 = some (.iconst 2, 1, 0, 0, 0) := by decide +kernel
theorem fe_54_21 : am_fetch 54 21 = some (.goto 4, 3, 2, 25, 0) := by decide +kernel
theorem fe_54_24 : am_fetch 54 24 = some (.iconst 0, 1, 0, 0, 0) := by decide +kernel
theorem fe_54_25 : am_fetch 54 25 = some (.invokevirtual 91, 3, 7, 29, 0) := by decide +kernel
theorem fe_54_28 : am_fetch 54 28 = some (.ifCond .ne 5, 3, 2, 33, 0) := by decide +kernel
theorem fe_54_31 : am_fetch 54 31 = some (.iconst 0, 1, 0, 0, 0) := by decide +kernel
theorem fe_54_32 : am_fetch 54 32 = some (.ireturn, 1, 8, 0, 0) := by decide +kernel
theorem fe_54_33 : am_fetch 54 33 = some (.aload_n 0, 1, 1, 0, 0) := by decide +kernel
theorem fe_54_34 : am_fetch 54 34 = some (.invokevirtual 94, 3, 7, 31, 0) := by decide +kernel
theorem fe_54_37 : am_fetch 54 37 = some (.aload_n 0, 1, 1, 0, 0) := by decide +kernel
theorem fe_54_38 : am_fetch 54 38 = some (.iload_n 1, 1, 1, 0, 0) := by decide +kernel
theorem fe_54_39 : am_fetch 54 39 = some (.iconst 1, 1, 0, 0, 0) := by decide +kernel
theorem fe_54_40 : am_fetch 54 40 = some (.invokevirtual 54, 3, 7, 48, 0) := by decide +kernel
theorem fe_54_43 : am_fetch 54 43 = some (.istore_n 3, 1, 1, 0, 0) := by decide +kernel
theorem fe_54_44 : am_fetch 54 44 = some (.aload_n 0, 1, 1, 0, 0) := by decide +kernel
theorem fe_54_45 : am_fetch 54 45 = some (.iload_n 1, 1, 1, 0, 0) := by decide +kernel
theorem fe_54_46 : am_fetch 54 46 = some (.iconst 1, 1, 0, 0, 0) := by decide +kernel
theorem fe_54_47 : am_fetch 54 47 = some (.iload_n 2, 1, 1, 0, 0) := by decide +kernel
theorem fe_54_48 : am_fetch 54 48 = some (.invokevirtual 62, 3, 7, 32, 0) := by decide +kernel
theorem fe_54_51 : am_fetch 54 51 = some (.iload_n 3, 1, 1, 0, 0) := by decide +kernel
theorem fe_54_52 : am_fetch 54 52 = some (.ireturn, 1, 8, 0, 0) := by decide +kernel
theorem fe_55_0 : am_fetch 55 0 = some (.iload_n 1, 1, 1, 0, 0) := by decide +kernel
theorem fe_55_1 : am_fetch 55 1 = some (.ifCond .lt 22, 3, 2, 23, 0) := by decide +kernel
theorem fe_55_4 : am_fetch 55 4 = some (.iload_n 1, 1, 1, 0, 0) := by decide +kernel
theorem fe_55_5 : am_fetch 55 5 = some (.aload_n 0, 1, 1, 0, 0) := by decide +kernel
theorem fe_55_6 : am_fetch 55 6 = some (.getfield 13, 3, 3, 6, 0) := by decide +kernel
theorem fe_55_9 : am_fetch 55 9 = some (.arraylength, 1, 3, 0, 0) := by decide +kernel
theorem fe_55_10 : am_fetch 55 10 = some (.if_icmp .ge 13, 3, 2, 23, 0) := by decide +kernel
theorem fe_55_13 : am_fetch 55 13 = some (.aload_n 0, 1, 1, 0, 0) := by decide +kernel
theorem fe_55_14 : am_fetch 55 14 = some (.getfield 13, 3, 3, 6, 0) := by decide +kernel
theorem fe_55_17 : am_fetch 55 17 = some (.iload_n 1, 1, 1, 0, 0) := by decide +kernel
theorem fe_55_18 : am_fetch 55 18 = some (.dup2, 1, 0, 0, 0) := by decide +kernel
theorem fe_55_19 : am_fetch 55 19 = some (.iaload, 1, 3, 0, 0) := by decide +kernel
theorem fe_55_20 : am_fetch 55 20 = some (.iload_n 2, 1, 1, 0, 0) := by decide +kernel
theorem fe_55_21 : am_fetch 55 21 = some (.iadd, 1, 0, 0, 0) := by decide +kernel
theorem fe_55_22 : am_fetch 55 22 = some (.iastore, 1, 4, 0, 0) := by decide +kernel
theorem fe_55_23 : am_fetch 55 23 = some (.return_, 1, 8, 0, 0) := by decide +kernel
theorem fe_56_0 : am_fetch 56 0 = some (.aload_n 0, 1, 1, 0, 0) := by decide +kernel
theorem fe_56_1 : am_fetch 56 1 = some (.getfield 23, 3, 3, 1, 3) := by decide +kernel
theorem fe_56_4 : am_fetch 56 4 = some (.iload_n 1, 1, 1, 0, 0) := by decide +kernel
theorem fe_56_5 : am_fetch 56 5 = some (.iconst 1, 1, 0, 0, 0) := by decide +kernel
theorem fe_56_6 : am_fetch 56 6 = some (.invokevirtual 52, 3, 7, 55, 0) := by decide +kernel
theorem fe_56_9 : am_fetch 56 9 = some (.aload_n 0, 1, 1, 0, 0) := by decide +kernel
theorem fe_56_10 : am_fetch 56 10 = some (.getfield 14, 3, 3, 1, 1) := by decide +kernel
theorem fe_56_13 : am_fetch 56 13 = some (.iload_n 1, 1, 1, 0, 0) := by decide +kernel
theorem fe_56_14 : am_fetch 56 14 = some (.iconst 1, 1, 0, 0, 0) := by decide +kernel
theorem fe_56_15 : am_fetch 56 15 = some (.aload_n 0, 1, 1, 0, 0) := by decide +kernel
theorem fe_56_16 : am_fetch 56 16 = some (.getfield 14, 3, 3, 1, 1) := by decide +kernel
theorem fe_56_19 : am_fetch 56 19 = some (.iload_n 1, 1, 1, 0, 0) := by decide +kernel
theorem fe_56_20 : am_fetch 56 20 = some (.invokevirtual 55, 3, 7, 39, 0) := by decide +kernel
theorem fe_56_23 : am_fetch 56 23 = some (.isub, 1, 0, 0, 0) := by decide +kernel
theorem fe_56_24 : am_fetch 56 24 = some (.invokevirtual 44, 3, 7, 4, 0) := by decide +kernel
theorem fe_56_27 : am_fetch 56 27 = some (.aload_n 0, 1, 1, 0, 0) := by decide +kernel
theorem fe_56_28 : am_fetch 56 28 = some (.getfield 14, 3, 3, 1, 1) := by decide +kernel
theorem fe_56_31 : am_fetch 56 31 = some (.iload_n 1, 1, 1, 0, 0) := by decide +kernel
theorem fe_56_32 : am_fetch 56 32 = some (.invokevirtual 55, 3, 7, 39, 0) := by decide +kernel
theorem fe_56_35 : am_fetch 56 35 = some (.ireturn, 1, 8, 0, 0) := by decide +kernel
theorem fe_57_0 : am_fetch 57 0 = some (.aload_n 0, 1, 1, 0, 0) := by decide +kernel
theorem fe_57_1 : am_fetch 57 1 = some (.getfield 12, 3, 3, 10, 0) := by decide +kernel
theorem fe_57_4 : am_fetch 57 4 = some (.getfield 18, 3, 3, 107, 8) := by decide +kernel
theorem fe_57_7 : am_fetch 57 7 = some (.iload_n 1, 1, 1, 0, 0) := by decide +kernel
theorem fe_57_8 : am_fetch 57 8 = some (.invokevirtual 113, 3, 7, 36, 0) := by decide +kernel
theorem fe_57_11 : am_fetch 57 11 = some (.ifCond .ne 13, 3, 2, 24, 0) := by decide +kernel
theorem fe_57_14 : am_fetch 57 14 = some (.new 102, 3, 9, 2, 0) := by decide +kernel
theorem fe_57_17 : am_fetch 57 17 = some (.dup, 1, 0, 0, 0) := by decide +kernel
theorem fe_57_24 : am_fetch 57 24 = some (.aload_n 0, 1, 1, 0, 0) := by decide +kernel
theorem fe_57_25 : am_fetch 57 25 = some (.getfield 52, 3, 3, 10, 4) := by decide +kernel
theorem fe_57_28 : am_fetch 57 28 = some (.aload_n 0, 1, 1, 0, 0) := by decide +kernel
theorem fe_57_29 : am_fetch 57 29 = some (.getfield 12, 3, 3, 10, 0) := by decide +kernel
theorem fe_57_32 : am_fetch 57 32 = some (.invokevirtual 87, 3, 7, 22, 0) := by decide +kernel
theorem fe_57_35 : am_fetch 57 35 = some (.aload_n 0, 1, 1, 0, 0) := by decide +kernel
theorem fe_57_36 : am_fetch 57 36 = some (.getfield 12, 3, 3, 10, 0) := by decide +kernel
theorem fe_57_39 : am_fetch 57 39 = some (.getfield 18, 3, 3, 107, 8) := by decide +kernel
theorem fe_57_42 : am_fetch 57 42 = some (.iload_n 1, 1, 1, 0, 0) := by decide +kernel
theorem fe_57_43 : am_fetch 57 43 = some (.invokevirtual 122, 3, 7, 56, 0) := by decide +kernel
theorem fe_57_46 : am_fetch 57 46 = some (.ireturn, 1, 8, 0, 0) := by decide +kernel
theorem fe_58_0 : am_fetch 58 0 = some (.aload_n 2, 1, 1, 0, 0) := by decide +kernel
theorem fe_58_1 : am_fetch 58 1 = some (.iconst 0, 1, 0, 0, 0) := by decide +kernel
theorem fe_58_2 : am_fetch 58 2 = some (.aload_n 0, 1, 1, 0, 0) := by decide +kernel
theorem fe_58_3 : am_fetch 58 3 = some (.iload_n 1, 1, 1, 0, 0) := by decide +kernel
theorem fe_58_4 : am_fetch 58 4 = some (.invokevirtual 27, 3, 7, 57, 0) := by decide +kernel
theorem fe_58_7 : am_fetch 58 7 = some (.i2l, 1, 0, 0, 0) := by decide +kernel
theorem fe_58_8 : am_fetch 58 8 = some (.lastore, 1, 4, 0, 0) := by decide +kernel
theorem fe_58_9 : am_fetch 58 9 = some (.goto 6, 3, 2, 15, 0) := by decide +kernel
theorem fe_58_12 : am_fetch 58 12 = some (.astore_n 3, 1, 1, 0, 0) := by decide +kernel
theorem fe_58_13 : am_fetch 58 13 = some (.iconst 1, 1, 0, 0, 0) := by decide +kernel
theorem fe_58_14 : am_fetch 58 14 = some (.ireturn, 1, 8, 0, 0) := by decide +kernel
theorem fe_58_15 : am_fetch 58 15 = some (.iconst 0, 1, 0, 0, 0) := by decide +kernel
theorem fe_58_16 : am_fetch 58 16 = some (.ireturn, 1, 8, 0, 0) := by decide +kernel
theorem fe_59_0 : am_fetch 59 0 = some (.aload_n 0, 1, 1, 0, 0) := by decide +kernel
theorem fe_59_1 : am_fetch 59 1 = some (.iload_n 1, 1, 1, 0, 0) := by decide +kernel
theorem fe_59_2 : am_fetch 59 2 = some (.iconst 0, 1, 0, 0, 0) := by decide +kernel
theorem fe_59_3 : am_fetch 59 3 = some (.iconst 1, 1, 0, 0, 0) := by decide +kernel
theorem fe_59_4 : am_fetch 59 4 = some (.aload_n 0, 1, 1, 0, 0) := by decide +kernel
theorem fe_59_5 : am_fetch 59 5 = some (.iload_n 1, 1, 1, 0, 0) := by decide +kernel
theorem fe_59_6 : am_fetch 59 6 = some (.iconst 0, 1, 0, 0, 0) := by decide +kernel
theorem fe_59_7 : am_fetch 59 7 = some (.invokevirtual 54, 3, 7, 48, 0) := by decide +kernel
theorem fe_59_10 : am_fetch 59 10 = some (.isub, 1, 0, 0, 0) := by decide +kernel
theorem fe_59_11 : am_fetch 59 11 = some (.invokevirtual 62, 3, 7, 32, 0) := by decide +kernel
theorem fe_59_14 : am_fetch 59 14 = some (.aload_n 0, 1, 1, 0, 0) := by decide +kernel
theorem fe_59_15 : am_fetch 59 15 = some (.iload_n 1, 1, 1, 0, 0) := by decide +kernel
theorem fe_59_16 : am_fetch 59 16 = some (.bipush 6, 2, 0, 0, 0) := by decide +kernel
theorem fe_59_18 : am_fetch 59 18 = some (.aload_n 0, 1, 1, 0, 0) := by decide +kernel
theorem fe_59_19 : am_fetch 59 19 = some (.iload_n 1, 1, 1, 0, 0) := by decide +kernel
theorem fe_59_20 : am_fetch 59 20 = some (.bipush 6, 2, 0, 0, 0) := by decide +kernel
theorem fe_59_22 : am_fetch 59 22 = some (.invokevirtual 54, 3, 7, 48, 0) := by decide +kernel
theorem fe_59_25 : am_fetch 59 25 = some (.iconst 1, 1, 0, 0, 0) := by decide +kernel
theorem fe_59_26 : am_fetch 59 26 = some (.iadd, 1, 0, 0, 0) := by decide +kernel
theorem fe_59_27 : am_fetch 59 27 = some (.invokevirtual 62, 3, 7, 32, 0) := by decide +kernel
theorem fe_59_30 : am_fetch 59 30 = some (.aload_n 0, 1, 1, 0, 0) := by decide +kernel
theorem fe_59_31 : am_fetch 59 31 = some (.iload_n 1, 1, 1, 0, 0) := by decide +kernel
theorem fe_59_32 : am_fetch 59 32 = some (.iconst 0, 1, 0, 0, 0) := by decide +kernel
theorem fe_59_33 : am_fetch 59 33 = some (.invokevirtual 54, 3, 7, 48, 0) := by decide +kernel
theorem fe_59_36 : am_fetch 59 36 = some (.ireturn, 1, 8, 0, 0) := by decide +kernel
theorem fe_60_0 : am_fetch 60 0 = some (.aload_n 0, 1, 1, 0, 0) := by decide +kernel
theorem fe_60_1 : am_fetch 60 1 = some (.aload_n 0, 1, 1, 0, 0) := by decide +kernel
theorem fe_60_2 : am_fetch 60 2 = some (.iload_n 1, 1, 1, 0, 0) := by decide +kernel
theorem fe_60_3 : am_fetch 60 3 = some (.invokevirtual 40, 3, 7, 44, 0) := by decide +kernel
theorem fe_60_6 : am_fetch 60 6 = some (.ifCond .eq 7, 3, 2, 13, 0) := by decide +kernel
theorem fe_60_9 : am_fetch 60 9 = some (.iconst 0, 1, 0, 0, 0) := by decide +kernel
theorem fe_60_10 : am_fetch 60 10 = some (.goto 4, 3, 2, 14, 0) := by decide +kernel
theorem fe_60_13 : am_fetch 60 13 = some (.iconst 1, 1, 0, 0, 0) := by decide +kernel
theorem fe_60_14 : am_fetch 60 14 = some (.invokevirtual 91, 3, 7, 29, 0) := by decide +kernel
theorem fe_60_17 : am_fetch 60 17 = some (.ifCond .ne 5, 3, 2, 22, 0) := by decide +kernel
theorem fe_60_20 : am_fetch 60 20 = some (.iconst 0, 1, 0, 0, 0) := by decide +kernel
theorem fe_60_21 : am_fetch 60 21 = some (.ireturn, 1, 8, 0, 0) := by decide +kernel
theorem fe_60_22 : am_fetch 60 22 = some (.aload_n 0, 1, 1, 0, 0) := by decide +kernel
theorem fe_60_23 : am_fetch 60 23 = some (.invokevirtual 94, 3, 7, 31, 0) := by decide +kernel
theorem fe_60_26 : am_fetch 60 26 = some (.aload_n 0, 1, 1, 0, 0) := by decide +kernel
theorem fe_60_27 : am_fetch 60 27 = some (.iload_n 1, 1, 1, 0, 0) := by decide +kernel
theorem fe_60_28 : am_fetch 60 28 = some (.invokevirtual 107, 3, 7, 59, 0) := by decide +kernel
theorem fe_60_31 : am_fetch 60 31 = some (.ireturn, 1, 8, 0, 0) := by decide +kernel
theorem fe_61_0 : am_fetch 61 0 = some (.iload_n 1, 1, 1, 0, 0) := by decide +kernel
theorem fe_61_1 : am_fetch 61 1 = some (.ifCond .eq 18, 3, 2, 19, 0) := by decide +kernel
theorem fe_61_4 : am_fetch 61 4 = some (.iload_n 1, 1, 1, 0, 0) := by decide +kernel
theorem fe_61_5 : am_fetch 61 5 = some (.iconst 1, 1, 0, 0, 0) := by decide +kernel
theorem fe_61_6 : am_fetch 61 6 = some (.if_icmp .eq 13, 3, 2, 19, 0) := by decide +kernel
theorem fe_61_9 : am_fetch 61 9 = some (.new 102, 3, 9, 2, 0) := by decide +kernel
theorem fe_61_12 : am_fetch 61 12 = some (.dup, 1, 0, 0, 0) := by decide +kernel
theorem fe_61_19 : am_fetch 61 19 = some (.iload_n 2, 1, 1, 0, 0) := by decide +kernel
theorem fe_61_20 : am_fetch 61 20 = some (.iconst 1, 1, 0, 0, 0) := by decide +kernel
theorem fe_61_21 : am_fetch 61 21 = some (.if_icmp .lt 18, 3, 2, 39, 0) := by decide +kernel
theorem fe_61_24 : am_fetch 61 24 = some (.iload_n 2, 1, 1, 0, 0) := by decide +kernel
theorem fe_61_25 : am_fetch 61 25 = some (.iload_n 1, 1, 1, 0, 0) := by decide +kernel
theorem fe_61_26 : am_fetch 61 26 = some (.ifCond .ne 8, 3, 2, 34, 0) := by decide +kernel
theorem fe_61_29 : am_fetch 61 29 = some (.bipush 9, 2, 0, 0, 0) := by decide +kernel
theorem fe_61_31 : am_fetch 61 31 = some (.goto 5, 3, 2, 36, 0) := by decide +kernel
theorem fe_61_34 : am_fetch 61 34 = some (.bipush 40, 2, 0, 0, 0) := by decide +kernel
theorem fe_61_36 : am_fetch 61 36 = some (.if_icmp .le 13, 3, 2, 49, 0) := by decide +kernel
theorem fe_61_39 : am_fetch 61 39 = some (.new 69, 3, 9, 0, 0) := by decide +kernel
theorem fe_61_42 : am_fetch 61 42 = some (.dup, 1, 0, 0, 0) := by decide +kernel
theorem fe_61_49 : am_fetch 61 49 = some (.aload_n 0, 1, 1, 0, 0) := by decide +kernel
theorem fe_61_50 : am_fetch 61 50 = some (.getfield 52, 3, 3, 10, 4) := by decide +kernel
theorem fe_61_53 : am_fetch 61 53 = some (.aload_n 0, 1, 1, 0, 0) := by decide +kernel
theorem fe_61_54 : am_fetch 61 54 = some (.getfield 12, 3, 3, 10, 0) := by decide +kernel
theorem fe_61_57 : am_fetch 61 57 = some (.invokevirtual 87, 3, 7, 22, 0) := by decide +kernel
theorem fe_61_60 : am_fetch 61 60 = some (.aload_n 0, 1, 1, 0, 0) := by decide +kernel
theorem fe_61_61 : am_fetch 61 61 = some (.getfield 12, 3, 3, 10, 0) := by decide +kernel
theorem fe_61_64 : am_fetch 61 64 = some (.getfield 129, 3, 3, 107, 5) := by decide +kernel
theorem fe_61_67 : am_fetch 61 67 = some (.iload_n 1, 1, 1, 0, 0) := by decide +kernel
theorem fe_61_68 : am_fetch 61 68 = some (.iload_n 2, 1, 1, 0, 0) := by decide +kernel
theorem fe_61_69 : am_fetch 61 69 = some (.invokevirtual 133, 3, 7, 40, 0) := by decide +kernel
theorem fe_61_72 : am_fetch 61 72 = some (.ireturn, 1, 8, 0, 0) := by decide +kernel
theorem fe_62_0 : am_fetch 62 0 = some (.aload_n 3, 1, 1, 0, 0) := by decide +kernel
theorem fe_62_1 : am_fetch 62 1 = some (.iconst 0, 1, 0, 0, 0) := by decide +kernel
theorem fe_62_2 : am_fetch 62 2 = some (.aload_n 0, 1, 1, 0, 0) := by decide +kernel
theorem fe_62_3 : am_fetch 62 3 = some (.iload_n 1, 1, 1, 0, 0) := by decide +kernel
theorem fe_62_4 : am_fetch 62 4 = some (.iload_n 2, 1, 1, 0, 0) := by decide +kernel
theorem fe_62_5 : am_fetch 62 5 = some (.invokevirtual 30, 3, 7, 61, 0) := by decide +kernel
theorem fe_62_8 : am_fetch 62 8 = some (.i2l, 1, 0, 0, 0) := by decide +kernel
theorem fe_62_9 : am_fetch 62 9 = some (.lastore, 1, 4, 0, 0) := by decide +kernel
theorem fe_62_10 : am_fetch 62 10 = some (.goto 11, 3, 2, 21, 0) := by decide +kernel
theorem fe_62_13 : am_fetch 62 13 = some (.astore 4, 2, 1, 0, 0) := by decide +kernel
theorem fe_62_15 : am_fetch 62 15 = some (.iconst 1, 1, 0, 0, 0) := by decide +kernel
theorem fe_62_16 : am_fetch 62 16 = some (.ireturn, 1, 8, 0, 0) := by decide +kernel
theorem fe_62_17 : am_fetch 62 17 = some (.astore 4, 2, 1, 0, 0) := by decide +kernel
theorem fe_62_19 : am_fetch 62 19 = some (.iconst 2, 1, 0, 0, 0) := by decide +kernel
theorem fe_62_20 : am_fetch 62 20 = some (.ireturn, 1, 8, 0, 0) := by decide +kernel
theorem fe_62_21 : am_fetch 62 21 = some (.iconst 0, 1, 0, 0, 0) := by decide +kernel
theorem fe_62_22 : am_fetch 62 22 = some (.ireturn, 1, 8, 0, 0) := by decide +kernel
theorem fe_63_0 : am_fetch 63 0 = some (.aload_n 0, 1, 1, 0, 0) := by decide +kernel
theorem fe_63_1 : am_fetch 63 1 = some (.iload_n 1, 1, 1, 0, 0) := by decide +kernel
theorem fe_63_2 : am_fetch 63 2 = some (.iconst 0, 1, 0, 0, 0) := by decide +kernel
theorem fe_63_3 : am_fetch 63 3 = some (.iconst 1, 1, 0, 0, 0) := by decide +kernel
theorem fe_63_4 : am_fetch 63 4 = some (.invokestatic 36, 3, 7, 26, 0) := by decide +kernel
theorem fe_63_7 : am_fetch 63 7 = some (.ifCond .ne 7, 3, 2, 14, 0) := by decide +kernel
theorem fe_63_10 : am_fetch 63 10 = some (.iconst 1, 1, 0, 0, 0) := by decide +kernel
theorem fe_63_11 : am_fetch 63 11 = some (.goto 27, 3, 2, 38, 0) := by decide +kernel
theorem fe_63_14 : am_fetch 63 14 = some (.iload_n 2, 1, 1, 0, 0) := by decide +kernel
theorem fe_63_15 : am_fetch 63 15 = some (.iconst 1, 1, 0, 0, 0) := by decide +kernel
theorem fe_63_16 : am_fetch 63 16 = some (.iload_n 1, 1, 1, 0, 0) := by decide +kernel
theorem fe_63_17 : am_fetch 63 17 = some (.ifCond .ne 8, 3, 2, 25, 0) := by decide +kernel
theorem fe_63_20 : am_fetch 63 20 = some (.bipush 9, 2, 0, 0, 0) := by decide +kernel
theorem fe_63_22 : am_fetch 63 22 = some (.goto 5, 3, 2, 27, 0) := by decide +kernel
theorem fe_63_25 : am_fetch 63 25 = some (.bipush 40, 2, 0, 0, 0) := by decide +kernel
theorem fe_63_27 : am_fetch 63 27 = some (.invokestatic 36, 3, 7, 26, 0) := by decide +kernel
theorem fe_63_30 : am_fetch 63 30 = some (.ifCond .ne 7, 3, 2, 37, 0) := by decide +kernel
theorem fe_63_33 : am_fetch 63 33 = some (.iconst 2, 1, 0, 0, 0) := by decide +kernel
theorem fe_63_34 : am_fetch 63 34 = some (.goto 4, 3, 2, 38, 0) := by decide +kernel
theorem fe_63_37 : am_fetch 63 37 = some (.iconst 0, 1, 0, 0, 0) := by decide +kernel
theorem fe_63_38 : am_fetch 63 38 = some (.invokevirtual 91, 3, 7, 29, 0) := by decide +kernel
theorem fe_63_41 : am_fetch 63 41 = some (.ifCond .ne 5, 3, 2, 46, 0) := by decide +kernel
theorem fe_63_44 : am_fetch 63 44 = some (.iconst 0, 1, 0, 0, 0) := by decide +kernel
theorem fe_63_45 : am_fetch 63 45 = some (.ireturn, 1, 8, 0, 0) := by decide +kernel
theorem fe_63_46 : am_fetch 63 46 = some (.aload_n 0, 1, 1, 0, 0) := by decide +kernel
theorem fe_63_47 : am_fetch 63 47 = some (.invokevirtual 94, 3, 7, 31, 0) := by decide +kernel
theorem fe_63_50 : am_fetch 63 50 = some (.aload_n 0, 1, 1, 0, 0) := by decide +kernel
theorem fe_63_51 : am_fetch 63 51 = some (.getfield 7, 3, 3, 11, 0) := by decide +kernel
theorem fe_63_54 : am_fetch 63 54 = some (.iconst 5, 1, 0, 0, 0) := by decide +kernel
theorem fe_63_55 : am_fetch 63 55 = some (.iload_n 1, 1, 1, 0, 0) := by decide +kernel
theorem fe_63_56 : am_fetch 63 56 = some (.iadd, 1, 0, 0, 0) := by decide +kernel
theorem fe_63_57 : am_fetch 63 57 = some (.iaload, 1, 3, 0, 0) := by decide +kernel
theorem fe_63_58 : am_fetch 63 58 = some (.istore_n 3, 1, 1, 0, 0) := by decide +kernel
theorem fe_63_59 : am_fetch 63 59 = some (.aload_n 0, 1, 1, 0, 0) := by decide +kernel
theorem fe_63_60 : am_fetch 63 60 = some (.getfield 7, 3, 3, 11, 0) := by decide +kernel
theorem fe_63_63 : am_fetch 63 63 = some (.iconst 5, 1, 0, 0, 0) := by decide +kernel
theorem fe_63_64 : am_fetch 63 64 = some (.iload_n 1, 1, 1, 0, 0) := by decide +kernel
theorem fe_63_65 : am_fetch 63 65 = some (.iadd, 1, 0, 0, 0) := by decide +kernel
theorem fe_63_66 : am_fetch 63 66 = some (.iload_n 2, 1, 1, 0, 0) := by decide +kernel
theorem fe_63_67 : am_fetch 63 67 = some (.iastore, 1, 4, 0, 0) := by decide +kernel
theorem fe_63_68 : am_fetch 63 68 = some (.iload_n 3, 1, 1, 0, 0) := by decide +kernel
theorem fe_63_69 : am_fetch 63 69 = some (.ireturn, 1, 8, 0, 0) := by decide +kernel
theorem fe_64_0 : am_fetch 64 0 = some (.aload_n 0, 1, 1, 0, 0) := by decide +kernel
theorem fe_64_1 : am_fetch 64 1 = some (.getfield 58, 3, 3, 7, 2) := by decide +kernel
theorem fe_64_4 : am_fetch 64 4 = some (.iload_n 1, 1, 1, 0, 0) := by decide +kernel
theorem fe_64_5 : am_fetch 64 5 = some (.iadd, 1, 0, 0, 0) := by decide +kernel
theorem fe_64_6 : am_fetch 64 6 = some (.sipush 200, 3, 0, 0, 0) := by decide +kernel
theorem fe_64_9 : am_fetch 64 9 = some (.if_icmp .gt 7, 3, 2, 16, 0) := by decide +kernel
theorem fe_64_12 : am_fetch 64 12 = some (.iconst 1, 1, 0, 0, 0) := by decide +kernel
theorem fe_64_13 : am_fetch 64 13 = some (.goto 4, 3, 2, 17, 0) := by decide +kernel
theorem fe_64_16 : am_fetch 64 16 = some (.iconst 0, 1, 0, 0, 0) := by decide +kernel
theorem fe_64_17 : am_fetch 64 17 = some (.ireturn, 1, 8, 0, 0) := by decide +kernel
theorem fe_65_0 : am_fetch 65 0 = some (.aload_n 0, 1, 1, 0, 0) := by decide +kernel
theorem fe_65_1 : am_fetch 65 1 = some (.dup, 1, 0, 0, 0) := by decide +kernel
theorem fe_65_2 : am_fetch 65 2 = some (.getfield 58, 3, 3, 7, 2) := by decide +kernel
theorem fe_65_5 : am_fetch 65 5 = some (.iload_n 1, 1, 1, 0, 0) := by decide +kernel
theorem fe_65_6 : am_fetch 65 6 = some (.iadd, 1, 0, 0, 0) := by decide +kernel
theorem fe_65_7 : am_fetch 65 7 = some (.putfield 58, 3, 4, 7, 2) := by decide +kernel
theorem fe_65_10 : am_fetch 65 10 = some (.aload_n 0, 1, 1, 0, 0) := by decide +kernel
theorem fe_65_11 : am_fetch 65 11 = some (.getfield 58, 3, 3, 7, 2) := by decide +kernel
theorem fe_65_14 : am_fetch 65 14 = some (.ireturn, 1, 8, 0, 0) := by decide +kernel
theorem fe_66_0 : am_fetch 66 0 = some (.iload_n 1, 1, 1, 0, 0) := by decide +kernel
theorem fe_66_1 : am_fetch 66 1 = some (.iconst 1, 1, 0, 0, 0) := by decide +kernel
theorem fe_66_2 : am_fetch 66 2 = some (.if_icmp .lt 9, 3, 2, 11, 0) := by decide +kernel
theorem fe_66_5 : am_fetch 66 5 = some (.iload_n 1, 1, 1, 0, 0) := by decide +kernel
theorem fe_66_6 : am_fetch 66 6 = some (.bipush 40, 2, 0, 0, 0) := by decide +kernel
theorem fe_66_8 : am_fetch 66 8 = some (.if_icmp .le 13, 3, 2, 21, 0) := by decide +kernel
theorem fe_66_11 : am_fetch 66 11 = some (.new 69, 3, 9, 0, 0) := by decide +kernel
theorem fe_66_14 : am_fetch 66 14 = some (.dup, 1, 0, 0, 0) := by decide +kernel
theorem fe_66_21 : am_fetch 66 21 = some (.aload_n 0, 1, 1, 0, 0) := by decide +kernel
theorem fe_66_22 : am_fetch 66 22 = some (.getfield 12, 3, 3, 10, 0) := by decide +kernel
theorem fe_66_25 : am_fetch 66 25 = some (.iload_n 1, 1, 1, 0, 0) := by decide +kernel
theorem fe_66_26 : am_fetch 66 26 = some (.invokevirtual 140, 3, 7, 64, 0) := by decide +kernel
theorem fe_66_29 : am_fetch 66 29 = some (.ifCond .ne 13, 3, 2, 42, 0) := by decide +kernel
theorem fe_66_32 : am_fetch 66 32 = some (.new 82, 3, 9, 1, 0) := by decide +kernel
theorem fe_66_35 : am_fetch 66 35 = some (.dup, 1, 0, 0, 0) := by decide +kernel
theorem fe_66_42 : am_fetch 66 42 = some (.aload_n 0, 1, 1, 0, 0) := by decide +kernel
theorem fe_66_43 : am_fetch 66 43 = some (.getfield 52, 3, 3, 10, 4) := by decide +kernel
theorem fe_66_46 : am_fetch 66 46 = some (.aload_n 0, 1, 1, 0, 0) := by decide +kernel
theorem fe_66_47 : am_fetch 66 47 = some (.getfield 12, 3, 3, 10, 0) := by decide +kernel
theorem fe_66_50 : am_fetch 66 50 = some (.invokevirtual 87, 3, 7, 22, 0) := by decide +kernel
theorem fe_66_53 : am_fetch 66 53 = some (.aload_n 0, 1, 1, 0, 0) := by decide +kernel
theorem fe_66_54 : am_fetch 66 54 = some (.getfield 12, 3, 3, 10, 0) := by decide +kernel
theorem fe_66_57 : am_fetch 66 57 = some (.iload_n 1, 1, 1, 0, 0) := by decide +kernel
theorem fe_66_58 : am_fetch 66 58 = some (.invokevirtual 145, 3, 7, 65, 0) := by decide +kernel
theorem fe_66_61 : am_fetch 66 61 = some (.ireturn, 1, 8, 0, 0) := by decide +kernel
theorem fe_67_0 : am_fetch 67 0 = some (.aload_n 2, 1, 1, 0, 0) := by decide +kernel
theorem fe_67_1 : am_fetch 67 1 = some (.iconst 0, 1, 0, 0, 0) := by decide +kernel
theorem fe_67_2 : am_fetch 67 2 = some (.aload_n 0, 1, 1, 0, 0) := by decide +kernel
theorem fe_67_3 : am_fetch 67 3 = some (.iload_n 1, 1, 1, 0, 0) := by decide +kernel
theorem fe_67_4 : am_fetch 67 4 = some (.invokevirtual 33, 3, 7, 66, 0) := by decide +kernel
theorem fe_67_7 : am_fetch 67 7 = some (.i2l, 1, 0, 0, 0) := by decide +kernel
theorem fe_67_8 : am_fetch 67 8 = some (.lastore, 1, 4, 0, 0) := by decide +kernel
theorem fe_67_9 : am_fetch 67 9 = some (.goto 9, 3, 2, 18, 0) := by decide +kernel
theorem fe_67_12 : am_fetch 67 12 = some (.astore_n 3, 1, 1, 0, 0) := by decide +kernel
theorem fe_67_13 : am_fetch 67 13 = some (.iconst 1, 1, 0, 0, 0) := by decide +kernel
theorem fe_67_14 : am_fetch 67 14 = some (.ireturn, 1, 8, 0, 0) := by decide +kernel
theorem fe_67_15 : am_fetch 67 15 = some (.astore_n 3, 1, 1, 0, 0) := by decide +kernel
theorem fe_67_16 : am_fetch 67 16 = some (.iconst 2, 1, 0, 0, 0) := by decide +kernel
theorem fe_67_17 : am_fetch 67 17 = some (.ireturn, 1, 8, 0, 0) := by decide +kernel
theorem fe_67_18 : am_fetch 67 18 = some (.iconst 0, 1, 0, 0, 0) := by decide +kernel
theorem fe_67_19 : am_fetch 67 19 = some (.ireturn, 1, 8, 0, 0) := by decide +kernel
theorem fe_68_0 : am_fetch 68 0 = some (.iload_n 1, 1, 1, 0, 0) := by decide +kernel
theorem fe_68_1 : am_fetch 68 1 = some (.iconst 1, 1, 0, 0, 0) := by decide +kernel
theorem fe_68_2 : am_fetch 68 2 = some (.bipush 40, 2, 0, 0, 0) := by decide +kernel
theorem fe_68_4 : am_fetch 68 4 = some (.invokestatic 36, 3, 7, 26, 0) := by decide +kernel
theorem fe_68_7 : am_fetch 68 7 = some (.ifCond .ne 7, 3, 2, 14, 0) := by decide +kernel
theorem fe_68_10 : am_fetch 68 10 = some (.iconst 1, 1, 0, 0, 0) := by decide +kernel
theorem fe_68_11 : am_fetch 68 11 = some (.goto 22, 3, 2, 33, 0) := by decide +kernel
theorem fe_68_14 : am_fetch 68 14 = some (.aload_n 0, 1, 1, 0, 0) := by decide +kernel
theorem fe_68_15 : am_fetch 68 15 = some (.getfield 7, 3, 3, 11, 0) := by decide +kernel
theorem fe_68_18 : am_fetch 68 18 = some (.iconst 4, 1, 0, 0, 0) := by decide +kernel
theorem fe_68_19 : am_fetch 68 19 = some (.iaload, 1, 3, 0, 0) := by decide +kernel
theorem fe_68_20 : am_fetch 68 20 = some (.iload_n 1, 1, 1, 0, 0) := by decide +kernel
theorem fe_68_21 : am_fetch 68 21 = some (.iadd, 1, 0, 0, 0) := by decide +kernel
theorem fe_68_22 : am_fetch 68 22 = some (.sipush 200, 3, 0, 0, 0) := by decide +kernel
theorem fe_68_25 : am_fetch 68 25 = some (.if_icmp .le 7, 3, 2, 32, 0) := by decide +kernel
theorem fe_68_28 : am_fetch 68 28 = some (.iconst 2, 1, 0, 0, 0) := by decide +kernel
theorem fe_68_29 : am_fetch 68 29 = some (.goto 4, 3, 2, 33, 0) := by decide +kernel
theorem fe_68_32 : am_fetch 68 32 = some (.iconst 0, 1, 0, 0, 0) := by decide +kernel
theorem fe_68_33 : am_fetch 68 33 = some (.ireturn, 1, 8, 0, 0) := by decide +kernel
theorem fe_69_0 : am_fetch 69 0 = some (.aload_n 0, 1, 1, 0, 0) := by decide +kernel
theorem fe_69_1 : am_fetch 69 1 = some (.getfield 7, 3, 3, 11, 0) := by decide +kernel
theorem fe_69_4 : am_fetch 69 4 = some (.iconst 4, 1, 0, 0, 0) := by decide +kernel
theorem fe_69_5 : am_fetch 69 5 = some (.dup2, 1, 0, 0, 0) := by decide +kernel
theorem fe_69_6 : am_fetch 69 6 = some (.iaload, 1, 3, 0, 0) := by decide +kernel
theorem fe_69_7 : am_fetch 69 7 = some (.iload_n 1, 1, 1, 0, 0) := by decide +kernel
theorem fe_69_8 : am_fetch 69 8 = some (.iadd, 1, 0, 0, 0) := by decide +kernel
theorem fe_69_9 : am_fetch 69 9 = some (.iastore, 1, 4, 0, 0) := by decide +kernel
theorem fe_69_10 : am_fetch 69 10 = some (.aload_n 0, 1, 1, 0, 0) := by decide +kernel
theorem fe_69_11 : am_fetch 69 11 = some (.getfield 7, 3, 3, 11, 0) := by decide +kernel
theorem fe_69_14 : am_fetch 69 14 = some (.iconst 4, 1, 0, 0, 0) := by decide +kernel
theorem fe_69_15 : am_fetch 69 15 = some (.iaload, 1, 3, 0, 0) := by decide +kernel
theorem fe_69_16 : am_fetch 69 16 = some (.ireturn, 1, 8, 0, 0) := by decide +kernel
theorem fe_70_0 : am_fetch 70 0 = some (.aload_n 0, 1, 1, 0, 0) := by decide +kernel
theorem fe_70_1 : am_fetch 70 1 = some (.aload_n 0, 1, 1, 0, 0) := by decide +kernel
theorem fe_70_2 : am_fetch 70 2 = some (.iload_n 1, 1, 1, 0, 0) := by decide +kernel
theorem fe_70_3 : am_fetch 70 3 = some (.invokevirtual 110, 3, 7, 68, 0) := by decide +kernel
theorem fe_70_6 : am_fetch 70 6 = some (.invokevirtual 91, 3, 7, 29, 0) := by decide +kernel
theorem fe_70_9 : am_fetch 70 9 = some (.ifCond .ne 5, 3, 2, 14, 0) := by decide +kernel
theorem fe_70_12 : am_fetch 70 12 = some (.iconst 0, 1, 0, 0, 0) := by decide +kernel
theorem fe_70_13 : am_fetch 70 13 = some (.ireturn, 1, 8, 0, 0) := by decide +kernel
theorem fe_70_14 : am_fetch 70 14 = some (.aload_n 0, 1, 1, 0, 0) := by decide +kernel
theorem fe_70_15 : am_fetch 70 15 = some (.invokevirtual 94, 3, 7, 31, 0) := by decide +kernel
theorem fe_70_18 : am_fetch 70 18 = some (.aload_n 0, 1, 1, 0, 0) := by decide +kernel
theorem fe_70_19 : am_fetch 70 19 = some (.iload_n 1, 1, 1, 0, 0) := by decide +kernel
theorem fe_70_20 : am_fetch 70 20 = some (.invokevirtual 113, 3, 7, 69, 0) := by decide +kernel
theorem fe_70_23 : am_fetch 70 23 = some (.ireturn, 1, 8, 0, 0) := by decide +kernel
theorem fe_71_0 : am_fetch 71 0 = some (.aload_n 0, 1, 1, 0, 0) := by decide +kernel
theorem fe_71_1 : am_fetch 71 1 = some (.getfield 26, 3, 3, 8, 0) := by decide +kernel
theorem fe_71_4 : am_fetch 71 4 = some (.iload_n 1, 1, 1, 0, 0) := by decide +kernel
theorem fe_71_5 : am_fetch 71 5 = some (.iadd, 1, 0, 0, 0) := by decide +kernel
theorem fe_71_6 : am_fetch 71 6 = some (.bipush 60, 2, 0, 0, 0) := by decide +kernel
theorem fe_71_8 : am_fetch 71 8 = some (.irem, 1, 0, 0, 0) := by decide +kernel
theorem fe_71_9 : am_fetch 71 9 = some (.ireturn, 1, 8, 0, 0) := by decide +kernel
theorem fe_72_0 : am_fetch 72 0 = some (.aload_n 0, 1, 1, 0, 0) := by decide +kernel
theorem fe_72_1 : am_fetch 72 1 = some (.aload_n 0, 1, 1, 0, 0) := by decide +kernel
theorem fe_72_2 : am_fetch 72 2 = some (.getfield 30, 3, 3, 8, 1) := by decide +kernel
theorem fe_72_5 : am_fetch 72 5 = some (.invokevirtual 40, 3, 7, 71, 0) := by decide +kernel
theorem fe_72_8 : am_fetch 72 8 = some (.istore 4, 2, 1, 0, 0) := by decide +kernel
theorem fe_72_10 : am_fetch 72 10 = some (.aload_n 0, 1, 1, 0, 0) := by decide +kernel
theorem fe_72_11 : am_fetch 72 11 = some (.getfield 14, 3, 3, 8, 3) := by decide +kernel
theorem fe_72_14 : am_fetch 72 14 = some (.iload 4, 2, 1, 0, 0) := by decide +kernel
theorem fe_72_16 : am_fetch 72 16 = some (.iload_n 1, 1, 1, 0, 0) := by decide +kernel
theorem fe_72_17 : am_fetch 72 17 = some (.invokevirtual 44, 3, 7, 4, 0) := by decide +kernel
theorem fe_72_20 : am_fetch 72 20 = some (.aload_n 0, 1, 1, 0, 0) := by decide +kernel
theorem fe_72_21 : am_fetch 72 21 = some (.getfield 20, 3, 3, 8, 4) := by decide +kernel
theorem fe_72_24 : am_fetch 72 24 = some (.iload 4, 2, 1, 0, 0) := by decide +kernel
theorem fe_72_26 : am_fetch 72 26 = some (.iload_n 2, 1, 1, 0, 0) := by decide +kernel
theorem fe_72_27 : am_fetch 72 27 = some (.invokevirtual 44, 3, 7, 4, 0) := by decide +kernel
theorem fe_72_30 : am_fetch 72 30 = some (.aload_n 0, 1, 1, 0, 0) := by decide +kernel
theorem fe_72_31 : am_fetch 72 31 = some (.getfield 23, 3, 3, 8, 5) := by decide +kernel
theorem fe_72_34 : am_fetch 72 34 = some (.iload 4, 2, 1, 0, 0) := by decide +kernel
theorem fe_72_36 : am_fetch 72 36 = some (.iload_n 3, 1, 1, 0, 0) := by decide +kernel
theorem fe_72_37 : am_fetch 72 37 = some (.invokevirtual 44, 3, 7, 4, 0) := by decide +kernel
theorem fe_72_40 : am_fetch 72 40 = some (.aload_n 0, 1, 1, 0, 0) := by decide +kernel
theorem fe_72_41 : am_fetch 72 41 = some (.dup, 1, 0, 0, 0) := by decide +kernel
theorem fe_72_42 : am_fetch 72 42 = some (.getfield 33, 3, 3, 8, 2) := by decide +kernel
theorem fe_72_45 : am_fetch 72 45 = some (.iconst 1, 1, 0, 0, 0) := by decide +kernel
theorem fe_72_46 : am_fetch 72 46 = some (.iadd, 1, 0, 0, 0) := by decide +kernel
theorem fe_72_47 : am_fetch 72 47 = some (.putfield 33, 3, 4, 8, 2) := by decide +kernel
theorem fe_72_50 : am_fetch 72 50 = some (.aload_n 0, 1, 1, 0, 0) := by decide +kernel
theorem fe_72_51 : am_fetch 72 51 = some (.getfield 30, 3, 3, 8, 1) := by decide +kernel
theorem fe_72_54 : am_fetch 72 54 = some (.bipush 60, 2, 0, 0, 0) := by decide +kernel
theorem fe_72_56 : am_fetch 72 56 = some (.if_icmp .ge 16, 3, 2, 72, 0) := by decide +kernel
theorem fe_72_59 : am_fetch 72 59 = some (.aload_n 0, 1, 1, 0, 0) := by decide +kernel
theorem fe_72_60 : am_fetch 72 60 = some (.dup, 1, 0, 0, 0) := by decide +kernel
theorem fe_72_61 : am_fetch 72 61 = some (.getfield 30, 3, 3, 8, 1) := by decide +kernel
theorem fe_72_64 : am_fetch 72 64 = some (.iconst 1, 1, 0, 0, 0) := by decide +kernel
theorem fe_72_65 : am_fetch 72 65 = some (.iadd, 1, 0, 0, 0) := by decide +kernel
theorem fe_72_66 : am_fetch 72 66 = some (.putfield 30, 3, 4, 8, 1) := by decide +kernel
theorem fe_72_69 : am_fetch 72 69 = some (.goto 12, 3, 2, 81, 0) := by decide +kernel
theorem fe_72_72 : am_fetch 72 72 = some (.aload_n 0, 1, 1, 0, 0) := by decide +kernel
theorem fe_72_73 : am_fetch 72 73 = some (.aload_n 0, 1, 1, 0, 0) := by decide +kernel
theorem fe_72_74 : am_fetch 72 74 = some (.iconst 1, 1, 0, 0, 0) := by decide +kernel
theorem fe_72_75 : am_fetch 72 75 = some (.invokevirtual 40, 3, 7, 71, 0) := by decide +kernel
theorem fe_72_78 : am_fetch 72 78 = some (.putfield 26, 3, 4, 8, 0) := by decide +kernel
theorem fe_72_81 : am_fetch 72 81 = some (.return_, 1, 8, 0, 0) := by decide +kernel
theorem fe_73_0 : am_fetch 73 0 = some (.aload_n 0, 1, 1, 0, 0) := by decide +kernel
theorem fe_73_1 : am_fetch 73 1 = some (.getfield 26, 3, 3, 1, 4) := by decide +kernel
theorem fe_73_4 : am_fetch 73 4 = some (.iconst 2, 1, 0, 0, 0) := by decide +kernel
theorem fe_73_5 : am_fetch 73 5 = some (.iload_n 1, 1, 1, 0, 0) := by decide +kernel
theorem fe_73_6 : am_fetch 73 6 = some (.imul, 1, 0, 0, 0) := by decide +kernel
theorem fe_73_7 : am_fetch 73 7 = some (.iload_n 2, 1, 1, 0, 0) := by decide +kernel
theorem fe_73_8 : am_fetch 73 8 = some (.iadd, 1, 0, 0, 0) := by decide +kernel
theorem fe_73_9 : am_fetch 73 9 = some (.invokevirtual 55, 3, 7, 39, 0) := by decide +kernel
theorem fe_73_12 : am_fetch 73 12 = some (.ireturn, 1, 8, 0, 0) := by decide +kernel
theorem fe_74_0 : am_fetch 74 0 = some (.aload_n 0, 1, 1, 0, 0) := by decide +kernel
theorem fe_74_1 : am_fetch 74 1 = some (.getfield 14, 3, 3, 1, 1) := by decide +kernel
theorem fe_74_4 : am_fetch 74 4 = some (.iload_n 1, 1, 1, 0, 0) := by decide +kernel
theorem fe_74_5 : am_fetch 74 5 = some (.invokevirtual 55, 3, 7, 39, 0) := by decide +kernel
theorem fe_74_8 : am_fetch 74 8 = some (.istore_n 2, 1, 1, 0, 0) := by decide +kernel
theorem fe_74_9 : am_fetch 74 9 = some (.aload_n 0, 1, 1, 0, 0) := by decide +kernel
theorem fe_74_10 : am_fetch 74 10 = some (.getfield 29, 3, 3, 1, 5) := by decide +kernel
theorem fe_74_13 : am_fetch 74 13 = some (.iconst 2, 1, 0, 0, 0) := by decide +kernel
theorem fe_74_14 : am_fetch 74 14 = some (.iload_n 1, 1, 1, 0, 0) := by decide +kernel
theorem fe_74_15 : am_fetch 74 15 = some (.imul, 1, 0, 0, 0) := by decide +kernel
theorem fe_74_16 : am_fetch 74 16 = some (.iload_n 2, 1, 1, 0, 0) := by decide +kernel
theorem fe_74_17 : am_fetch 74 17 = some (.iadd, 1, 0, 0, 0) := by decide +kernel
theorem fe_74_18 : am_fetch 74 18 = some (.iconst 1, 1, 0, 0, 0) := by decide +kernel
theorem fe_74_19 : am_fetch 74 19 = some (.invokevirtual 52, 3, 7, 55, 0) := by decide +kernel
theorem fe_74_22 : am_fetch 74 22 = some (.aload_n 0, 1, 1, 0, 0) := by decide +kernel
theorem fe_74_23 : am_fetch 74 23 = some (.getfield 14, 3, 3, 1, 1) := by decide +kernel
theorem fe_74_26 : am_fetch 74 26 = some (.iload_n 1, 1, 1, 0, 0) := by decide +kernel
theorem fe_74_27 : am_fetch 74 27 = some (.iconst 1, 1, 0, 0, 0) := by decide +kernel
theorem fe_74_28 : am_fetch 74 28 = some (.iload_n 2, 1, 1, 0, 0) := by decide +kernel
theorem fe_74_29 : am_fetch 74 29 = some (.isub, 1, 0, 0, 0) := by decide +kernel
theorem fe_74_30 : am_fetch 74 30 = some (.invokevirtual 44, 3, 7, 4, 0) := by decide +kernel
theorem fe_74_33 : am_fetch 74 33 = some (.aload_n 0, 1, 1, 0, 0) := by decide +kernel
theorem fe_74_34 : am_fetch 74 34 = some (.iload_n 1, 1, 1, 0, 0) := by decide +kernel
theorem fe_74_35 : am_fetch 74 35 = some (.iload_n 2, 1, 1, 0, 0) := by decide +kernel
theorem fe_74_36 : am_fetch 74 36 = some (.invokevirtual 59, 3, 7, 73, 0) := by decide +kernel
theorem fe_74_39 : am_fetch 74 39 = some (.ireturn, 1, 8, 0, 0) := by decide +kernel
theorem fe_75_0 : am_fetch 75 0 = some (.aload_n 0, 1, 1, 0, 0) := by decide +kernel
theorem fe_75_1 : am_fetch 75 1 = some (.getfield 14, 3, 3, 0, 1) := by decide +kernel
theorem fe_75_4 : am_fetch 75 4 = some (.iload_n 2, 1, 1, 0, 0) := by decide +kernel
theorem fe_75_5 : am_fetch 75 5 = some (.iload_n 3, 1, 1, 0, 0) := by decide +kernel
theorem fe_75_6 : am_fetch 75 6 = some (.invokevirtual 34, 3, 7, 4, 0) := by decide +kernel
theorem fe_75_9 : am_fetch 75 9 = some (.aload_n 0, 1, 1, 0, 0) := by decide +kernel
theorem fe_75_10 : am_fetch 75 10 = some (.getfield 20, 3, 3, 0, 2) := by decide +kernel
theorem fe_75_13 : am_fetch 75 13 = some (.iload_n 2, 1, 1, 0, 0) := by decide +kernel
theorem fe_75_14 : am_fetch 75 14 = some (.aload_n 0, 1, 1, 0, 0) := by decide +kernel
theorem fe_75_15 : am_fetch 75 15 = some (.getfield 20, 3, 3, 0, 2) := by decide +kernel
theorem fe_75_18 : am_fetch 75 18 = some (.iload_n 1, 1, 1, 0, 0) := by decide +kernel
theorem fe_75_19 : am_fetch 75 19 = some (.invokevirtual 38, 3, 7, 39, 0) := by decide +kernel
theorem fe_75_22 : am_fetch 75 22 = some (.invokevirtual 34, 3, 7, 4, 0) := by decide +kernel
theorem fe_75_25 : am_fetch 75 25 = some (.aload_n 0, 1, 1, 0, 0) := by decide +kernel
theorem fe_75_26 : am_fetch 75 26 = some (.getfield 23, 3, 3, 0, 3) := by decide +kernel
theorem fe_75_29 : am_fetch 75 29 = some (.iload_n 2, 1, 1, 0, 0) := by decide +kernel
theorem fe_75_30 : am_fetch 75 30 = some (.aload_n 0, 1, 1, 0, 0) := by decide +kernel
theorem fe_75_31 : am_fetch 75 31 = some (.getfield 23, 3, 3, 0, 3) := by decide +kernel
theorem fe_75_34 : am_fetch 75 34 = some (.iload_n 1, 1, 1, 0, 0) := by decide +kernel
theorem fe_75_35 : am_fetch 75 35 = some (.invokevirtual 38, 3, 7, 39, 0) := by decide +kernel
theorem fe_75_38 : am_fetch 75 38 = some (.iconst 1, 1, 0, 0, 0) := by decide +kernel
theorem fe_75_39 : am_fetch 75 39 = some (.iadd, 1, 0, 0, 0) := by decide +kernel
theorem fe_75_40 : am_fetch 75 40 = some (.invokevirtual 34, 3, 7, 4, 0) := by decide +kernel
theorem fe_75_43 : am_fetch 75 43 = some (.return_, 1, 8, 0, 0) := by decide +kernel
theorem fe_76_0 : am_fetch 76 0 = some (.aload_n 0, 1, 1, 0, 0) := by decide +kernel
theorem fe_76_1 : am_fetch 76 1 = some (.getfield 40, 3, 3, 7, 9) := by decide +kernel
theorem fe_76_4 : am_fetch 76 4 = some (.getfield 96, 3, 3, 100, 0) := by decide +kernel
theorem fe_76_7 : am_fetch 76 7 = some (.istore_n 1, 1, 1, 0, 0) := by decide +kernel
theorem fe_76_8 : am_fetch 76 8 = some (.iconst 0, 1, 0, 0, 0) := by decide +kernel
theorem fe_76_9 : am_fetch 76 9 = some (.istore_n 2, 1, 1, 0, 0) := by decide +kernel
theorem fe_76_10 : am_fetch 76 10 = some (.iconst 0, 1, 0, 0, 0) := by decide +kernel
theorem fe_76_11 : am_fetch 76 11 = some (.istore_n 3, 1, 1, 0, 0) := by decide +kernel
theorem fe_76_12 : am_fetch 76 12 = some (.iload_n 3, 1, 1, 0, 0) := by decide +kernel
theorem fe_76_13 : am_fetch 76 13 = some (.iload_n 1, 1, 1, 0, 0) := by decide +kernel
theorem fe_76_14 : am_fetch 76 14 = some (.if_icmp .ge 108, 3, 2, 122, 0) := by decide +kernel
theorem fe_76_17 : am_fetch 76 17 = some (.aload_n 0, 1, 1, 0, 0) := by decide +kernel
theorem fe_76_18 : am_fetch 76 18 = some (.getfield 40, 3, 3, 7, 9) := by decide +kernel
theorem fe_76_21 : am_fetch 76 21 = some (.getfield 99, 3, 3, 100, 1) := by decide +kernel
theorem fe_76_24 : am_fetch 76 24 = some (.iload_n 3, 1, 1, 0, 0) := by decide +kernel
theorem fe_76_25 : am_fetch 76 25 = some (.invokevirtual 102, 3, 7, 39, 0) := by decide +kernel
theorem fe_76_28 : am_fetch 76 28 = some (.istore 4, 2, 1, 0, 0) := by decide +kernel
theorem fe_76_30 : am_fetch 76 30 = some (.aload_n 0, 1, 1, 0, 0) := by decide +kernel
theorem fe_76_31 : am_fetch 76 31 = some (.getfield 47, 3, 3, 7, 10) := by decide +kernel
theorem fe_76_34 : am_fetch 76 34 = some (.aload_n 0, 1, 1, 0, 0) := by decide +kernel
theorem fe_76_35 : am_fetch 76 35 = some (.getfield 55, 3, 3, 7, 0) := by decide +kernel
theorem fe_76_38 : am_fetch 76 38 = some (.iload 4, 2, 1, 0, 0) := by decide +kernel
theorem fe_76_40 : am_fetch 76 40 = some (.aload_n 0, 1, 1, 0, 0) := by decide +kernel
theorem fe_76_41 : am_fetch 76 41 = some (.getfield 33, 3, 3, 7, 8) := by decide +kernel
theorem fe_76_44 : am_fetch 76 44 = some (.getfield 106, 3, 3, 101, 2) := by decide +kernel
theorem fe_76_47 : am_fetch 76 47 = some (.iload 4, 2, 1, 0, 0) := by decide +kernel
theorem fe_76_49 : am_fetch 76 49 = some (.invokevirtual 102, 3, 7, 39, 0) := by decide +kernel
theorem fe_76_52 : am_fetch 76 52 = some (.invokevirtual 109, 3, 7, 72, 0) := by decide +kernel
theorem fe_76_55 : am_fetch 76 55 = some (.aload_n 0, 1, 1, 0, 0) := by decide +kernel
theorem fe_76_56 : am_fetch 76 56 = some (.getfield 33, 3, 3, 7, 8) := by decide +kernel
theorem fe_76_59 : am_fetch 76 59 = some (.iload 4, 2, 1, 0, 0) := by decide +kernel
theorem fe_76_61 : am_fetch 76 61 = some (.invokevirtual 113, 3, 7, 74, 0) := by decide +kernel
theorem fe_76_64 : am_fetch 76 64 = some (.istore 5, 2, 1, 0, 0) := by decide +kernel
theorem fe_76_66 : am_fetch 76 66 = some (.iload 5, 2, 1, 0, 0) := by decide +kernel
theorem fe_76_68 : am_fetch 76 68 = some (.bipush 20, 2, 0, 0, 0) := by decide +kernel
theorem fe_76_70 : am_fetch 76 70 = some (.if_icmp .ge 20, 3, 2, 90, 0) := by decide +kernel
theorem fe_76_73 : am_fetch 76 73 = some (.aload_n 0, 1, 1, 0, 0) := by decide +kernel
theorem fe_76_74 : am_fetch 76 74 = some (.getfield 40, 3, 3, 7, 9) := by decide +kernel
theorem fe_76_77 : am_fetch 76 77 = some (.iload_n 3, 1, 1, 0, 0) := by decide +kernel
theorem fe_76_78 : am_fetch 76 78 = some (.iload_n 2, 1, 1, 0, 0) := by decide +kernel
theorem fe_76_79 : am_fetch 76 79 = some (.iload 5, 2, 1, 0, 0) := by decide +kernel
theorem fe_76_81 : am_fetch 76 81 = some (.invokevirtual 116, 3, 7, 75, 0) := by decide +kernel
theorem fe_76_84 : am_fetch 76 84 = some (.iinc 2 1, 3, 1, 0, 0) := by decide +kernel
theorem fe_76_87 : am_fetch 76 87 = some (.goto 29, 3, 2, 116, 0) := by decide +kernel
theorem fe_76_90 : am_fetch 76 90 = some (.aload_n 0, 1, 1, 0, 0) := by decide +kernel
theorem fe_76_91 : am_fetch 76 91 = some (.getfield 24, 3, 3, 7, 6) := by decide +kernel
theorem fe_76_94 : am_fetch 76 94 = some (.iload 5, 2, 1, 0, 0) := by decide +kernel
theorem fe_76_96 : am_fetch 76 96 = some (.bipush 20, 2, 0, 0, 0) := by decide +kernel
theorem fe_76_98 : am_fetch 76 98 = some (.isub, 1, 0, 0, 0) := by decide +kernel
theorem fe_76_99 : am_fetch 76 99 = some (.iconst 1, 1, 0, 0, 0) := by decide +kernel
theorem fe_76_100 : am_fetch 76 100 = some (.invokevirtual 119, 3, 7, 55, 0) := by decide +kernel
theorem fe_76_103 : am_fetch 76 103 = some (.aload_n 0, 1, 1, 0, 0) := by decide +kernel
theorem fe_76_104 : am_fetch 76 104 = some (.getfield 27, 3, 3, 7, 7) := by decide +kernel
theorem fe_76_107 : am_fetch 76 107 = some (.iload 5, 2, 1, 0, 0) := by decide +kernel
theorem fe_76_109 : am_fetch 76 109 = some (.bipush 20, 2, 0, 0, 0) := by decide +kernel
theorem fe_76_111 : am_fetch 76 111 = some (.isub, 1, 0, 0, 0) := by decide +kernel
theorem fe_76_112 : am_fetch 76 112 = some (.iconst 1, 1, 0, 0, 0) := by decide +kernel
theorem fe_76_113 : am_fetch 76 113 = some (.invokevirtual 119, 3, 7, 55, 0) := by decide +kernel
theorem fe_76_116 : am_fetch 76 116 = some (.iinc 3 1, 3, 1, 0, 0) := by decide +kernel
theorem fe_76_119 : am_fetch 76 119 = some (.goto (-107), 3, 2, 12, 0) := by decide +kernel
theorem fe_76_122 : am_fetch 76 122 = some (.aload_n 0, 1, 1, 0, 0) := by decide +kernel
theorem fe_76_123 : am_fetch 76 123 = some (.getfield 40, 3, 3, 7, 9) := by decide +kernel
theorem fe_76_126 : am_fetch 76 126 = some (.iload_n 2, 1, 1, 0, 0) := by decide +kernel
theorem fe_76_127 : am_fetch 76 127 = some (.putfield 96, 3, 4, 100, 0) := by decide +kernel
theorem fe_76_130 : am_fetch 76 130 = some (.return_, 1, 8, 0, 0) := by decide +kernel
theorem fe_77_0 : am_fetch 77 0 = some (.aload_n 0, 1, 1, 0, 0) := by decide +kernel
theorem fe_77_1 : am_fetch 77 1 = some (.getfield 14, 3, 3, 0, 1) := by decide +kernel
theorem fe_77_4 : am_fetch 77 4 = some (.aload_n 0, 1, 1, 0, 0) := by decide +kernel
theorem fe_77_5 : am_fetch 77 5 = some (.getfield 26, 3, 3, 0, 0) := by decide +kernel
theorem fe_77_8 : am_fetch 77 8 = some (.iconst 0, 1, 0, 0, 0) := by decide +kernel
theorem fe_77_9 : am_fetch 77 9 = some (.invokevirtual 34, 3, 7, 4, 0) := by decide +kernel
theorem fe_77_12 : am_fetch 77 12 = some (.aload_n 0, 1, 1, 0, 0) := by decide +kernel
theorem fe_77_13 : am_fetch 77 13 = some (.getfield 20, 3, 3, 0, 2) := by decide +kernel
theorem fe_77_16 : am_fetch 77 16 = some (.aload_n 0, 1, 1, 0, 0) := by decide +kernel
theorem fe_77_17 : am_fetch 77 17 = some (.getfield 26, 3, 3, 0, 0) := by decide +kernel
theorem fe_77_20 : am_fetch 77 20 = some (.iload_n 1, 1, 1, 0, 0) := by decide +kernel
theorem fe_77_21 : am_fetch 77 21 = some (.invokevirtual 34, 3, 7, 4, 0) := by decide +kernel
theorem fe_77_24 : am_fetch 77 24 = some (.aload_n 0, 1, 1, 0, 0) := by decide +kernel
theorem fe_77_25 : am_fetch 77 25 = some (.getfield 23, 3, 3, 0, 3) := by decide +kernel
theorem fe_77_28 : am_fetch 77 28 = some (.aload_n 0, 1, 1, 0, 0) := by decide +kernel
theorem fe_77_29 : am_fetch 77 29 = some (.getfield 26, 3, 3, 0, 0) := by decide +kernel
theorem fe_77_32 : am_fetch 77 32 = some (.iconst 0, 1, 0, 0, 0) := by decide +kernel
theorem fe_77_33 : am_fetch 77 33 = some (.invokevirtual 34, 3, 7, 4, 0) := by decide +kernel
theorem fe_77_36 : am_fetch 77 36 = some (.aload_n 0, 1, 1, 0, 0) := by decide +kernel
theorem fe_77_37 : am_fetch 77 37 = some (.dup, 1, 0, 0, 0) := by decide +kernel
theorem fe_77_38 : am_fetch 77 38 = some (.getfield 26, 3, 3, 0, 0) := by decide +kernel
theorem fe_77_41 : am_fetch 77 41 = some (.iconst 1, 1, 0, 0, 0) := by decide +kernel
theorem fe_77_42 : am_fetch 77 42 = some (.iadd, 1, 0, 0, 0) := by decide +kernel
theorem fe_77_43 : am_fetch 77 43 = some (.putfield 26, 3, 4, 0, 0) := by decide +kernel
theorem fe_77_46 : am_fetch 77 46 = some (.return_, 1, 8, 0, 0) := by decide +kernel
theorem fe_78_0 : am_fetch 78 0 = some (.aload_n 0, 1, 1, 0, 0) := by decide +kernel
theorem fe_78_1 : am_fetch 78 1 = some (.getfield 20, 3, 3, 7, 5) := by decide +kernel
theorem fe_78_4 : am_fetch 78 4 = some (.iconst 0, 1, 0, 0, 0) := by decide +kernel
theorem fe_78_5 : am_fetch 78 5 = some (.invokevirtual 102, 3, 7, 39, 0) := by decide +kernel
theorem fe_78_8 : am_fetch 78 8 = some (.istore_n 1, 1, 1, 0, 0) := by decide +kernel
theorem fe_78_9 : am_fetch 78 9 = some (.iload_n 1, 1, 1, 0, 0) := by decide +kernel
theorem fe_78_10 : am_fetch 78 10 = some (.ifCond .le 78, 3, 2, 88, 0) := by decide +kernel
theorem fe_78_13 : am_fetch 78 13 = some (.aload_n 0, 1, 1, 0, 0) := by decide +kernel
theorem fe_78_14 : am_fetch 78 14 = some (.getfield 55, 3, 3, 7, 0) := by decide +kernel
theorem fe_78_17 : am_fetch 78 17 = some (.iload_n 1, 1, 1, 0, 0) := by decide +kernel
theorem fe_78_18 : am_fetch 78 18 = some (.irem, 1, 0, 0, 0) := by decide +kernel
theorem fe_78_19 : am_fetch 78 19 = some (.ifCond .ne 69, 3, 2, 88, 0) := by decide +kernel
theorem fe_78_22 : am_fetch 78 22 = some (.aload_n 0, 1, 1, 0, 0) := by decide +kernel
theorem fe_78_23 : am_fetch 78 23 = some (.getfield 58, 3, 3, 7, 2) := by decide +kernel
theorem fe_78_26 : am_fetch 78 26 = some (.ifCond .le 62, 3, 2, 88, 0) := by decide +kernel
theorem fe_78_29 : am_fetch 78 29 = some (.aload_n 0, 1, 1, 0, 0) := by decide +kernel
theorem fe_78_30 : am_fetch 78 30 = some (.getfield 9, 3, 3, 7, 1) := by decide +kernel
theorem fe_78_33 : am_fetch 78 33 = some (.ifCond .le 55, 3, 2, 88, 0) := by decide +kernel
theorem fe_78_36 : am_fetch 78 36 = some (.aload_n 0, 1, 1, 0, 0) := by decide +kernel
theorem fe_78_37 : am_fetch 78 37 = some (.getfield 33, 3, 3, 7, 8) := by decide +kernel
theorem fe_78_40 : am_fetch 78 40 = some (.iconst 0, 1, 0, 0, 0) := by decide +kernel
theorem fe_78_41 : am_fetch 78 41 = some (.invokevirtual 122, 3, 7, 36, 0) := by decide +kernel
theorem fe_78_44 : am_fetch 78 44 = some (.ifCond .eq 44, 3, 2, 88, 0) := by decide +kernel
theorem fe_78_47 : am_fetch 78 47 = some (.aload_n 0, 1, 1, 0, 0) := by decide +kernel
theorem fe_78_48 : am_fetch 78 48 = some (.dup, 1, 0, 0, 0) := by decide +kernel
theorem fe_78_49 : am_fetch 78 49 = some (.getfield 9, 3, 3, 7, 1) := by decide +kernel
theorem fe_78_52 : am_fetch 78 52 = some (.iconst 1, 1, 0, 0, 0) := by decide +kernel
theorem fe_78_53 : am_fetch 78 53 = some (.isub, 1, 0, 0, 0) := by decide +kernel
theorem fe_78_54 : am_fetch 78 54 = some (.putfield 9, 3, 4, 7, 1) := by decide +kernel
theorem fe_78_57 : am_fetch 78 57 = some (.aload_n 0, 1, 1, 0, 0) := by decide +kernel
theorem fe_78_58 : am_fetch 78 58 = some (.dup, 1, 0, 0, 0) := by decide +kernel
theorem fe_78_59 : am_fetch 78 59 = some (.getfield 58, 3, 3, 7, 2) := by decide +kernel
theorem fe_78_62 : am_fetch 78 62 = some (.iconst 1, 1, 0, 0, 0) := by decide +kernel
theorem fe_78_63 : am_fetch 78 63 = some (.isub, 1, 0, 0, 0) := by decide +kernel
theorem fe_78_64 : am_fetch 78 64 = some (.putfield 58, 3, 4, 7, 2) := by decide +kernel
theorem fe_78_67 : am_fetch 78 67 = some (.aload_n 0, 1, 1, 0, 0) := by decide +kernel
theorem fe_78_68 : am_fetch 78 68 = some (.dup, 1, 0, 0, 0) := by decide +kernel
theorem fe_78_69 : am_fetch 78 69 = some (.getfield 61, 3, 3, 7, 3) := by decide +kernel
theorem fe_78_72 : am_fetch 78 72 = some (.iconst 1, 1, 0, 0, 0) := by decide +kernel
theorem fe_78_73 : am_fetch 78 73 = some (.iadd, 1, 0, 0, 0) := by decide +kernel
theorem fe_78_74 : am_fetch 78 74 = some (.putfield 61, 3, 4, 7, 3) := by decide +kernel
theorem fe_78_77 : am_fetch 78 77 = some (.aload_n 0, 1, 1, 0, 0) := by decide +kernel
theorem fe_78_78 : am_fetch 78 78 = some (.getfield 40, 3, 3, 7, 9) := by decide +kernel
theorem fe_78_81 : am_fetch 78 81 = some (.aload_n 0, 1, 1, 0, 0) := by decide +kernel
theorem fe_78_82 : am_fetch 78 82 = some (.getfield 55, 3, 3, 7, 0) := by decide +kernel
theorem fe_78_85 : am_fetch 78 85 = some (.invokevirtual 126, 3, 7, 77, 0) := by decide +kernel
theorem fe_78_88 : am_fetch 78 88 = some (.return_, 1, 8, 0, 0) := by decide +kernel
theorem fe_79_0 : am_fetch 79 0 = some (.iconst 0, 1, 0, 0, 0) := by decide +kernel
theorem fe_79_1 : am_fetch 79 1 = some (.istore_n 1, 1, 1, 0, 0) := by decide +kernel
theorem fe_79_2 : am_fetch 79 2 = some (.iconst 1, 1, 0, 0, 0) := by decide +kernel
theorem fe_79_3 : am_fetch 79 3 = some (.istore_n 2, 1, 1, 0, 0) := by decide +kernel
theorem fe_79_4 : am_fetch 79 4 = some (.iload_n 2, 1, 1, 0, 0) := by decide +kernel
theorem fe_79_5 : am_fetch 79 5 = some (.iconst 5, 1, 0, 0, 0) := by decide +kernel
theorem fe_79_6 : am_fetch 79 6 = some (.if_icmp .ge 30, 3, 2, 36, 0) := by decide +kernel
theorem fe_79_9 : am_fetch 79 9 = some (.aload_n 0, 1, 1, 0, 0) := by decide +kernel
theorem fe_79_10 : am_fetch 79 10 = some (.getfield 24, 3, 3, 7, 6) := by decide +kernel
theorem fe_79_13 : am_fetch 79 13 = some (.iload_n 2, 1, 1, 0, 0) := by decide +kernel
theorem fe_79_14 : am_fetch 79 14 = some (.invokevirtual 102, 3, 7, 39, 0) := by decide +kernel
theorem fe_79_17 : am_fetch 79 17 = some (.aload_n 0, 1, 1, 0, 0) := by decide +kernel
theorem fe_79_18 : am_fetch 79 18 = some (.getfield 24, 3, 3, 7, 6) := by decide +kernel
theorem fe_79_21 : am_fetch 79 21 = some (.iload_n 1, 1, 1, 0, 0) := by decide +kernel
theorem fe_79_22 : am_fetch 79 22 = some (.invokevirtual 102, 3, 7, 39, 0) := by decide +kernel
theorem fe_79_25 : am_fetch 79 25 = some (.if_icmp .le 5, 3, 2, 30, 0) := by decide +kernel
theorem fe_79_28 : am_fetch 79 28 = some (.iload_n 2, 1, 1, 0, 0) := by decide +kernel
theorem fe_79_29 : am_fetch 79 29 = some (.istore_n 1, 1, 1, 0, 0) := by decide +kernel
theorem fe_79_30 : am_fetch 79 30 = some (.iinc 2 1, 3, 1, 0, 0) := by decide +kernel
theorem fe_79_33 : am_fetch 79 33 = some (.goto (-29), 3, 2, 4, 0) := by decide +kernel
theorem fe_79_36 : am_fetch 79 36 = some (.aload_n 0, 1, 1, 0, 0) := by decide +kernel
theorem fe_79_37 : am_fetch 79 37 = some (.getfield 24, 3, 3, 7, 6) := by decide +kernel
theorem fe_79_40 : am_fetch 79 40 = some (.iload_n 1, 1, 1, 0, 0) := by decide +kernel
theorem fe_79_41 : am_fetch 79 41 = some (.invokevirtual 102, 3, 7, 39, 0) := by decide +kernel
theorem fe_79_44 : am_fetch 79 44 = some (.aload_n 0, 1, 1, 0, 0) := by decide +kernel
theorem fe_79_45 : am_fetch 79 45 = some (.getfield 20, 3, 3, 7, 5) := by decide +kernel
theorem fe_79_48 : am_fetch 79 48 = some (.iconst 1, 1, 0, 0, 0) := by decide +kernel
theorem fe_79_49 : am_fetch 79 49 = some (.invokevirtual 102, 3, 7, 39, 0) := by decide +kernel
theorem fe_79_52 : am_fetch 79 52 = some (.if_icmp .lt 32, 3, 2, 84, 0) := by decide +kernel
theorem fe_79_55 : am_fetch 79 55 = some (.aload_n 0, 1, 1, 0, 0) := by decide +kernel
theorem fe_79_56 : am_fetch 79 56 = some (.getfield 24, 3, 3, 7, 6) := by decide +kernel
theorem fe_79_59 : am_fetch 79 59 = some (.iload_n 1, 1, 1, 0, 0) := by decide +kernel
theorem fe_79_60 : am_fetch 79 60 = some (.iconst (-1), 1, 0, 0, 0) := by decide +kernel
theorem fe_79_61 : am_fetch 79 61 = some (.invokevirtual 119, 3, 7, 55, 0) := by decide +kernel
theorem fe_79_64 : am_fetch 79 64 = some (.aload_n 0, 1, 1, 0, 0) := by decide +kernel
theorem fe_79_65 : am_fetch 79 65 = some (.dup, 1, 0, 0, 0) := by decide +kernel
theorem fe_79_66 : am_fetch 79 66 = some (.getfield 9, 3, 3, 7, 1) := by decide +kernel
theorem fe_79_69 : am_fetch 79 69 = some (.iconst 1, 1, 0, 0, 0) := by decide +kernel
theorem fe_79_70 : am_fetch 79 70 = some (.iadd, 1, 0, 0, 0) := by decide +kernel
theorem fe_79_71 : am_fetch 79 71 = some (.putfield 9, 3, 4, 7, 1) := by decide +kernel
theorem fe_79_74 : am_fetch 79 74 = some (.aload_n 0, 1, 1, 0, 0) := by decide +kernel
theorem fe_79_75 : am_fetch 79 75 = some (.dup, 1, 0, 0, 0) := by decide +kernel
theorem fe_79_76 : am_fetch 79 76 = some (.getfield 64, 3, 3, 7, 4) := by decide +kernel
theorem fe_79_79 : am_fetch 79 79 = some (.iconst 1, 1, 0, 0, 0) := by decide +kernel
theorem fe_79_80 : am_fetch 79 80 = some (.iadd, 1, 0, 0, 0) := by decide +kernel
theorem fe_79_81 : am_fetch 79 81 = some (.putfield 64, 3, 4, 7, 4) := by decide +kernel
theorem fe_79_84 : am_fetch 79 84 = some (.return_, 1, 8, 0, 0) := by decide +kernel
theorem fe_80_0 : am_fetch 80 0 = some (.aload_n 0, 1, 1, 0, 0) := by decide +kernel
theorem fe_80_1 : am_fetch 80 1 = some (.getfield 47, 3, 3, 7, 10) := by decide +kernel
theorem fe_80_4 : am_fetch 80 4 = some (.getfield 84, 3, 3, 108, 2) := by decide +kernel
theorem fe_80_7 : am_fetch 80 7 = some (.istore_n 2, 1, 1, 0, 0) := by decide +kernel
theorem fe_80_8 : am_fetch 80 8 = some (.iconst 0, 1, 0, 0, 0) := by decide +kernel
theorem fe_80_9 : am_fetch 80 9 = some (.istore_n 3, 1, 1, 0, 0) := by decide +kernel
theorem fe_80_10 : am_fetch 80 10 = some (.iload_n 3, 1, 1, 0, 0) := by decide +kernel
theorem fe_80_11 : am_fetch 80 11 = some (.iload_n 1, 1, 1, 0, 0) := by decide +kernel
theorem fe_80_12 : am_fetch 80 12 = some (.if_icmp .ge 31, 3, 2, 43, 0) := by decide +kernel
theorem fe_80_15 : am_fetch 80 15 = some (.aload_n 0, 1, 1, 0, 0) := by decide +kernel
theorem fe_80_16 : am_fetch 80 16 = some (.dup, 1, 0, 0, 0) := by decide +kernel
theorem fe_80_17 : am_fetch 80 17 = some (.getfield 55, 3, 3, 7, 0) := by decide +kernel
theorem fe_80_20 : am_fetch 80 20 = some (.iconst 1, 1, 0, 0, 0) := by decide +kernel
theorem fe_80_21 : am_fetch 80 21 = some (.iadd, 1, 0, 0, 0) := by decide +kernel
theorem fe_80_22 : am_fetch 80 22 = some (.putfield 55, 3, 4, 7, 0) := by decide +kernel
theorem fe_80_25 : am_fetch 80 25 = some (.aload_n 0, 1, 1, 0, 0) := by decide +kernel
theorem fe_80_26 : am_fetch 80 26 = some (.invokevirtual 87, 3, 7, 76, 0) := by decide +kernel
theorem fe_80_29 : am_fetch 80 29 = some (.aload_n 0, 1, 1, 0, 0) := by decide +kernel
theorem fe_80_30 : am_fetch 80 30 = some (.invokevirtual 90, 3, 7, 78, 0) := by decide +kernel
theorem fe_80_33 : am_fetch 80 33 = some (.aload_n 0, 1, 1, 0, 0) := by decide +kernel
theorem fe_80_34 : am_fetch 80 34 = some (.invokevirtual 93, 3, 7, 79, 0) := by decide +kernel
theorem fe_80_37 : am_fetch 80 37 = some (.iinc 3 1, 3, 1, 0, 0) := by decide +kernel
theorem fe_80_40 : am_fetch 80 40 = some (.goto (-30), 3, 2, 10, 0) := by decide +kernel
theorem fe_80_43 : am_fetch 80 43 = some (.aload_n 0, 1, 1, 0, 0) := by decide +kernel
theorem fe_80_44 : am_fetch 80 44 = some (.getfield 47, 3, 3, 7, 10) := by decide +kernel
theorem fe_80_47 : am_fetch 80 47 = some (.getfield 84, 3, 3, 108, 2) := by decide +kernel
theorem fe_80_50 : am_fetch 80 50 = some (.iload_n 2, 1, 1, 0, 0) := by decide +kernel
theorem fe_80_51 : am_fetch 80 51 = some (.isub, 1, 0, 0, 0) := by decide +kernel
theorem fe_80_52 : am_fetch 80 52 = some (.ireturn, 1, 8, 0, 0) := by decide +kernel
theorem fe_81_0 : am_fetch 81 0 = some (.iload_n 1, 1, 1, 0, 0) := by decide +kernel
theorem fe_81_1 : am_fetch 81 1 = some (.iconst 1, 1, 0, 0, 0) := by decide +kernel
theorem fe_81_2 : am_fetch 81 2 = some (.if_icmp .lt 9, 3, 2, 11, 0) := by decide +kernel
theorem fe_81_5 : am_fetch 81 5 = some (.iload_n 1, 1, 1, 0, 0) := by decide +kernel
theorem fe_81_6 : am_fetch 81 6 = some (.bipush 50, 2, 0, 0, 0) := by decide +kernel
theorem fe_81_8 : am_fetch 81 8 = some (.if_icmp .le 13, 3, 2, 21, 0) := by decide +kernel
theorem fe_81_11 : am_fetch 81 11 = some (.new 69, 3, 9, 0, 0) := by decide +kernel
theorem fe_81_14 : am_fetch 81 14 = some (.dup, 1, 0, 0, 0) := by decide +kernel
theorem fe_81_21 : am_fetch 81 21 = some (.aload_n 0, 1, 1, 0, 0) := by decide +kernel
theorem fe_81_22 : am_fetch 81 22 = some (.getfield 52, 3, 3, 10, 4) := by decide +kernel
theorem fe_81_25 : am_fetch 81 25 = some (.aload_n 0, 1, 1, 0, 0) := by decide +kernel
theorem fe_81_26 : am_fetch 81 26 = some (.getfield 12, 3, 3, 10, 0) := by decide +kernel
theorem fe_81_29 : am_fetch 81 29 = some (.invokevirtual 87, 3, 7, 22, 0) := by decide +kernel
theorem fe_81_32 : am_fetch 81 32 = some (.aload_n 0, 1, 1, 0, 0) := by decide +kernel
theorem fe_81_33 : am_fetch 81 33 = some (.getfield 12, 3, 3, 10, 0) := by decide +kernel
theorem fe_81_36 : am_fetch 81 36 = some (.iload_n 1, 1, 1, 0, 0) := by decide +kernel
theorem fe_81_37 : am_fetch 81 37 = some (.invokevirtual 150, 3, 7, 80, 0) := by decide +kernel
theorem fe_81_40 : am_fetch 81 40 = some (.ireturn, 1, 8, 0, 0) := by decide +kernel
theorem fe_82_0 : am_fetch 82 0 = some (.aload_n 2, 1, 1, 0, 0) := by decide +kernel
theorem fe_82_1 : am_fetch 82 1 = some (.iconst 0, 1, 0, 0, 0) := by decide +kernel
theorem fe_82_2 : am_fetch 82 2 = some (.aload_n 0, 1, 1, 0, 0) := by decide +kernel
theorem fe_82_3 : am_fetch 82 3 = some (.iload_n 1, 1, 1, 0, 0) := by decide +kernel
theorem fe_82_4 : am_fetch 82 4 = some (.invokevirtual 36, 3, 7, 81, 0) := by decide +kernel
theorem fe_82_7 : am_fetch 82 7 = some (.i2l, 1, 0, 0, 0) := by decide +kernel
theorem fe_82_8 : am_fetch 82 8 = some (.lastore, 1, 4, 0, 0) := by decide +kernel
theorem fe_82_9 : am_fetch 82 9 = some (.goto 6, 3, 2, 15, 0) := by decide +kernel
theorem fe_82_12 : am_fetch 82 12 = some (.astore_n 3, 1, 1, 0, 0) := by decide +kernel
theorem fe_82_13 : am_fetch 82 13 = some (.iconst 1, 1, 0, 0, 0) := by decide +kernel
theorem fe_82_14 : am_fetch 82 14 = some (.ireturn, 1, 8, 0, 0) := by decide +kernel
theorem fe_82_15 : am_fetch 82 15 = some (.iconst 0, 1, 0, 0, 0) := by decide +kernel
theorem fe_82_16 : am_fetch 82 16 = some (.ireturn, 1, 8, 0, 0) := by decide +kernel
theorem fe_83_0 : am_fetch 83 0 = some (.aload_n 0, 1, 1, 0, 0) := by decide +kernel
theorem fe_83_1 : am_fetch 83 1 = some (.getfield 7, 3, 3, 11, 0) := by decide +kernel
theorem fe_83_4 : am_fetch 83 4 = some (.bipush 10, 2, 0, 0, 0) := by decide +kernel
theorem fe_83_6 : am_fetch 83 6 = some (.iaload, 1, 3, 0, 0) := by decide +kernel
theorem fe_83_7 : am_fetch 83 7 = some (.bipush 60, 2, 0, 0, 0) := by decide +kernel
theorem fe_83_9 : am_fetch 83 9 = some (.if_icmp .ne 45, 3, 2, 54, 0) := by decide +kernel
theorem fe_83_12 : am_fetch 83 12 = some (.sipush 225, 3, 0, 0, 0) := by decide +kernel
theorem fe_83_15 : am_fetch 83 15 = some (.istore_n 2, 1, 1, 0, 0) := by decide +kernel
theorem fe_83_16 : am_fetch 83 16 = some (.iload_n 2, 1, 1, 0, 0) := by decide +kernel
theorem fe_83_17 : am_fetch 83 17 = some (.sipush 402, 3, 0, 0, 0) := by decide +kernel
theorem fe_83_20 : am_fetch 83 20 = some (.if_icmp .ge 23, 3, 2, 43, 0) := by decide +kernel
theorem fe_83_23 : am_fetch 83 23 = some (.aload_n 0, 1, 1, 0, 0) := by decide +kernel
theorem fe_83_24 : am_fetch 83 24 = some (.getfield 7, 3, 3, 11, 0) := by decide +kernel
theorem fe_83_27 : am_fetch 83 27 = some (.iload_n 2, 1, 1, 0, 0) := by decide +kernel
theorem fe_83_28 : am_fetch 83 28 = some (.aload_n 0, 1, 1, 0, 0) := by decide +kernel
theorem fe_83_29 : am_fetch 83 29 = some (.getfield 7, 3, 3, 11, 0) := by decide +kernel
theorem fe_83_32 : am_fetch 83 32 = some (.iload_n 2, 1, 1, 0, 0) := by decide +kernel
theorem fe_83_33 : am_fetch 83 33 = some (.iconst 3, 1, 0, 0, 0) := by decide +kernel
theorem fe_83_34 : am_fetch 83 34 = some (.iadd, 1, 0, 0, 0) := by decide +kernel
theorem fe_83_35 : am_fetch 83 35 = some (.iaload, 1, 3, 0, 0) := by decide +kernel
theorem fe_83_36 : am_fetch 83 36 = some (.iastore, 1, 4, 0, 0) := by decide +kernel
theorem fe_83_37 : am_fetch 83 37 = some (.iinc 2 1, 3, 1, 0, 0) := by decide +kernel
theorem fe_83_40 : am_fetch 83 40 = some (.goto (-24), 3, 2, 16, 0) := by decide +kernel
theorem fe_83_43 : am_fetch 83 43 = some (.aload_n 0, 1, 1, 0, 0) := by decide +kernel
theorem fe_83_44 : am_fetch 83 44 = some (.getfield 7, 3, 3, 11, 0) := by decide +kernel
theorem fe_83_47 : am_fetch 83 47 = some (.bipush 10, 2, 0, 0, 0) := by decide +kernel
theorem fe_83_49 : am_fetch 83 49 = some (.dup2, 1, 0, 0, 0) := by decide +kernel
theorem fe_83_50 : am_fetch 83 50 = some (.iaload, 1, 3, 0, 0) := by decide +kernel
theorem fe_83_51 : am_fetch 83 51 = some (.iconst 1, 1, 0, 0, 0) := by decide +kernel
theorem fe_83_52 : am_fetch 83 52 = some (.isub, 1, 0, 0, 0) := by decide +kernel
theorem fe_83_53 : am_fetch 83 53 = some (.iastore, 1, 4, 0, 0) := by decide +kernel
theorem fe_83_54 : am_fetch 83 54 = some (.sipush 225, 3, 0, 0, 0) := by decide +kernel
theorem fe_83_57 : am_fetch 83 57 = some (.iconst 3, 1, 0, 0, 0) := by decide +kernel
theorem fe_83_58 : am_fetch 83 58 = some (.aload_n 0, 1, 1, 0, 0) := by decide +kernel
theorem fe_83_59 : am_fetch 83 59 = some (.getfield 7, 3, 3, 11, 0) := by decide +kernel
theorem fe_83_62 : am_fetch 83 62 = some (.bipush 10, 2, 0, 0, 0) := by decide +kernel
theorem fe_83_64 : am_fetch 83 64 = some (.iaload, 1, 3, 0, 0) := by decide +kernel
theorem fe_83_65 : am_fetch 83 65 = some (.imul, 1, 0, 0, 0) := by decide +kernel
theorem fe_83_66 : am_fetch 83 66 = some (.iadd, 1, 0, 0, 0) := by decide +kernel
theorem fe_83_67 : am_fetch 83 67 = some (.istore_n 2, 1, 1, 0, 0) := by decide +kernel
theorem fe_83_68 : am_fetch 83 68 = some (.aload_n 0, 1, 1, 0, 0) := by decide +kernel
theorem fe_83_69 : am_fetch 83 69 = some (.getfield 7, 3, 3, 11, 0) := by decide +kernel
theorem fe_83_72 : am_fetch 83 72 = some (.iload_n 2, 1, 1, 0, 0) := by decide +kernel
theorem fe_83_73 : am_fetch 83 73 = some (.iconst 0, 1, 0, 0, 0) := by decide +kernel
theorem fe_83_74 : am_fetch 83 74 = some (.iadd, 1, 0, 0, 0) := by decide +kernel
theorem fe_83_75 : am_fetch 83 75 = some (.aload_n 0, 1, 1, 0, 0) := by decide +kernel
theorem fe_83_76 : am_fetch 83 76 = some (.getfield 7, 3, 3, 11, 0) := by decide +kernel
theorem fe_83_79 : am_fetch 83 79 = some (.iconst 0, 1, 0, 0, 0) := by decide +kernel
theorem fe_83_80 : am_fetch 83 80 = some (.iaload, 1, 3, 0, 0) := by decide +kernel
theorem fe_83_81 : am_fetch 83 81 = some (.iastore, 1, 4, 0, 0) := by decide +kernel
theorem fe_83_82 : am_fetch 83 82 = some (.aload_n 0, 1, 1, 0, 0) := by decide +kernel
theorem fe_83_83 : am_fetch 83 83 = some (.getfield 7, 3, 3, 11, 0) := by decide +kernel
theorem fe_83_86 : am_fetch 83 86 = some (.iload_n 2, 1, 1, 0, 0) := by decide +kernel
theorem fe_83_87 : am_fetch 83 87 = some (.iconst 1, 1, 0, 0, 0) := by decide +kernel
theorem fe_83_88 : am_fetch 83 88 = some (.iadd, 1, 0, 0, 0) := by decide +kernel
theorem fe_83_89 : am_fetch 83 89 = some (.iload_n 1, 1, 1, 0, 0) := by decide +kernel
theorem fe_83_90 : am_fetch 83 90 = some (.iastore, 1, 4, 0, 0) := by decide +kernel
theorem fe_83_91 : am_fetch 83 91 = some (.aload_n 0, 1, 1, 0, 0) := by decide +kernel
theorem fe_83_92 : am_fetch 83 92 = some (.getfield 7, 3, 3, 11, 0) := by decide +kernel
theorem fe_83_95 : am_fetch 83 95 = some (.iload_n 2, 1, 1, 0, 0) := by decide +kernel
theorem fe_83_96 : am_fetch 83 96 = some (.iconst 2, 1, 0, 0, 0) := by decide +kernel
theorem fe_83_97 : am_fetch 83 97 = some (.iadd, 1, 0, 0, 0) := by decide +kernel
theorem fe_83_98 : am_fetch 83 98 = some (.aload_n 0, 1, 1, 0, 0) := by decide +kernel
theorem fe_83_99 : am_fetch 83 99 = some (.iload_n 1, 1, 1, 0, 0) := by decide +kernel
theorem fe_83_100 : am_fetch 83 100 = some (.iconst 1, 1, 0, 0, 0) := by decide +kernel
theorem fe_83_101 : am_fetch 83 101 = some (.invokevirtual 54, 3, 7, 48, 0) := by decide +kernel
theorem fe_83_104 : am_fetch 83 104 = some (.iastore, 1, 4, 0, 0) := by decide +kernel
theorem fe_83_105 : am_fetch 83 105 = some (.aload_n 0, 1, 1, 0, 0) := by decide +kernel
theorem fe_83_106 : am_fetch 83 106 = some (.getfield 7, 3, 3, 11, 0) := by decide +kernel
theorem fe_83_109 : am_fetch 83 109 = some (.bipush 10, 2, 0, 0, 0) := by decide +kernel
theorem fe_83_111 : am_fetch 83 111 = some (.dup2, 1, 0, 0, 0) := by decide +kernel
theorem fe_83_112 : am_fetch 83 112 = some (.iaload, 1, 3, 0, 0) := by decide +kernel
theorem fe_83_113 : am_fetch 83 113 = some (.iconst 1, 1, 0, 0, 0) := by decide +kernel
theorem fe_83_114 : am_fetch 83 114 = some (.iadd, 1, 0, 0, 0) := by decide +kernel
theorem fe_83_115 : am_fetch 83 115 = some (.iastore, 1, 4, 0, 0) := by decide +kernel
theorem fe_83_116 : am_fetch 83 116 = some (.aload_n 0, 1, 1, 0, 0) := by decide +kernel
theorem fe_83_117 : am_fetch 83 117 = some (.getfield 7, 3, 3, 11, 0) := by decide +kernel
theorem fe_83_120 : am_fetch 83 120 = some (.bipush 9, 2, 0, 0, 0) := by decide +kernel
theorem fe_83_122 : am_fetch 83 122 = some (.dup2, 1, 0, 0, 0) := by decide +kernel
theorem fe_83_123 : am_fetch 83 123 = some (.iaload, 1, 3, 0, 0) := by decide +kernel
theorem fe_83_124 : am_fetch 83 124 = some (.iconst 1, 1, 0, 0, 0) := by decide +kernel
theorem fe_83_125 : am_fetch 83 125 = some (.iadd, 1, 0, 0, 0) := by decide +kernel
theorem fe_83_126 : am_fetch 83 126 = some (.iastore, 1, 4, 0, 0) := by decide +kernel
theorem fe_83_127 : am_fetch 83 127 = some (.return_, 1, 8, 0, 0) := by decide +kernel
theorem fe_84_0 : am_fetch 84 0 = some (.bipush 105, 2, 0, 0, 0) := by decide +kernel
theorem fe_84_2 : am_fetch 84 2 = some (.iconst 3, 1, 0, 0, 0) := by decide +kernel
theorem fe_84_3 : am_fetch 84 3 = some (.iload_n 1, 1, 1, 0, 0) := by decide +kernel
theorem fe_84_4 : am_fetch 84 4 = some (.imul, 1, 0, 0, 0) := by decide +kernel
theorem fe_84_5 : am_fetch 84 5 = some (.iadd, 1, 0, 0, 0) := by decide +kernel
theorem fe_84_6 : am_fetch 84 6 = some (.istore_n 2, 1, 1, 0, 0) := by decide +kernel
theorem fe_84_7 : am_fetch 84 7 = some (.aload_n 0, 1, 1, 0, 0) := by decide +kernel
theorem fe_84_8 : am_fetch 84 8 = some (.getfield 7, 3, 3, 11, 0) := by decide +kernel
theorem fe_84_11 : am_fetch 84 11 = some (.iload_n 2, 1, 1, 0, 0) := by decide +kernel
theorem fe_84_12 : am_fetch 84 12 = some (.iconst 0, 1, 0, 0, 0) := by decide +kernel
theorem fe_84_13 : am_fetch 84 13 = some (.iadd, 1, 0, 0, 0) := by decide +kernel
theorem fe_84_14 : am_fetch 84 14 = some (.iaload, 1, 3, 0, 0) := by decide +kernel
theorem fe_84_15 : am_fetch 84 15 = some (.istore_n 3, 1, 1, 0, 0) := by decide +kernel
theorem fe_84_16 : am_fetch 84 16 = some (.aload_n 0, 1, 1, 0, 0) := by decide +kernel
theorem fe_84_17 : am_fetch 84 17 = some (.iload_n 3, 1, 1, 0, 0) := by decide +kernel
theorem fe_84_18 : am_fetch 84 18 = some (.iconst 0, 1, 0, 0, 0) := by decide +kernel
theorem fe_84_19 : am_fetch 84 19 = some (.invokevirtual 54, 3, 7, 48, 0) := by decide +kernel
theorem fe_84_22 : am_fetch 84 22 = some (.istore 4, 2, 1, 0, 0) := by decide +kernel
theorem fe_84_24 : am_fetch 84 24 = some (.aload_n 0, 1, 1, 0, 0) := by decide +kernel
theorem fe_84_25 : am_fetch 84 25 = some (.iload_n 3, 1, 1, 0, 0) := by decide +kernel
theorem fe_84_26 : am_fetch 84 26 = some (.invokevirtual 58, 3, 7, 83, 0) := by decide +kernel
theorem fe_84_29 : am_fetch 84 29 = some (.aload_n 0, 1, 1, 0, 0) := by decide +kernel
theorem fe_84_30 : am_fetch 84 30 = some (.iload_n 3, 1, 1, 0, 0) := by decide +kernel
theorem fe_84_31 : am_fetch 84 31 = some (.iconst 4, 1, 0, 0, 0) := by decide +kernel
theorem fe_84_32 : am_fetch 84 32 = some (.iload 4, 2, 1, 0, 0) := by decide +kernel
theorem fe_84_34 : am_fetch 84 34 = some (.iadd, 1, 0, 0, 0) := by decide +kernel
theorem fe_84_35 : am_fetch 84 35 = some (.aload_n 0, 1, 1, 0, 0) := by decide +kernel
theorem fe_84_36 : am_fetch 84 36 = some (.iload_n 3, 1, 1, 0, 0) := by decide +kernel
theorem fe_84_37 : am_fetch 84 37 = some (.iconst 4, 1, 0, 0, 0) := by decide +kernel
theorem fe_84_38 : am_fetch 84 38 = some (.iload 4, 2, 1, 0, 0) := by decide +kernel
theorem fe_84_40 : am_fetch 84 40 = some (.iadd, 1, 0, 0, 0) := by decide +kernel
theorem fe_84_41 : am_fetch 84 41 = some (.invokevirtual 54, 3, 7, 48, 0) := by decide +kernel
theorem fe_84_44 : am_fetch 84 44 = some (.iconst 1, 1, 0, 0, 0) := by decide +kernel
theorem fe_84_45 : am_fetch 84 45 = some (.iadd, 1, 0, 0, 0) := by decide +kernel
theorem fe_84_46 : am_fetch 84 46 = some (.invokevirtual 62, 3, 7, 32, 0) := by decide +kernel
theorem fe_84_49 : am_fetch 84 49 = some (.aload_n 0, 1, 1, 0, 0) := by decide +kernel
theorem fe_84_50 : am_fetch 84 50 = some (.iload_n 3, 1, 1, 0, 0) := by decide +kernel
theorem fe_84_51 : am_fetch 84 51 = some (.iconst 0, 1, 0, 0, 0) := by decide +kernel
theorem fe_84_52 : am_fetch 84 52 = some (.iconst 1, 1, 0, 0, 0) := by decide +kernel
theorem fe_84_53 : am_fetch 84 53 = some (.iload 4, 2, 1, 0, 0) := by decide +kernel
theorem fe_84_55 : am_fetch 84 55 = some (.isub, 1, 0, 0, 0) := by decide +kernel
theorem fe_84_56 : am_fetch 84 56 = some (.invokevirtual 62, 3, 7, 32, 0) := by decide +kernel
theorem fe_84_59 : am_fetch 84 59 = some (.aload_n 0, 1, 1, 0, 0) := by decide +kernel
theorem fe_84_60 : am_fetch 84 60 = some (.getfield 7, 3, 3, 11, 0) := by decide +kernel
theorem fe_84_63 : am_fetch 84 63 = some (.iload_n 2, 1, 1, 0, 0) := by decide +kernel
theorem fe_84_64 : am_fetch 84 64 = some (.iconst 0, 1, 0, 0, 0) := by decide +kernel
theorem fe_84_65 : am_fetch 84 65 = some (.iadd, 1, 0, 0, 0) := by decide +kernel
theorem fe_84_66 : am_fetch 84 66 = some (.aload_n 0, 1, 1, 0, 0) := by decide +kernel
theorem fe_84_67 : am_fetch 84 67 = some (.iload_n 3, 1, 1, 0, 0) := by decide +kernel
theorem fe_84_68 : am_fetch 84 68 = some (.iconst 2, 1, 0, 0, 0) := by decide +kernel
theorem fe_84_69 : am_fetch 84 69 = some (.iload 4, 2, 1, 0, 0) := by decide +kernel
theorem fe_84_71 : am_fetch 84 71 = some (.iadd, 1, 0, 0, 0) := by decide +kernel
theorem fe_84_72 : am_fetch 84 72 = some (.invokevirtual 54, 3, 7, 48, 0) := by decide +kernel
theorem fe_84_75 : am_fetch 84 75 = some (.iastore, 1, 4, 0, 0) := by decide +kernel
theorem fe_84_76 : am_fetch 84 76 = some (.aload_n 0, 1, 1, 0, 0) := by decide +kernel
theorem fe_84_77 : am_fetch 84 77 = some (.getfield 7, 3, 3, 11, 0) := by decide +kernel
theorem fe_84_80 : am_fetch 84 80 = some (.iload_n 2, 1, 1, 0, 0) := by decide +kernel
theorem fe_84_81 : am_fetch 84 81 = some (.iconst 2, 1, 0, 0, 0) := by decide +kernel
theorem fe_84_82 : am_fetch 84 82 = some (.iadd, 1, 0, 0, 0) := by decide +kernel
theorem fe_84_83 : am_fetch 84 83 = some (.dup2, 1, 0, 0, 0) := by decide +kernel
theorem fe_84_84 : am_fetch 84 84 = some (.iaload, 1, 3, 0, 0) := by decide +kernel
theorem fe_84_85 : am_fetch 84 85 = some (.iconst 1, 1, 0, 0, 0) := by decide +kernel
theorem fe_84_86 : am_fetch 84 86 = some (.iadd, 1, 0, 0, 0) := by decide +kernel
theorem fe_84_87 : am_fetch 84 87 = some (.iastore, 1, 4, 0, 0) := by decide +kernel
theorem fe_84_88 : am_fetch 84 88 = some (.aload_n 0, 1, 1, 0, 0) := by decide +kernel
theorem fe_84_89 : am_fetch 84 89 = some (.getfield 7, 3, 3, 11, 0) := by decide +kernel
theorem fe_84_92 : am_fetch 84 92 = some (.iload_n 2, 1, 1, 0, 0) := by decide +kernel
theorem fe_84_93 : am_fetch 84 93 = some (.iconst 0, 1, 0, 0, 0) := by decide +kernel
theorem fe_84_94 : am_fetch 84 94 = some (.iadd, 1, 0, 0, 0) := by decide +kernel
theorem fe_84_95 : am_fetch 84 95 = some (.iaload, 1, 3, 0, 0) := by decide +kernel
theorem fe_84_96 : am_fetch 84 96 = some (.ireturn, 1, 8, 0, 0) := by decide +kernel
theorem fe_85_0 : am_fetch 85 0 = some (.aload_n 0, 1, 1, 0, 0) := by decide +kernel
theorem fe_85_1 : am_fetch 85 1 = some (.getfield 7, 3, 3, 11, 0) := by decide +kernel
theorem fe_85_4 : am_fetch 85 4 = some (.iconst 3, 1, 0, 0, 0) := by decide +kernel
theorem fe_85_5 : am_fetch 85 5 = some (.dup2, 1, 0, 0, 0) := by decide +kernel
theorem fe_85_6 : am_fetch 85 6 = some (.iaload, 1, 3, 0, 0) := by decide +kernel
theorem fe_85_7 : am_fetch 85 7 = some (.iconst 1, 1, 0, 0, 0) := by decide +kernel
theorem fe_85_8 : am_fetch 85 8 = some (.isub, 1, 0, 0, 0) := by decide +kernel
theorem fe_85_9 : am_fetch 85 9 = some (.iastore, 1, 4, 0, 0) := by decide +kernel
theorem fe_85_10 : am_fetch 85 10 = some (.bipush 105, 2, 0, 0, 0) := by decide +kernel
theorem fe_85_12 : am_fetch 85 12 = some (.iconst 3, 1, 0, 0, 0) := by decide +kernel
theorem fe_85_13 : am_fetch 85 13 = some (.iload_n 1, 1, 1, 0, 0) := by decide +kernel
theorem fe_85_14 : am_fetch 85 14 = some (.imul, 1, 0, 0, 0) := by decide +kernel
theorem fe_85_15 : am_fetch 85 15 = some (.iadd, 1, 0, 0, 0) := by decide +kernel
theorem fe_85_16 : am_fetch 85 16 = some (.istore_n 2, 1, 1, 0, 0) := by decide +kernel
theorem fe_85_17 : am_fetch 85 17 = some (.iload_n 2, 1, 1, 0, 0) := by decide +kernel
theorem fe_85_18 : am_fetch 85 18 = some (.bipush 105, 2, 0, 0, 0) := by decide +kernel
theorem fe_85_20 : am_fetch 85 20 = some (.iconst 3, 1, 0, 0, 0) := by decide +kernel
theorem fe_85_21 : am_fetch 85 21 = some (.aload_n 0, 1, 1, 0, 0) := by decide +kernel
theorem fe_85_22 : am_fetch 85 22 = some (.getfield 7, 3, 3, 11, 0) := by decide +kernel
theorem fe_85_25 : am_fetch 85 25 = some (.iconst 3, 1, 0, 0, 0) := by decide +kernel
theorem fe_85_26 : am_fetch 85 26 = some (.iaload, 1, 3, 0, 0) := by decide +kernel
theorem fe_85_27 : am_fetch 85 27 = some (.imul, 1, 0, 0, 0) := by decide +kernel
theorem fe_85_28 : am_fetch 85 28 = some (.iadd, 1, 0, 0, 0) := by decide +kernel
theorem fe_85_29 : am_fetch 85 29 = some (.if_icmp .ge 23, 3, 2, 52, 0) := by decide +kernel
theorem fe_85_32 : am_fetch 85 32 = some (.aload_n 0, 1, 1, 0, 0) := by decide +kernel
theorem fe_85_33 : am_fetch 85 33 = some (.getfield 7, 3, 3, 11, 0) := by decide +kernel
theorem fe_85_36 : am_fetch 85 36 = some (.iload_n 2, 1, 1, 0, 0) := by decide +kernel
theorem fe_85_37 : am_fetch 85 37 = some (.aload_n 0, 1, 1, 0, 0) := by decide +kernel
theorem fe_85_38 : am_fetch 85 38 = some (.getfield 7, 3, 3, 11, 0) := by decide +kernel
theorem fe_85_41 : am_fetch 85 41 = some (.iload_n 2, 1, 1, 0, 0) := by decide +kernel
theorem fe_85_42 : am_fetch 85 42 = some (.iconst 3, 1, 0, 0, 0) := by decide +kernel
theorem fe_85_43 : am_fetch 85 43 = some (.iadd, 1, 0, 0, 0) := by decide +kernel
theorem fe_85_44 : am_fetch 85 44 = some (.iaload, 1, 3, 0, 0) := by decide +kernel
theorem fe_85_45 : am_fetch 85 45 = some (.iastore, 1, 4, 0, 0) := by decide +kernel
theorem fe_85_46 : am_fetch 85 46 = some (.iinc 2 1, 3, 1, 0, 0) := by decide +kernel
theorem fe_85_49 : am_fetch 85 49 = some (.goto (-32), 3, 2, 17, 0) := by decide +kernel
theorem fe_85_52 : am_fetch 85 52 = some (.return_, 1, 8, 0, 0) := by decide +kernel
theorem fe_86_0 : am_fetch 86 0 = some (.bipush 105, 2, 0, 0, 0) := by decide +kernel
theorem fe_86_2 : am_fetch 86 2 = some (.iconst 3, 1, 0, 0, 0) := by decide +kernel
theorem fe_86_3 : am_fetch 86 3 = some (.aload_n 0, 1, 1, 0, 0) := by decide +kernel
theorem fe_86_4 : am_fetch 86 4 = some (.getfield 7, 3, 3, 11, 0) := by decide +kernel
theorem fe_86_7 : am_fetch 86 7 = some (.iconst 3, 1, 0, 0, 0) := by decide +kernel
theorem fe_86_8 : am_fetch 86 8 = some (.iaload, 1, 3, 0, 0) := by decide +kernel
theorem fe_86_9 : am_fetch 86 9 = some (.imul, 1, 0, 0, 0) := by decide +kernel
theorem fe_86_10 : am_fetch 86 10 = some (.iadd, 1, 0, 0, 0) := by decide +kernel
theorem fe_86_11 : am_fetch 86 11 = some (.istore_n 1, 1, 1, 0, 0) := by decide +kernel
theorem fe_86_12 : am_fetch 86 12 = some (.aload_n 0, 1, 1, 0, 0) := by decide +kernel
theorem fe_86_13 : am_fetch 86 13 = some (.getfield 7, 3, 3, 11, 0) := by decide +kernel
theorem fe_86_16 : am_fetch 86 16 = some (.iload_n 1, 1, 1, 0, 0) := by decide +kernel
theorem fe_86_17 : am_fetch 86 17 = some (.iconst 0, 1, 0, 0, 0) := by decide +kernel
theorem fe_86_18 : am_fetch 86 18 = some (.iadd, 1, 0, 0, 0) := by decide +kernel
theorem fe_86_19 : am_fetch 86 19 = some (.iconst 0, 1, 0, 0, 0) := by decide +kernel
theorem fe_86_20 : am_fetch 86 20 = some (.iastore, 1, 4, 0, 0) := by decide +kernel
theorem fe_86_21 : am_fetch 86 21 = some (.aload_n 0, 1, 1, 0, 0) := by decide +kernel
theorem fe_86_22 : am_fetch 86 22 = some (.getfield 7, 3, 3, 11, 0) := by decide +kernel
theorem fe_86_25 : am_fetch 86 25 = some (.iload_n 1, 1, 1, 0, 0) := by decide +kernel
theorem fe_86_26 : am_fetch 86 26 = some (.iconst 1, 1, 0, 0, 0) := by decide +kernel
theorem fe_86_27 : am_fetch 86 27 = some (.iadd, 1, 0, 0, 0) := by decide +kernel
theorem fe_86_28 : am_fetch 86 28 = some (.aload_n 0, 1, 1, 0, 0) := by decide +kernel
theorem fe_86_29 : am_fetch 86 29 = some (.getfield 7, 3, 3, 11, 0) := by decide +kernel
theorem fe_86_32 : am_fetch 86 32 = some (.iconst 0, 1, 0, 0, 0) := by decide +kernel
theorem fe_86_33 : am_fetch 86 33 = some (.iaload, 1, 3, 0, 0) := by decide +kernel
theorem fe_86_34 : am_fetch 86 34 = some (.iastore, 1, 4, 0, 0) := by decide +kernel
theorem fe_86_35 : am_fetch 86 35 = some (.aload_n 0, 1, 1, 0, 0) := by decide +kernel
theorem fe_86_36 : am_fetch 86 36 = some (.getfield 7, 3, 3, 11, 0) := by decide +kernel
theorem fe_86_39 : am_fetch 86 39 = some (.iload_n 1, 1, 1, 0, 0) := by decide +kernel
theorem fe_86_40 : am_fetch 86 40 = some (.iconst 2, 1, 0, 0, 0) := by decide +kernel
theorem fe_86_41 : am_fetch 86 41 = some (.iadd, 1, 0, 0, 0) := by decide +kernel
theorem fe_86_42 : am_fetch 86 42 = some (.iconst 0, 1, 0, 0, 0) := by decide +kernel
theorem fe_86_43 : am_fetch 86 43 = some (.iastore, 1, 4, 0, 0) := by decide +kernel
theorem fe_86_44 : am_fetch 86 44 = some (.aload_n 0, 1, 1, 0, 0) := by decide +kernel
theorem fe_86_45 : am_fetch 86 45 = some (.getfield 7, 3, 3, 11, 0) := by decide +kernel
theorem fe_86_48 : am_fetch 86 48 = some (.iconst 3, 1, 0, 0, 0) := by decide +kernel
theorem fe_86_49 : am_fetch 86 49 = some (.dup2, 1, 0, 0, 0) := by decide +kernel
theorem fe_86_50 : am_fetch 86 50 = some (.iaload, 1, 3, 0, 0) := by decide +kernel
theorem fe_86_51 : am_fetch 86 51 = some (.iconst 1, 1, 0, 0, 0) := by decide +kernel
theorem fe_86_52 : am_fetch 86 52 = some (.iadd, 1, 0, 0, 0) := by decide +kernel
theorem fe_86_53 : am_fetch 86 53 = some (.iastore, 1, 4, 0, 0) := by decide +kernel
theorem fe_86_54 : am_fetch 86 54 = some (.aload_n 0, 1, 1, 0, 0) := by decide +kernel
theorem fe_86_55 : am_fetch 86 55 = some (.getfield 7, 3, 3, 11, 0) := by decide +kernel
theorem fe_86_58 : am_fetch 86 58 = some (.iconst 2, 1, 0, 0, 0) := by decide +kernel
theorem fe_86_59 : am_fetch 86 59 = some (.dup2, 1, 0, 0, 0) := by decide +kernel
theorem fe_86_60 : am_fetch 86 60 = some (.iaload, 1, 3, 0, 0) := by decide +kernel
theorem fe_86_61 : am_fetch 86 61 = some (.iconst 1, 1, 0, 0, 0) := by decide +kernel
theorem fe_86_62 : am_fetch 86 62 = some (.isub, 1, 0, 0, 0) := by decide +kernel
theorem fe_86_63 : am_fetch 86 63 = some (.iastore, 1, 4, 0, 0) := by decide +kernel
theorem fe_86_64 : am_fetch 86 64 = some (.aload_n 0, 1, 1, 0, 0) := by decide +kernel
theorem fe_86_65 : am_fetch 86 65 = some (.getfield 7, 3, 3, 11, 0) := by decide +kernel
theorem fe_86_68 : am_fetch 86 68 = some (.iconst 4, 1, 0, 0, 0) := by decide +kernel
theorem fe_86_69 : am_fetch 86 69 = some (.dup2, 1, 0, 0, 0) := by decide +kernel
theorem fe_86_70 : am_fetch 86 70 = some (.iaload, 1, 3, 0, 0) := by decide +kernel
theorem fe_86_71 : am_fetch 86 71 = some (.iconst 1, 1, 0, 0, 0) := by decide +kernel
theorem fe_86_72 : am_fetch 86 72 = some (.isub, 1, 0, 0, 0) := by decide +kernel
theorem fe_86_73 : am_fetch 86 73 = some (.iastore, 1, 4, 0, 0) := by decide +kernel
theorem fe_86_74 : am_fetch 86 74 = some (.aload_n 0, 1, 1, 0, 0) := by decide +kernel
theorem fe_86_75 : am_fetch 86 75 = some (.getfield 7, 3, 3, 11, 0) := by decide +kernel
theorem fe_86_78 : am_fetch 86 78 = some (.bipush 7, 2, 0, 0, 0) := by decide +kernel
theorem fe_86_80 : am_fetch 86 80 = some (.dup2, 1, 0, 0, 0) := by decide +kernel
theorem fe_86_81 : am_fetch 86 81 = some (.iaload, 1, 3, 0, 0) := by decide +kernel
theorem fe_86_82 : am_fetch 86 82 = some (.iconst 1, 1, 0, 0, 0) := by decide +kernel
theorem fe_86_83 : am_fetch 86 83 = some (.iadd, 1, 0, 0, 0) := by decide +kernel
theorem fe_86_84 : am_fetch 86 84 = some (.iastore, 1, 4, 0, 0) := by decide +kernel
theorem fe_86_85 : am_fetch 86 85 = some (.return_, 1, 8, 0, 0) := by decide +kernel
theorem fe_87_0 : am_fetch 87 0 = some (.iconst 0, 1, 0, 0, 0) := by decide +kernel
theorem fe_87_1 : am_fetch 87 1 = some (.istore_n 1, 1, 1, 0, 0) := by decide +kernel
theorem fe_87_2 : am_fetch 87 2 = some (.iconst 1, 1, 0, 0, 0) := by decide +kernel
theorem fe_87_3 : am_fetch 87 3 = some (.istore_n 2, 1, 1, 0, 0) := by decide +kernel
theorem fe_87_4 : am_fetch 87 4 = some (.iload_n 2, 1, 1, 0, 0) := by decide +kernel
theorem fe_87_5 : am_fetch 87 5 = some (.iconst 5, 1, 0, 0, 0) := by decide +kernel
theorem fe_87_6 : am_fetch 87 6 = some (.if_icmp .ge 36, 3, 2, 42, 0) := by decide +kernel
theorem fe_87_9 : am_fetch 87 9 = some (.aload_n 0, 1, 1, 0, 0) := by decide +kernel
theorem fe_87_10 : am_fetch 87 10 = some (.getfield 7, 3, 3, 11, 0) := by decide +kernel
theorem fe_87_13 : am_fetch 87 13 = some (.bipush 95, 2, 0, 0, 0) := by decide +kernel
theorem fe_87_15 : am_fetch 87 15 = some (.iload_n 2, 1, 1, 0, 0) := by decide +kernel
theorem fe_87_16 : am_fetch 87 16 = some (.iadd, 1, 0, 0, 0) := by decide +kernel
theorem fe_87_17 : am_fetch 87 17 = some (.iaload, 1, 3, 0, 0) := by decide +kernel
theorem fe_87_18 : am_fetch 87 18 = some (.aload_n 0, 1, 1, 0, 0) := by decide +kernel
theorem fe_87_19 : am_fetch 87 19 = some (.getfield 7, 3, 3, 11, 0) := by decide +kernel
theorem fe_87_22 : am_fetch 87 22 = some (.bipush 95, 2, 0, 0, 0) := by decide +kernel
theorem fe_87_24 : am_fetch 87 24 = some (.iload_n 1, 1, 1, 0, 0) := by decide +kernel
theorem fe_87_25 : am_fetch 87 25 = some (.iadd, 1, 0, 0, 0) := by decide +kernel
theorem fe_87_26 : am_fetch 87 26 = some (.iaload, 1, 3, 0, 0) := by decide +kernel
theorem fe_87_27 : am_fetch 87 27 = some (.if_icmp .le 7, 3, 2, 34, 0) := by decide +kernel
theorem fe_87_30 : am_fetch 87 30 = some (.iload_n 2, 1, 1, 0, 0) := by decide +kernel
theorem fe_87_31 : am_fetch 87 31 = some (.goto 4, 3, 2, 35, 0) := by decide +kernel
theorem fe_87_34 : am_fetch 87 34 = some (.iload_n 1, 1, 1, 0, 0) := by decide +kernel
theorem fe_87_35 : am_fetch 87 35 = some (.istore_n 1, 1, 1, 0, 0) := by decide +kernel
theorem fe_87_36 : am_fetch 87 36 = some (.iinc 2 1, 3, 1, 0, 0) := by decide +kernel
theorem fe_87_39 : am_fetch 87 39 = some (.goto (-35), 3, 2, 4, 0) := by decide +kernel
theorem fe_87_42 : am_fetch 87 42 = some (.aload_n 0, 1, 1, 0, 0) := by decide +kernel
theorem fe_87_43 : am_fetch 87 43 = some (.getfield 7, 3, 3, 11, 0) := by decide +kernel
theorem fe_87_46 : am_fetch 87 46 = some (.bipush 95, 2, 0, 0, 0) := by decide +kernel
theorem fe_87_48 : am_fetch 87 48 = some (.iload_n 1, 1, 1, 0, 0) := by decide +kernel
theorem fe_87_49 : am_fetch 87 49 = some (.iadd, 1, 0, 0, 0) := by decide +kernel
theorem fe_87_50 : am_fetch 87 50 = some (.iaload, 1, 3, 0, 0) := by decide +kernel
theorem fe_87_51 : am_fetch 87 51 = some (.aload_n 0, 1, 1, 0, 0) := by decide +kernel
theorem fe_87_52 : am_fetch 87 52 = some (.getfield 7, 3, 3, 11, 0) := by decide +kernel
theorem fe_87_55 : am_fetch 87 55 = some (.bipush 6, 2, 0, 0, 0) := by decide +kernel
theorem fe_87_57 : am_fetch 87 57 = some (.iaload, 1, 3, 0, 0) := by decide +kernel
theorem fe_87_58 : am_fetch 87 58 = some (.if_icmp .lt 37, 3, 2, 95, 0) := by decide +kernel
theorem fe_87_61 : am_fetch 87 61 = some (.aload_n 0, 1, 1, 0, 0) := by decide +kernel
theorem fe_87_62 : am_fetch 87 62 = some (.getfield 7, 3, 3, 11, 0) := by decide +kernel
theorem fe_87_65 : am_fetch 87 65 = some (.bipush 95, 2, 0, 0, 0) := by decide +kernel
theorem fe_87_67 : am_fetch 87 67 = some (.iload_n 1, 1, 1, 0, 0) := by decide +kernel
theorem fe_87_68 : am_fetch 87 68 = some (.iadd, 1, 0, 0, 0) := by decide +kernel
theorem fe_87_69 : am_fetch 87 69 = some (.dup2, 1, 0, 0, 0) := by decide +kernel
theorem fe_87_70 : am_fetch 87 70 = some (.iaload, 1, 3, 0, 0) := by decide +kernel
theorem fe_87_71 : am_fetch 87 71 = some (.iconst 1, 1, 0, 0, 0) := by decide +kernel
theorem fe_87_72 : am_fetch 87 72 = some (.isub, 1, 0, 0, 0) := by decide +kernel
theorem fe_87_73 : am_fetch 87 73 = some (.iastore, 1, 4, 0, 0) := by decide +kernel
theorem fe_87_74 : am_fetch 87 74 = some (.aload_n 0, 1, 1, 0, 0) := by decide +kernel
theorem fe_87_75 : am_fetch 87 75 = some (.getfield 7, 3, 3, 11, 0) := by decide +kernel
theorem fe_87_78 : am_fetch 87 78 = some (.iconst 2, 1, 0, 0, 0) := by decide +kernel
theorem fe_87_79 : am_fetch 87 79 = some (.dup2, 1, 0, 0, 0) := by decide +kernel
theorem fe_87_80 : am_fetch 87 80 = some (.iaload, 1, 3, 0, 0) := by decide +kernel
theorem fe_87_81 : am_fetch 87 81 = some (.iconst 1, 1, 0, 0, 0) := by decide +kernel
theorem fe_87_82 : am_fetch 87 82 = some (.iadd, 1, 0, 0, 0) := by decide +kernel
theorem fe_87_83 : am_fetch 87 83 = some (.iastore, 1, 4, 0, 0) := by decide +kernel
theorem fe_87_84 : am_fetch 87 84 = some (.aload_n 0, 1, 1, 0, 0) := by decide +kernel
theorem fe_87_85 : am_fetch 87 85 = some (.getfield 7, 3, 3, 11, 0) := by decide +kernel
theorem fe_87_88 : am_fetch 87 88 = some (.bipush 8, 2, 0, 0, 0) := by decide +kernel
theorem fe_87_90 : am_fetch 87 90 = some (.dup2, 1, 0, 0, 0) := by decide +kernel
theorem fe_87_91 : am_fetch 87 91 = some (.iaload, 1, 3, 0, 0) := by decide +kernel
theorem fe_87_92 : am_fetch 87 92 = some (.iconst 1, 1, 0, 0, 0) := by decide +kernel
theorem fe_87_93 : am_fetch 87 93 = some (.iadd, 1, 0, 0, 0) := by decide +kernel
theorem fe_87_94 : am_fetch 87 94 = some (.iastore, 1, 4, 0, 0) := by decide +kernel
theorem fe_87_95 : am_fetch 87 95 = some (.return_, 1, 8, 0, 0) := by decide +kernel
theorem fe_88_0 : am_fetch 88 0 = some (.aload_n 0, 1, 1, 0, 0) := by decide +kernel
theorem fe_88_1 : am_fetch 88 1 = some (.getfield 7, 3, 3, 11, 0) := by decide +kernel
theorem fe_88_4 : am_fetch 88 4 = some (.iconst 0, 1, 0, 0, 0) := by decide +kernel
theorem fe_88_5 : am_fetch 88 5 = some (.dup2, 1, 0, 0, 0) := by decide +kernel
theorem fe_88_6 : am_fetch 88 6 = some (.iaload, 1, 3, 0, 0) := by decide +kernel
theorem fe_88_7 : am_fetch 88 7 = some (.iconst 1, 1, 0, 0, 0) := by decide +kernel
theorem fe_88_8 : am_fetch 88 8 = some (.iadd, 1, 0, 0, 0) := by decide +kernel
theorem fe_88_9 : am_fetch 88 9 = some (.iastore, 1, 4, 0, 0) := by decide +kernel
theorem fe_88_10 : am_fetch 88 10 = some (.iconst 0, 1, 0, 0, 0) := by decide +kernel
theorem fe_88_11 : am_fetch 88 11 = some (.istore_n 1, 1, 1, 0, 0) := by decide +kernel
theorem fe_88_12 : am_fetch 88 12 = some (.iload_n 1, 1, 1, 0, 0) := by decide +kernel
theorem fe_88_13 : am_fetch 88 13 = some (.aload_n 0, 1, 1, 0, 0) := by decide +kernel
theorem fe_88_14 : am_fetch 88 14 = some (.getfield 7, 3, 3, 11, 0) := by decide +kernel
theorem fe_88_17 : am_fetch 88 17 = some (.iconst 3, 1, 0, 0, 0) := by decide +kernel
theorem fe_88_18 : am_fetch 88 18 = some (.iaload, 1, 3, 0, 0) := by decide +kernel
theorem fe_88_19 : am_fetch 88 19 = some (.if_icmp .ge 61, 3, 2, 80, 0) := by decide +kernel
theorem fe_88_22 : am_fetch 88 22 = some (.aload_n 0, 1, 1, 0, 0) := by decide +kernel
theorem fe_88_23 : am_fetch 88 23 = some (.iload_n 1, 1, 1, 0, 0) := by decide +kernel
theorem fe_88_24 : am_fetch 88 24 = some (.invokevirtual 66, 3, 7, 84, 0) := by decide +kernel
theorem fe_88_27 : am_fetch 88 27 = some (.istore_n 2, 1, 1, 0, 0) := by decide +kernel
theorem fe_88_28 : am_fetch 88 28 = some (.iload_n 2, 1, 1, 0, 0) := by decide +kernel
theorem fe_88_29 : am_fetch 88 29 = some (.bipush 20, 2, 0, 0, 0) := by decide +kernel
theorem fe_88_31 : am_fetch 88 31 = some (.if_icmp .lt 43, 3, 2, 74, 0) := by decide +kernel
theorem fe_88_34 : am_fetch 88 34 = some (.aload_n 0, 1, 1, 0, 0) := by decide +kernel
theorem fe_88_35 : am_fetch 88 35 = some (.getfield 7, 3, 3, 11, 0) := by decide +kernel
theorem fe_88_38 : am_fetch 88 38 = some (.bipush 95, 2, 0, 0, 0) := by decide +kernel
theorem fe_88_40 : am_fetch 88 40 = some (.iload_n 2, 1, 1, 0, 0) := by decide +kernel
theorem fe_88_41 : am_fetch 88 41 = some (.iadd, 1, 0, 0, 0) := by decide +kernel
theorem fe_88_42 : am_fetch 88 42 = some (.bipush 20, 2, 0, 0, 0) := by decide +kernel
theorem fe_88_44 : am_fetch 88 44 = some (.isub, 1, 0, 0, 0) := by decide +kernel
theorem fe_88_45 : am_fetch 88 45 = some (.dup2, 1, 0, 0, 0) := by decide +kernel
theorem fe_88_46 : am_fetch 88 46 = some (.iaload, 1, 3, 0, 0) := by decide +kernel
theorem fe_88_47 : am_fetch 88 47 = some (.iconst 1, 1, 0, 0, 0) := by decide +kernel
theorem fe_88_48 : am_fetch 88 48 = some (.iadd, 1, 0, 0, 0) := by decide +kernel
theorem fe_88_49 : am_fetch 88 49 = some (.iastore, 1, 4, 0, 0) := by decide +kernel
theorem fe_88_50 : am_fetch 88 50 = some (.aload_n 0, 1, 1, 0, 0) := by decide +kernel
theorem fe_88_51 : am_fetch 88 51 = some (.getfield 7, 3, 3, 11, 0) := by decide +kernel
theorem fe_88_54 : am_fetch 88 54 = some (.bipush 100, 2, 0, 0, 0) := by decide +kernel
theorem fe_88_56 : am_fetch 88 56 = some (.iload_n 2, 1, 1, 0, 0) := by decide +kernel
theorem fe_88_57 : am_fetch 88 57 = some (.iadd, 1, 0, 0, 0) := by decide +kernel
theorem fe_88_58 : am_fetch 88 58 = some (.bipush 20, 2, 0, 0, 0) := by decide +kernel
theorem fe_88_60 : am_fetch 88 60 = some (.isub, 1, 0, 0, 0) := by decide +kernel
theorem fe_88_61 : am_fetch 88 61 = some (.dup2, 1, 0, 0, 0) := by decide +kernel
theorem fe_88_62 : am_fetch 88 62 = some (.iaload, 1, 3, 0, 0) := by decide +kernel
theorem fe_88_63 : am_fetch 88 63 = some (.iconst 1, 1, 0, 0, 0) := by decide +kernel
theorem fe_88_64 : am_fetch 88 64 = some (.iadd, 1, 0, 0, 0) := by decide +kernel
theorem fe_88_65 : am_fetch 88 65 = some (.iastore, 1, 4, 0, 0) := by decide +kernel
theorem fe_88_66 : am_fetch 88 66 = some (.aload_n 0, 1, 1, 0, 0) := by decide +kernel
theorem fe_88_67 : am_fetch 88 67 = some (.iload_n 1, 1, 1, 0, 0) := by decide +kernel
theorem fe_88_68 : am_fetch 88 68 = some (.invokevirtual 70, 3, 7, 85, 0) := by decide +kernel
theorem fe_88_71 : am_fetch 88 71 = some (.goto 6, 3, 2, 77, 0) := by decide +kernel
theorem fe_88_74 : am_fetch 88 74 = some (.iinc 1 1, 3, 1, 0, 0) := by decide +kernel
theorem fe_88_77 : am_fetch 88 77 = some (.goto (-65), 3, 2, 12, 0) := by decide +kernel
theorem fe_88_80 : am_fetch 88 80 = some (.aload_n 0, 1, 1, 0, 0) := by decide +kernel
theorem fe_88_81 : am_fetch 88 81 = some (.getfield 7, 3, 3, 11, 0) := by decide +kernel
theorem fe_88_84 : am_fetch 88 84 = some (.iconst 0, 1, 0, 0, 0) := by decide +kernel
theorem fe_88_85 : am_fetch 88 85 = some (.iaload, 1, 3, 0, 0) := by decide +kernel
theorem fe_88_86 : am_fetch 88 86 = some (.aload_n 0, 1, 1, 0, 0) := by decide +kernel
theorem fe_88_87 : am_fetch 88 87 = some (.getfield 7, 3, 3, 11, 0) := by decide +kernel
theorem fe_88_90 : am_fetch 88 90 = some (.iconst 5, 1, 0, 0, 0) := by decide +kernel
theorem fe_88_91 : am_fetch 88 91 = some (.iaload, 1, 3, 0, 0) := by decide +kernel
theorem fe_88_92 : am_fetch 88 92 = some (.irem, 1, 0, 0, 0) := by decide +kernel
theorem fe_88_93 : am_fetch 88 93 = some (.ifCond .ne 34, 3, 2, 127, 0) := by decide +kernel
theorem fe_88_96 : am_fetch 88 96 = some (.aload_n 0, 1, 1, 0, 0) := by decide +kernel
theorem fe_88_97 : am_fetch 88 97 = some (.getfield 7, 3, 3, 11, 0) := by decide +kernel
theorem fe_88_100 : am_fetch 88 100 = some (.iconst 4, 1, 0, 0, 0) := by decide +kernel
theorem fe_88_101 : am_fetch 88 101 = some (.iaload, 1, 3, 0, 0) := by decide +kernel
theorem fe_88_102 : am_fetch 88 102 = some (.ifCond .le 25, 3, 2, 127, 0) := by decide +kernel
theorem fe_88_105 : am_fetch 88 105 = some (.aload_n 0, 1, 1, 0, 0) := by decide +kernel
theorem fe_88_106 : am_fetch 88 106 = some (.getfield 7, 3, 3, 11, 0) := by decide +kernel
theorem fe_88_109 : am_fetch 88 109 = some (.iconst 2, 1, 0, 0, 0) := by decide +kernel
theorem fe_88_110 : am_fetch 88 110 = some (.iaload, 1, 3, 0, 0) := by decide +kernel
theorem fe_88_111 : am_fetch 88 111 = some (.ifCond .le 16, 3, 2, 127, 0) := by decide +kernel
theorem fe_88_114 : am_fetch 88 114 = some (.aload_n 0, 1, 1, 0, 0) := by decide +kernel
theorem fe_88_115 : am_fetch 88 115 = some (.getfield 7, 3, 3, 11, 0) := by decide +kernel
theorem fe_88_118 : am_fetch 88 118 = some (.iconst 1, 1, 0, 0, 0) := by decide +kernel
theorem fe_88_119 : am_fetch 88 119 = some (.iaload, 1, 3, 0, 0) := by decide +kernel
theorem fe_88_120 : am_fetch 88 120 = some (.ifCond .le 7, 3, 2, 127, 0) := by decide +kernel
theorem fe_88_123 : am_fetch 88 123 = some (.aload_n 0, 1, 1, 0, 0) := by decide +kernel
theorem fe_88_124 : am_fetch 88 124 = some (.invokevirtual 73, 3, 7, 86, 0) := by decide +kernel
theorem fe_88_127 : am_fetch 88 127 = some (.aload_n 0, 1, 1, 0, 0) := by decide +kernel
theorem fe_88_128 : am_fetch 88 128 = some (.invokevirtual 76, 3, 7, 87, 0) := by decide +kernel
theorem fe_88_131 : am_fetch 88 131 = some (.return_, 1, 8, 0, 0) := by decide +kernel
theorem fe_89_0 : am_fetch 89 0 = some (.aload_n 0, 1, 1, 0, 0) := by decide +kernel
theorem fe_89_1 : am_fetch 89 1 = some (.getfield 7, 3, 3, 11, 0) := by decide +kernel
theorem fe_89_4 : am_fetch 89 4 = some (.bipush 9, 2, 0, 0, 0) := by decide +kernel
theorem fe_89_6 : am_fetch 89 6 = some (.iaload, 1, 3, 0, 0) := by decide +kernel
theorem fe_89_7 : am_fetch 89 7 = some (.istore_n 2, 1, 1, 0, 0) := by decide +kernel
theorem fe_89_8 : am_fetch 89 8 = some (.iconst 0, 1, 0, 0, 0) := by decide +kernel
theorem fe_89_9 : am_fetch 89 9 = some (.istore_n 3, 1, 1, 0, 0) := by decide +kernel
theorem fe_89_10 : am_fetch 89 10 = some (.iload_n 3, 1, 1, 0, 0) := by decide +kernel
theorem fe_89_11 : am_fetch 89 11 = some (.iload_n 1, 1, 1, 0, 0) := by decide +kernel
theorem fe_89_12 : am_fetch 89 12 = some (.if_icmp .ge 13, 3, 2, 25, 0) := by decide +kernel
theorem fe_89_15 : am_fetch 89 15 = some (.aload_n 0, 1, 1, 0, 0) := by decide +kernel
theorem fe_89_16 : am_fetch 89 16 = some (.invokevirtual 85, 3, 7, 88, 0) := by decide +kernel
theorem fe_89_19 : am_fetch 89 19 = some (.iinc 3 1, 3, 1, 0, 0) := by decide +kernel
theorem fe_89_22 : am_fetch 89 22 = some (.goto (-12), 3, 2, 10, 0) := by decide +kernel
theorem fe_89_25 : am_fetch 89 25 = some (.aload_n 0, 1, 1, 0, 0) := by decide +kernel
theorem fe_89_26 : am_fetch 89 26 = some (.getfield 7, 3, 3, 11, 0) := by decide +kernel
theorem fe_89_29 : am_fetch 89 29 = some (.bipush 9, 2, 0, 0, 0) := by decide +kernel
theorem fe_89_31 : am_fetch 89 31 = some (.iaload, 1, 3, 0, 0) := by decide +kernel
theorem fe_89_32 : am_fetch 89 32 = some (.iload_n 2, 1, 1, 0, 0) := by decide +kernel
theorem fe_89_33 : am_fetch 89 33 = some (.isub, 1, 0, 0, 0) := by decide +kernel
theorem fe_89_34 : am_fetch 89 34 = some (.ireturn, 1, 8, 0, 0) := by decide +kernel
theorem fe_90_0 : am_fetch 90 0 = some (.aload_n 0, 1, 1, 0, 0) := by decide +kernel
theorem fe_90_1 : am_fetch 90 1 = some (.iload_n 1, 1, 1, 0, 0) := by decide +kernel
theorem fe_90_2 : am_fetch 90 2 = some (.iconst 1, 1, 0, 0, 0) := by decide +kernel
theorem fe_90_3 : am_fetch 90 3 = some (.bipush 50, 2, 0, 0, 0) := by decide +kernel
theorem fe_90_5 : am_fetch 90 5 = some (.invokestatic 36, 3, 7, 26, 0) := by decide +kernel
theorem fe_90_8 : am_fetch 90 8 = some (.ifCond .eq 7, 3, 2, 15, 0) := by decide +kernel
theorem fe_90_11 : am_fetch 90 11 = some (.iconst 0, 1, 0, 0, 0) := by decide +kernel
theorem fe_90_12 : am_fetch 90 12 = some (.goto 4, 3, 2, 16, 0) := by decide +kernel
theorem fe_90_15 : am_fetch 90 15 = some (.iconst 1, 1, 0, 0, 0) := by decide +kernel
theorem fe_90_16 : am_fetch 90 16 = some (.invokevirtual 91, 3, 7, 29, 0) := by decide +kernel
theorem fe_90_19 : am_fetch 90 19 = some (.ifCond .ne 5, 3, 2, 24, 0) := by decide +kernel
theorem fe_90_22 : am_fetch 90 22 = some (.iconst 0, 1, 0, 0, 0) := by decide +kernel
theorem fe_90_23 : am_fetch 90 23 = some (.ireturn, 1, 8, 0, 0) := by decide +kernel
theorem fe_90_24 : am_fetch 90 24 = some (.aload_n 0, 1, 1, 0, 0) := by decide +kernel
theorem fe_90_25 : am_fetch 90 25 = some (.invokevirtual 94, 3, 7, 31, 0) := by decide +kernel
theorem fe_90_28 : am_fetch 90 28 = some (.aload_n 0, 1, 1, 0, 0) := by decide +kernel
theorem fe_90_29 : am_fetch 90 29 = some (.iload_n 1, 1, 1, 0, 0) := by decide +kernel
theorem fe_90_30 : am_fetch 90 30 = some (.invokevirtual 116, 3, 7, 89, 0) := by decide +kernel
theorem fe_90_33 : am_fetch 90 33 = some (.ireturn, 1, 8, 0, 0) := by decide +kernel
theorem fe_91_0 : am_fetch 91 0 = some (.iload_n 0, 1, 1, 0, 0) := by decide +kernel
theorem fe_91_1 : am_fetch 91 1 = some (.ifCond .lt 12, 3, 2, 13, 0) := by decide +kernel
theorem fe_91_4 : am_fetch 91 4 = some (.iload_n 0, 1, 1, 0, 0) := by decide +kernel
theorem fe_91_5 : am_fetch 91 5 = some (.iconst 5, 1, 0, 0, 0) := by decide +kernel
theorem fe_91_6 : am_fetch 91 6 = some (.if_icmp .ge 7, 3, 2, 13, 0) := by decide +kernel
theorem fe_91_9 : am_fetch 91 9 = some (.iconst 1, 1, 0, 0, 0) := by decide +kernel
theorem fe_91_10 : am_fetch 91 10 = some (.goto 4, 3, 2, 14, 0) := by decide +kernel
theorem fe_91_13 : am_fetch 91 13 = some (.iconst 0, 1, 0, 0, 0) := by decide +kernel
theorem fe_91_14 : am_fetch 91 14 = some (.ireturn, 1, 8, 0, 0) := by decide +kernel
theorem fe_92_0 : am_fetch 92 0 = some (.aload_n 0, 1, 1, 0, 0) := by decide +kernel
theorem fe_92_1 : am_fetch 92 1 = some (.getfield 24, 3, 3, 7, 6) := by decide +kernel
theorem fe_92_4 : am_fetch 92 4 = some (.iload_n 1, 1, 1, 0, 0) := by decide +kernel
theorem fe_92_5 : am_fetch 92 5 = some (.iconst 0, 1, 0, 0, 0) := by decide +kernel
theorem fe_92_6 : am_fetch 92 6 = some (.invokevirtual 80, 3, 7, 40, 0) := by decide +kernel
theorem fe_92_9 : am_fetch 92 9 = some (.istore_n 2, 1, 1, 0, 0) := by decide +kernel
theorem fe_92_10 : am_fetch 92 10 = some (.aload_n 0, 1, 1, 0, 0) := by decide +kernel
theorem fe_92_11 : am_fetch 92 11 = some (.dup, 1, 0, 0, 0) := by decide +kernel
theorem fe_92_12 : am_fetch 92 12 = some (.getfield 9, 3, 3, 7, 1) := by decide +kernel
theorem fe_92_15 : am_fetch 92 15 = some (.iload_n 2, 1, 1, 0, 0) := by decide +kernel
theorem fe_92_16 : am_fetch 92 16 = some (.iadd, 1, 0, 0, 0) := by decide +kernel
theorem fe_92_17 : am_fetch 92 17 = some (.putfield 9, 3, 4, 7, 1) := by decide +kernel
theorem fe_92_20 : am_fetch 92 20 = some (.iload_n 2, 1, 1, 0, 0) := by decide +kernel
theorem fe_92_21 : am_fetch 92 21 = some (.ireturn, 1, 8, 0, 0) := by decide +kernel
theorem fe_93_0 : am_fetch 93 0 = some (.iload_n 1, 1, 1, 0, 0) := by decide +kernel
theorem fe_93_1 : am_fetch 93 1 = some (.invokestatic 153, 3, 7, 91, 0) := by decide +kernel
theorem fe_93_4 : am_fetch 93 4 = some (.ifCond .ne 13, 3, 2, 17, 0) := by decide +kernel
theorem fe_93_7 : am_fetch 93 7 = some (.new 102, 3, 9, 2, 0) := by decide +kernel
theorem fe_93_10 : am_fetch 93 10 = some (.dup, 1, 0, 0, 0) := by decide +kernel
theorem fe_93_17 : am_fetch 93 17 = some (.aload_n 0, 1, 1, 0, 0) := by decide +kernel
theorem fe_93_18 : am_fetch 93 18 = some (.getfield 52, 3, 3, 10, 4) := by decide +kernel
theorem fe_93_21 : am_fetch 93 21 = some (.aload_n 0, 1, 1, 0, 0) := by decide +kernel
theorem fe_93_22 : am_fetch 93 22 = some (.getfield 12, 3, 3, 10, 0) := by decide +kernel
theorem fe_93_25 : am_fetch 93 25 = some (.invokevirtual 87, 3, 7, 22, 0) := by decide +kernel
theorem fe_93_28 : am_fetch 93 28 = some (.aload_n 0, 1, 1, 0, 0) := by decide +kernel
theorem fe_93_29 : am_fetch 93 29 = some (.getfield 12, 3, 3, 10, 0) := by decide +kernel
theorem fe_93_32 : am_fetch 93 32 = some (.iload_n 1, 1, 1, 0, 0) := by decide +kernel
theorem fe_93_33 : am_fetch 93 33 = some (.invokevirtual 158, 3, 7, 92, 0) := by decide +kernel
theorem fe_93_36 : am_fetch 93 36 = some (.ireturn, 1, 8, 0, 0) := by decide +kernel
theorem fe_94_0 : am_fetch 94 0 = some (.aload_n 2, 1, 1, 0, 0) := by decide +kernel
theorem fe_94_1 : am_fetch 94 1 = some (.iconst 0, 1, 0, 0, 0) := by decide +kernel
theorem fe_94_2 : am_fetch 94 2 = some (.aload_n 0, 1, 1, 0, 0) := by decide +kernel
theorem fe_94_3 : am_fetch 94 3 = some (.iload_n 1, 1, 1, 0, 0) := by decide +kernel
theorem fe_94_4 : am_fetch 94 4 = some (.invokevirtual 39, 3, 7, 93, 0) := by decide +kernel
theorem fe_94_7 : am_fetch 94 7 = some (.i2l, 1, 0, 0, 0) := by decide +kernel
theorem fe_94_8 : am_fetch 94 8 = some (.lastore, 1, 4, 0, 0) := by decide +kernel
theorem fe_94_9 : am_fetch 94 9 = some (.goto 6, 3, 2, 15, 0) := by decide +kernel
theorem fe_94_12 : am_fetch 94 12 = some (.astore_n 3, 1, 1, 0, 0) := by decide +kernel
theorem fe_94_13 : am_fetch 94 13 = some (.iconst 1, 1, 0, 0, 0) := by decide +kernel
theorem fe_94_14 : am_fetch 94 14 = some (.ireturn, 1, 8, 0, 0) := by decide +kernel
theorem fe_94_15 : am_fetch 94 15 = some (.iconst 0, 1, 0, 0, 0) := by decide +kernel
theorem fe_94_16 : am_fetch 94 16 = some (.ireturn, 1, 8, 0, 0) := by decide +kernel
theorem fe_95_0 : am_fetch 95 0 = some (.aload_n 0, 1, 1, 0, 0) := by decide +kernel
theorem fe_95_1 : am_fetch 95 1 = some (.iload_n 1, 1, 1, 0, 0) := by decide +kernel
theorem fe_95_2 : am_fetch 95 2 = some (.invokestatic 44, 3, 7, 45, 0) := by decide +kernel
theorem fe_95_5 : am_fetch 95 5 = some (.ifCond .eq 7, 3, 2, 12, 0) := by decide +kernel
theorem fe_95_8 : am_fetch 95 8 = some (.iconst 0, 1, 0, 0, 0) := by decide +kernel
theorem fe_95_9 : am_fetch 95 9 = some (.goto 4, 3, 2, 13, 0) := by decide +kernel
theorem fe_95_12 : am_fetch 95 12 = some (.iconst 1, 1, 0, 0, 0) := by decide +kernel
theorem fe_95_13 : am_fetch 95 13 = some (.invokevirtual 91, 3, 7, 29, 0) := by decide +kernel
theorem fe_95_16 : am_fetch 95 16 = some (.ifCond .ne 5, 3, 2, 21, 0) := by decide +kernel
theorem fe_95_19 : am_fetch 95 19 = some (.iconst 0, 1, 0, 0, 0) := by decide +kernel
theorem fe_95_20 : am_fetch 95 20 = some (.ireturn, 1, 8, 0, 0) := by decide +kernel
theorem fe_95_21 : am_fetch 95 21 = some (.aload_n 0, 1, 1, 0, 0) := by decide +kernel
theorem fe_95_22 : am_fetch 95 22 = some (.invokevirtual 94, 3, 7, 31, 0) := by decide +kernel
theorem fe_95_25 : am_fetch 95 25 = some (.aload_n 0, 1, 1, 0, 0) := by decide +kernel
theorem fe_95_26 : am_fetch 95 26 = some (.getfield 7, 3, 3, 11, 0) := by decide +kernel
theorem fe_95_29 : am_fetch 95 29 = some (.bipush 95, 2, 0, 0, 0) := by decide +kernel
theorem fe_95_31 : am_fetch 95 31 = some (.iload_n 1, 1, 1, 0, 0) := by decide +kernel
theorem fe_95_32 : am_fetch 95 32 = some (.iadd, 1, 0, 0, 0) := by decide +kernel
theorem fe_95_33 : am_fetch 95 33 = some (.iaload, 1, 3, 0, 0) := by decide +kernel
theorem fe_95_34 : am_fetch 95 34 = some (.istore_n 2, 1, 1, 0, 0) := by decide +kernel
theorem fe_95_35 : am_fetch 95 35 = some (.aload_n 0, 1, 1, 0, 0) := by decide +kernel
theorem fe_95_36 : am_fetch 95 36 = some (.getfield 7, 3, 3, 11, 0) := by decide +kernel
theorem fe_95_39 : am_fetch 95 39 = some (.bipush 95, 2, 0, 0, 0) := by decide +kernel
theorem fe_95_41 : am_fetch 95 41 = some (.iload_n 1, 1, 1, 0, 0) := by decide +kernel
theorem fe_95_42 : am_fetch 95 42 = some (.iadd, 1, 0, 0, 0) := by decide +kernel
theorem fe_95_43 : am_fetch 95 43 = some (.iconst 0, 1, 0, 0, 0) := by decide +kernel
theorem fe_95_44 : am_fetch 95 44 = some (.iastore, 1, 4, 0, 0) := by decide +kernel
theorem fe_95_45 : am_fetch 95 45 = some (.aload_n 0, 1, 1, 0, 0) := by decide +kernel
theorem fe_95_46 : am_fetch 95 46 = some (.getfield 7, 3, 3, 11, 0) := by decide +kernel
theorem fe_95_49 : am_fetch 95 49 = some (.iconst 2, 1, 0, 0, 0) := by decide +kernel
theorem fe_95_50 : am_fetch 95 50 = some (.dup2, 1, 0, 0, 0) := by decide +kernel
theorem fe_95_51 : am_fetch 95 51 = some (.iaload, 1, 3, 0, 0) := by decide +kernel
theorem fe_95_52 : am_fetch 95 52 = some (.iload_n 2, 1, 1, 0, 0) := by decide +kernel
theorem fe_95_53 : am_fetch 95 53 = some (.iadd, 1, 0, 0, 0) := by decide +kernel
theorem fe_95_54 : am_fetch 95 54 = some (.iastore, 1, 4, 0, 0) := by decide +kernel
theorem fe_95_55 : am_fetch 95 55 = some (.iload_n 2, 1, 1, 0, 0) := by decide +kernel
theorem fe_95_56 : am_fetch 95 56 = some (.ireturn, 1, 8, 0, 0) := by decide +kernel
theorem fe_96_0 : am_fetch 96 0 = some (.aload_n 0, 1, 1, 0, 0) := by decide +kernel
theorem fe_96_1 : am_fetch 96 1 = some (.getfield 32, 3, 3, 4, 0) := by decide +kernel
theorem fe_96_4 : am_fetch 96 4 = some (.bipush 60, 2, 0, 0, 0) := by decide +kernel
theorem fe_96_6 : am_fetch 96 6 = some (.if_icmp .lt 7, 3, 2, 13, 0) := by decide +kernel
theorem fe_96_9 : am_fetch 96 9 = some (.iconst 1, 1, 0, 0, 0) := by decide +kernel
theorem fe_96_10 : am_fetch 96 10 = some (.goto 4, 3, 2, 14, 0) := by decide +kernel
theorem fe_96_13 : am_fetch 96 13 = some (.iconst 0, 1, 0, 0, 0) := by decide +kernel
theorem fe_96_14 : am_fetch 96 14 = some (.ireturn, 1, 8, 0, 0) := by decide +kernel
theorem fe_97_0 : am_fetch 97 0 = some (.aload_n 0, 1, 1, 0, 0) := by decide +kernel
theorem fe_97_1 : am_fetch 97 1 = some (.getfield 14, 3, 3, 4, 1) := by decide +kernel
theorem fe_97_4 : am_fetch 97 4 = some (.aload_n 0, 1, 1, 0, 0) := by decide +kernel
theorem fe_97_5 : am_fetch 97 5 = some (.getfield 32, 3, 3, 4, 0) := by decide +kernel
theorem fe_97_8 : am_fetch 97 8 = some (.iload_n 1, 1, 1, 0, 0) := by decide +kernel
theorem fe_97_9 : am_fetch 97 9 = some (.invokevirtual 36, 3, 7, 4, 0) := by decide +kernel
theorem fe_97_12 : am_fetch 97 12 = some (.aload_n 0, 1, 1, 0, 0) := by decide +kernel
theorem fe_97_13 : am_fetch 97 13 = some (.dup, 1, 0, 0, 0) := by decide +kernel
theorem fe_97_14 : am_fetch 97 14 = some (.getfield 32, 3, 3, 4, 0) := by decide +kernel
theorem fe_97_17 : am_fetch 97 17 = some (.iconst 1, 1, 0, 0, 0) := by decide +kernel
theorem fe_97_18 : am_fetch 97 18 = some (.iadd, 1, 0, 0, 0) := by decide +kernel
theorem fe_97_19 : am_fetch 97 19 = some (.putfield 32, 3, 4, 4, 0) := by decide +kernel
theorem fe_97_22 : am_fetch 97 22 = some (.aload_n 0, 1, 1, 0, 0) := by decide +kernel
theorem fe_97_23 : am_fetch 97 23 = some (.getfield 32, 3, 3, 4, 0) := by decide +kernel
theorem fe_97_26 : am_fetch 97 26 = some (.ireturn, 1, 8, 0, 0) := by decide +kernel
theorem fe_98_0 : am_fetch 98 0 = some (.iload_n 1, 1, 1, 0, 0) := by decide +kernel
theorem fe_98_1 : am_fetch 98 1 = some (.bipush 33, 2, 0, 0, 0) := by decide +kernel
theorem fe_98_3 : am_fetch 98 3 = some (.if_icmp .lt 9, 3, 2, 12, 0) := by decide +kernel
theorem fe_98_6 : am_fetch 98 6 = some (.iload_n 1, 1, 1, 0, 0) := by decide +kernel
theorem fe_98_7 : am_fetch 98 7 = some (.bipush 126, 2, 0, 0, 0) := by decide +kernel
theorem fe_98_9 : am_fetch 98 9 = some (.if_icmp .le 13, 3, 2, 22, 0) := by decide +kernel
theorem fe_98_12 : am_fetch 98 12 = some (.new 69, 3, 9, 0, 0) := by decide +kernel
theorem fe_98_15 : am_fetch 98 15 = some (.dup, 1, 0, 0, 0) := by decide +kernel
theorem fe_98_22 : am_fetch 98 22 = some (.aload_n 0, 1, 1, 0, 0) := by decide +kernel
theorem fe_98_23 : am_fetch 98 23 = some (.getfield 45, 3, 3, 10, 3) := by decide +kernel
theorem fe_98_26 : am_fetch 98 26 = some (.invokevirtual 163, 3, 7, 96, 0) := by decide +kernel
theorem fe_98_29 : am_fetch 98 29 = some (.ifCond .eq 13, 3, 2, 42, 0) := by decide +kernel
theorem fe_98_32 : am_fetch 98 32 = some (.new 82, 3, 9, 1, 0) := by decide +kernel
theorem fe_98_35 : am_fetch 98 35 = some (.dup, 1, 0, 0, 0) := by decide +kernel
theorem fe_98_42 : am_fetch 98 42 = some (.aload_n 0, 1, 1, 0, 0) := by decide +kernel
theorem fe_98_43 : am_fetch 98 43 = some (.getfield 45, 3, 3, 10, 3) := by decide +kernel
theorem fe_98_46 : am_fetch 98 46 = some (.iload_n 1, 1, 1, 0, 0) := by decide +kernel
theorem fe_98_47 : am_fetch 98 47 = some (.invokevirtual 168, 3, 7, 97, 0) := by decide +kernel
theorem fe_98_50 : am_fetch 98 50 = some (.ireturn, 1, 8, 0, 0) := by decide +kernel
theorem fe_99_0 : am_fetch 99 0 = some (.aload_n 2, 1, 1, 0, 0) := by decide +kernel
theorem fe_99_1 : am_fetch 99 1 = some (.iconst 0, 1, 0, 0, 0) := by decide +kernel
theorem fe_99_2 : am_fetch 99 2 = some (.aload_n 0, 1, 1, 0, 0) := by decide +kernel
theorem fe_99_3 : am_fetch 99 3 = some (.iload_n 1, 1, 1, 0, 0) := by decide +kernel
theorem fe_99_4 : am_fetch 99 4 = some (.invokevirtual 42, 3, 7, 98, 0) := by decide +kernel
theorem fe_99_7 : am_fetch 99 7 = some (.i2l, 1, 0, 0, 0) := by decide +kernel
theorem fe_99_8 : am_fetch 99 8 = some (.lastore, 1, 4, 0, 0) := by decide +kernel
theorem fe_99_9 : am_fetch 99 9 = some (.goto 9, 3, 2, 18, 0) := by decide +kernel
theorem fe_99_12 : am_fetch 99 12 = some (.astore_n 3, 1, 1, 0, 0) := by decide +kernel
theorem fe_99_13 : am_fetch 99 13 = some (.iconst 1, 1, 0, 0, 0) := by decide +kernel
theorem fe_99_14 : am_fetch 99 14 = some (.ireturn, 1, 8, 0, 0) := by decide +kernel
theorem fe_99_15 : am_fetch 99 15 = some (.astore_n 3, 1, 1, 0, 0) := by decide +kernel
theorem fe_99_16 : am_fetch 99 16 = some (.iconst 2, 1, 0, 0, 0) := by decide +kernel
theorem fe_99_17 : am_fetch 99 17 = some (.ireturn, 1, 8, 0, 0) := by decide +kernel
theorem fe_99_18 : am_fetch 99 18 = some (.iconst 0, 1, 0, 0, 0) := by decide +kernel
theorem fe_99_19 : am_fetch 99 19 = some (.ireturn, 1, 8, 0, 0) := by decide +kernel
theorem fe_100_0 : am_fetch 100 0 = some (.aload_n 0, 1, 1, 0, 0) := by decide +kernel
theorem fe_100_1 : am_fetch 100 1 = some (.iload_n 1, 1, 1, 0, 0) := by decide +kernel
theorem fe_100_2 : am_fetch 100 2 = some (.bipush 33, 2, 0, 0, 0) := by decide +kernel
theorem fe_100_4 : am_fetch 100 4 = some (.bipush 126, 2, 0, 0, 0) := by decide +kernel
theorem fe_100_6 : am_fetch 100 6 = some (.invokestatic 36, 3, 7, 26, 0) := by decide +kernel
theorem fe_100_9 : am_fetch 100 9 = some (.ifCond .ne 7, 3, 2, 16, 0) := by decide +kernel
theorem fe_100_12 : am_fetch 100 12 = some (.iconst 1, 1, 0, 0, 0) := by decide +kernel
theorem fe_100_13 : am_fetch 100 13 = some (.goto 17, 3, 2, 30, 0) := by decide +kernel
theorem fe_100_16 : am_fetch 100 16 = some (.aload_n 0, 1, 1, 0, 0) := by decide +kernel
theorem fe_100_17 : am_fetch 100 17 = some (.getfield 119, 3, 3, 11, 6) := by decide +kernel
theorem fe_100_20 : am_fetch 100 20 = some (.bipush 60, 2, 0, 0, 0) := by decide +kernel
theorem fe_100_22 : am_fetch 100 22 = some (.if_icmp .ne 7, 3, 2, 29, 0) := by decide +kernel
theorem fe_100_25 : am_fetch 100 25 = some (.iconst 2, 1, 0, 0, 0) := by decide +kernel
theorem fe_100_26 : am_fetch 100 26 = some (.goto 4, 3, 2, 30, 0) := by decide +kernel
theorem fe_100_29 : am_fetch 100 29 = some (.iconst 0, 1, 0, 0, 0) := by decide +kernel
theorem fe_100_30 : am_fetch 100 30 = some (.invokevirtual 91, 3, 7, 29, 0) := by decide +kernel
theorem fe_100_33 : am_fetch 100 33 = some (.ifCond .ne 5, 3, 2, 38, 0) := by decide +kernel
theorem fe_100_36 : am_fetch 100 36 = some (.iconst 0, 1, 0, 0, 0) := by decide +kernel
theorem fe_100_37 : am_fetch 100 37 = some (.ireturn, 1, 8, 0, 0) := by decide +kernel
theorem fe_100_38 : am_fetch 100 38 = some (.aload_n 0, 1, 1, 0, 0) := by decide +kernel
theorem fe_100_39 : am_fetch 100 39 = some (.getfield 23, 3, 3, 11, 5) := by decide +kernel
theorem fe_100_42 : am_fetch 100 42 = some (.aload_n 0, 1, 1, 0, 0) := by decide +kernel
theorem fe_100_43 : am_fetch 100 43 = some (.getfield 119, 3, 3, 11, 6) := by decide +kernel
theorem fe_100_46 : am_fetch 100 46 = some (.iload_n 1, 1, 1, 0, 0) := by decide +kernel
theorem fe_100_47 : am_fetch 100 47 = some (.iastore, 1, 4, 0, 0) := by decide +kernel
theorem fe_100_48 : am_fetch 100 48 = some (.aload_n 0, 1, 1, 0, 0) := by decide +kernel
theorem fe_100_49 : am_fetch 100 49 = some (.dup, 1, 0, 0, 0) := by decide +kernel
theorem fe_100_50 : am_fetch 100 50 = some (.getfield 119, 3, 3, 11, 6) := by decide +kernel
theorem fe_100_53 : am_fetch 100 53 = some (.iconst 1, 1, 0, 0, 0) := by decide +kernel
theorem fe_100_54 : am_fetch 100 54 = some (.iadd, 1, 0, 0, 0) := by decide +kernel
theorem fe_100_55 : am_fetch 100 55 = some (.putfield 119, 3, 4, 11, 6) := by decide +kernel
theorem fe_100_58 : am_fetch 100 58 = some (.aload_n 0, 1, 1, 0, 0) := by decide +kernel
theorem fe_100_59 : am_fetch 100 59 = some (.getfield 119, 3, 3, 11, 6) := by decide +kernel
theorem fe_100_62 : am_fetch 100 62 = some (.ireturn, 1, 8, 0, 0) := by decide +kernel
theorem fe_101_0 : am_fetch 101 0 = some (.aload_n 0, 1, 1, 0, 0) := by decide +kernel
theorem fe_101_1 : am_fetch 101 1 = some (.getfield 32, 3, 3, 4, 0) := by decide +kernel
theorem fe_101_4 : am_fetch 101 4 = some (.istore_n 1, 1, 1, 0, 0) := by decide +kernel
theorem fe_101_5 : am_fetch 101 5 = some (.aload_n 0, 1, 1, 0, 0) := by decide +kernel
theorem fe_101_6 : am_fetch 101 6 = some (.iconst 0, 1, 0, 0, 0) := by decide +kernel
theorem fe_101_7 : am_fetch 101 7 = some (.putfield 32, 3, 4, 4, 0) := by decide +kernel
theorem fe_101_10 : am_fetch 101 10 = some (.iload_n 1, 1, 1, 0, 0) := by decide +kernel
theorem fe_101_11 : am_fetch 101 11 = some (.ireturn, 1, 8, 0, 0) := by decide +kernel
theorem fe_102_0 : am_fetch 102 0 = some (.aload_n 0, 1, 1, 0, 0) := by decide +kernel
theorem fe_102_1 : am_fetch 102 1 = some (.getfield 45, 3, 3, 10, 3) := by decide +kernel
theorem fe_102_4 : am_fetch 102 4 = some (.invokevirtual 171, 3, 7, 101, 0) := by decide +kernel
theorem fe_102_7 : am_fetch 102 7 = some (.ireturn, 1, 8, 0, 0) := by decide +kernel
theorem fe_103_0 : am_fetch 103 0 = some (.aload_n 0, 1, 1, 0, 0) := by decide +kernel
theorem fe_103_1 : am_fetch 103 1 = some (.iconst 0, 1, 0, 0, 0) := by decide +kernel
theorem fe_103_2 : am_fetch 103 2 = some (.putfield 32, 3, 4, 11, 7) := by decide +kernel
theorem fe_103_5 : am_fetch 103 5 = some (.aload_n 0, 1, 1, 0, 0) := by decide +kernel
theorem fe_103_6 : am_fetch 103 6 = some (.getfield 119, 3, 3, 11, 6) := by decide +kernel
theorem fe_103_9 : am_fetch 103 9 = some (.istore_n 1, 1, 1, 0, 0) := by decide +kernel
theorem fe_103_10 : am_fetch 103 10 = some (.aload_n 0, 1, 1, 0, 0) := by decide +kernel
theorem fe_103_11 : am_fetch 103 11 = some (.iconst 0, 1, 0, 0, 0) := by decide +kernel
theorem fe_103_12 : am_fetch 103 12 = some (.putfield 119, 3, 4, 11, 6) := by decide +kernel
theorem fe_103_15 : am_fetch 103 15 = some (.iload_n 1, 1, 1, 0, 0) := by decide +kernel
theorem fe_103_16 : am_fetch 103 16 = some (.ireturn, 1, 8, 0, 0) := by decide +kernel
theorem fe_104_0 : am_fetch 104 0 = some (.aload_n 0, 1, 1, 0, 0) := by decide +kernel
theorem fe_104_1 : am_fetch 104 1 = some (.getfield 40, 3, 3, 4, 2) := by decide +kernel
theorem fe_104_4 : am_fetch 104 4 = some (.tableswitch 60 2 6 #[36, 60, 58, 60, 58], 36, 2, 0, 0) := by decide +kernel
theorem fe_104_40 : am_fetch 104 40 = some (.aload_n 0, 1, 1, 0, 0) := by decide +kernel
theorem fe_104_41 : am_fetch 104 41 = some (.getfield 20, 3, 3, 4, 4) := by decide +kernel
theorem fe_104_44 : am_fetch 104 44 = some (.aload_n 0, 1, 1, 0, 0) := by decide +kernel
theorem fe_104_45 : am_fetch 104 45 = some (.getfield 43, 3, 3, 4, 3) := by decide +kernel
theorem fe_104_48 : am_fetch 104 48 = some (.invokevirtual 46, 3, 7, 39, 0) := by decide +kernel
theorem fe_104_51 : am_fetch 104 51 = some (.bipush 101, 2, 0, 0, 0) := by decide +kernel
theorem fe_104_53 : am_fetch 104 53 = some (.if_icmp .eq 7, 3, 2, 60, 0) := by decide +kernel
theorem fe_104_56 : am_fetch 104 56 = some (.iconst 1, 1, 0, 0, 0) := by decide +kernel
theorem fe_104_57 : am_fetch 104 57 = some (.goto 4, 3, 2, 61, 0) := by decide +kernel
theorem fe_104_60 : am_fetch 104 60 = some (.iconst 0, 1, 0, 0, 0) := by decide +kernel
theorem fe_104_61 : am_fetch 104 61 = some (.ireturn, 1, 8, 0, 0) := by decide +kernel
theorem fe_104_62 : am_fetch 104 62 = some (.iconst 1, 1, 0, 0, 0) := by decide +kernel
theorem fe_104_63 : am_fetch 104 63 = some (.ireturn, 1, 8, 0, 0) := by decide +kernel
theorem fe_104_64 : am_fetch 104 64 = some (.iconst 0, 1, 0, 0, 0) := by decide +kernel
theorem fe_104_65 : am_fetch 104 65 = some (.ireturn, 1, 8, 0, 0) := by decide +kernel
theorem fe_105_0 : am_fetch 105 0 = some (.aload_n 0, 1, 1, 0, 0) := by decide +kernel
theorem fe_105_1 : am_fetch 105 1 = some (.invokevirtual 58, 3, 7, 104, 0) := by decide +kernel
theorem fe_105_4 : am_fetch 105 4 = some (.ifCond .ne 5, 3, 2, 9, 0) := by decide +kernel
theorem fe_105_7 : am_fetch 105 7 = some (.iconst 0, 1, 0, 0, 0) := by decide +kernel
theorem fe_105_8 : am_fetch 105 8 = some (.ireturn, 1, 8, 0, 0) := by decide +kernel
theorem fe_105_9 : am_fetch 105 9 = some (.aload_n 0, 1, 1, 0, 0) := by decide +kernel
theorem fe_105_10 : am_fetch 105 10 = some (.dup, 1, 0, 0, 0) := by decide +kernel
theorem fe_105_11 : am_fetch 105 11 = some (.getfield 43, 3, 3, 4, 3) := by decide +kernel
theorem fe_105_14 : am_fetch 105 14 = some (.iconst 1, 1, 0, 0, 0) := by decide +kernel
theorem fe_105_15 : am_fetch 105 15 = some (.iadd, 1, 0, 0, 0) := by decide +kernel
theorem fe_105_16 : am_fetch 105 16 = some (.putfield 43, 3, 4, 4, 3) := by decide +kernel
theorem fe_105_19 : am_fetch 105 19 = some (.aload_n 0, 1, 1, 0, 0) := by decide +kernel
theorem fe_105_20 : am_fetch 105 20 = some (.iconst 0, 1, 0, 0, 0) := by decide +kernel
theorem fe_105_21 : am_fetch 105 21 = some (.putfield 40, 3, 4, 4, 2) := by decide +kernel
theorem fe_105_24 : am_fetch 105 24 = some (.iconst 1, 1, 0, 0, 0) := by decide +kernel
theorem fe_105_25 : am_fetch 105 25 = some (.ireturn, 1, 8, 0, 0) := by decide +kernel
theorem fe_106_0 : am_fetch 106 0 = some (.iload_n 0, 1, 1, 0, 0) := by decide +kernel
theorem fe_106_1 : am_fetch 106 1 = some (.lookupswitch 63 #[(100, 57), (101, 54), (102, 54), (103, 51), (116, 60)], 51, 2, 0, 0) := by decide +kernel
theorem fe_106_52 : am_fetch 106 52 = some (.bipush 30, 2, 0, 0, 0) := by decide +kernel
theorem fe_106_54 : am_fetch 106 54 = some (.ireturn, 1, 8, 0, 0) := by decide +kernel
theorem fe_106_55 : am_fetch 106 55 = some (.bipush 11, 2, 0, 0, 0) := by decide +kernel
theorem fe_106_57 : am_fetch 106 57 = some (.ireturn, 1, 8, 0, 0) := by decide +kernel
theorem fe_106_58 : am_fetch 106 58 = some (.bipush 40, 2, 0, 0, 0) := by decide +kernel
theorem fe_106_60 : am_fetch 106 60 = some (.ireturn, 1, 8, 0, 0) := by decide +kernel
theorem fe_106_61 : am_fetch 106 61 = some (.bipush 50, 2, 0, 0, 0) := by decide +kernel
theorem fe_106_63 : am_fetch 106 63 = some (.ireturn, 1, 8, 0, 0) := by decide +kernel
theorem fe_106_64 : am_fetch 106 64 = some (.iconst (-1), 1, 0, 0, 0) := by decide +kernel
theorem fe_106_65 : am_fetch 106 65 = some (.ireturn, 1, 8, 0, 0) := by decide +kernel
theorem fe_107_0 : am_fetch 107 0 = some (.iload_n 1, 1, 1, 0, 0) := by decide +kernel
theorem fe_107_1 : am_fetch 107 1 = some (.invokestatic 83, 3, 7, 106, 0) := by decide +kernel
theorem fe_107_4 : am_fetch 107 4 = some (.ifCond .ge 5, 3, 2, 9, 0) := by decide +kernel
theorem fe_107_7 : am_fetch 107 7 = some (.iconst 0, 1, 0, 0, 0) := by decide +kernel
theorem fe_107_8 : am_fetch 107 8 = some (.ireturn, 1, 8, 0, 0) := by decide +kernel
theorem fe_107_9 : am_fetch 107 9 = some (.aload_n 0, 1, 1, 0, 0) := by decide +kernel
theorem fe_107_10 : am_fetch 107 10 = some (.getfield 20, 3, 3, 4, 4) := by decide +kernel
theorem fe_107_13 : am_fetch 107 13 = some (.aload_n 0, 1, 1, 0, 0) := by decide +kernel
theorem fe_107_14 : am_fetch 107 14 = some (.getfield 43, 3, 3, 4, 3) := by decide +kernel
theorem fe_107_17 : am_fetch 107 17 = some (.iload_n 1, 1, 1, 0, 0) := by decide +kernel
theorem fe_107_18 : am_fetch 107 18 = some (.invokevirtual 36, 3, 7, 4, 0) := by decide +kernel
theorem fe_107_21 : am_fetch 107 21 = some (.aload_n 0, 1, 1, 0, 0) := by decide +kernel
theorem fe_107_22 : am_fetch 107 22 = some (.iconst 1, 1, 0, 0, 0) := by decide +kernel
theorem fe_107_23 : am_fetch 107 23 = some (.putfield 40, 3, 4, 4, 2) := by decide +kernel
theorem fe_107_26 : am_fetch 107 26 = some (.iconst 1, 1, 0, 0, 0) := by decide +kernel
theorem fe_107_27 : am_fetch 107 27 = some (.ireturn, 1, 8, 0, 0) := by decide +kernel
theorem fe_108_0 : am_fetch 108 0 = some (.iload_n 0, 1, 1, 0, 0) := by decide +kernel
theorem fe_108_1 : am_fetch 108 1 = some (.bipush 48, 2, 0, 0, 0) := by decide +kernel
theorem fe_108_3 : am_fetch 108 3 = some (.if_icmp .lt 13, 3, 2, 16, 0) := by decide +kernel
theorem fe_108_6 : am_fetch 108 6 = some (.iload_n 0, 1, 1, 0, 0) := by decide +kernel
theorem fe_108_7 : am_fetch 108 7 = some (.bipush 57, 2, 0, 0, 0) := by decide +kernel
theorem fe_108_9 : am_fetch 108 9 = some (.if_icmp .gt 7, 3, 2, 16, 0) := by decide +kernel
theorem fe_108_12 : am_fetch 108 12 = some (.iconst 1, 1, 0, 0, 0) := by decide +kernel
theorem fe_108_13 : am_fetch 108 13 = some (.goto 4, 3, 2, 17, 0) := by decide +kernel
theorem fe_108_16 : am_fetch 108 16 = some (.iconst 0, 1, 0, 0, 0) := by decide +kernel
theorem fe_108_17 : am_fetch 108 17 = some (.ireturn, 1, 8, 0, 0) := by decide +kernel
theorem fe_109_0 : am_fetch 109 0 = some (.aload_n 0, 1, 1, 0, 0) := by decide +kernel
theorem fe_109_1 : am_fetch 109 1 = some (.getfield 20, 3, 3, 4, 4) := by decide +kernel
theorem fe_109_4 : am_fetch 109 4 = some (.aload_n 0, 1, 1, 0, 0) := by decide +kernel
theorem fe_109_5 : am_fetch 109 5 = some (.getfield 43, 3, 3, 4, 3) := by decide +kernel
theorem fe_109_8 : am_fetch 109 8 = some (.invokevirtual 46, 3, 7, 39, 0) := by decide +kernel
theorem fe_109_11 : am_fetch 109 11 = some (.istore_n 2, 1, 1, 0, 0) := by decide +kernel
theorem fe_109_12 : am_fetch 109 12 = some (.iload_n 2, 1, 1, 0, 0) := by decide +kernel
theorem fe_109_13 : am_fetch 109 13 = some (.bipush 100, 2, 0, 0, 0) := by decide +kernel
theorem fe_109_15 : am_fetch 109 15 = some (.if_icmp .eq 9, 3, 2, 24, 0) := by decide +kernel
theorem fe_109_18 : am_fetch 109 18 = some (.iload_n 2, 1, 1, 0, 0) := by decide +kernel
theorem fe_109_19 : am_fetch 109 19 = some (.bipush 116, 2, 0, 0, 0) := by decide +kernel
theorem fe_109_21 : am_fetch 109 21 = some (.if_icmp .ne 7, 3, 2, 28, 0) := by decide +kernel
theorem fe_109_24 : am_fetch 109 24 = some (.iconst 1, 1, 0, 0, 0) := by decide +kernel
theorem fe_109_25 : am_fetch 109 25 = some (.goto 4, 3, 2, 29, 0) := by decide +kernel
theorem fe_109_28 : am_fetch 109 28 = some (.iconst 0, 1, 0, 0, 0) := by decide +kernel
theorem fe_109_29 : am_fetch 109 29 = some (.istore_n 3, 1, 1, 0, 0) := by decide +kernel
theorem fe_109_30 : am_fetch 109 30 = some (.iload_n 1, 1, 1, 0, 0) := by decide +kernel
theorem fe_109_31 : am_fetch 109 31 = some (.invokestatic 86, 3, 7, 108, 0) := by decide +kernel
theorem fe_109_34 : am_fetch 109 34 = some (.ifCond .eq 11, 3, 2, 45, 0) := by decide +kernel
theorem fe_109_37 : am_fetch 109 37 = some (.iload_n 1, 1, 1, 0, 0) := by decide +kernel
theorem fe_109_38 : am_fetch 109 38 = some (.bipush 48, 2, 0, 0, 0) := by decide +kernel
theorem fe_109_40 : am_fetch 109 40 = some (.isub, 1, 0, 0, 0) := by decide +kernel
theorem fe_109_41 : am_fetch 109 41 = some (.iload_n 3, 1, 1, 0, 0) := by decide +kernel
theorem fe_109_42 : am_fetch 109 42 = some (.if_icmp .ge 5, 3, 2, 47, 0) := by decide +kernel
theorem fe_109_45 : am_fetch 109 45 = some (.iconst 0, 1, 0, 0, 0) := by decide +kernel
theorem fe_109_46 : am_fetch 109 46 = some (.ireturn, 1, 8, 0, 0) := by decide +kernel
theorem fe_109_47 : am_fetch 109 47 = some (.aload_n 0, 1, 1, 0, 0) := by decide +kernel
theorem fe_109_48 : am_fetch 109 48 = some (.getfield 23, 3, 3, 4, 5) := by decide +kernel
theorem fe_109_51 : am_fetch 109 51 = some (.aload_n 0, 1, 1, 0, 0) := by decide +kernel
theorem fe_109_52 : am_fetch 109 52 = some (.getfield 43, 3, 3, 4, 3) := by decide +kernel
theorem fe_109_55 : am_fetch 109 55 = some (.iload_n 1, 1, 1, 0, 0) := by decide +kernel
theorem fe_109_56 : am_fetch 109 56 = some (.bipush 48, 2, 0, 0, 0) := by decide +kernel
theorem fe_109_58 : am_fetch 109 58 = some (.isub, 1, 0, 0, 0) := by decide +kernel
theorem fe_109_59 : am_fetch 109 59 = some (.invokevirtual 36, 3, 7, 4, 0) := by decide +kernel
theorem fe_109_62 : am_fetch 109 62 = some (.aload_n 0, 1, 1, 0, 0) := by decide +kernel
theorem fe_109_63 : am_fetch 109 63 = some (.iconst 2, 1, 0, 0, 0) := by decide +kernel
theorem fe_109_64 : am_fetch 109 64 = some (.putfield 40, 3, 4, 4, 2) := by decide +kernel
theorem fe_109_67 : am_fetch 109 67 = some (.iconst 1, 1, 0, 0, 0) := by decide +kernel
theorem fe_109_68 : am_fetch 109 68 = some (.ireturn, 1, 8, 0, 0) := by decide +kernel
theorem fe_110_0 : am_fetch 110 0 = some (.iload_n 0, 1, 1, 0, 0) := by decide +kernel
theorem fe_110_1 : am_fetch 110 1 = some (.ifCond .eq 23, 3, 2, 24, 0) := by decide +kernel
theorem fe_110_4 : am_fetch 110 4 = some (.iload_n 1, 1, 1, 0, 0) := by decide +kernel
theorem fe_110_5 : am_fetch 110 5 = some (.invokestatic 86, 3, 7, 108, 0) := by decide +kernel
theorem fe_110_8 : am_fetch 110 8 = some (.ifCond .eq 16, 3, 2, 24, 0) := by decide +kernel
theorem fe_110_11 : am_fetch 110 11 = some (.iload_n 0, 1, 1, 0, 0) := by decide +kernel
theorem fe_110_12 : am_fetch 110 12 = some (.bipush 10, 2, 0, 0, 0) := by decide +kernel
theorem fe_110_14 : am_fetch 110 14 = some (.imul, 1, 0, 0, 0) := by decide +kernel
theorem fe_110_15 : am_fetch 110 15 = some (.iload_n 1, 1, 1, 0, 0) := by decide +kernel
theorem fe_110_16 : am_fetch 110 16 = some (.iadd, 1, 0, 0, 0) := by decide +kernel
theorem fe_110_17 : am_fetch 110 17 = some (.bipush 48, 2, 0, 0, 0) := by decide +kernel
theorem fe_110_19 : am_fetch 110 19 = some (.isub, 1, 0, 0, 0) := by decide +kernel
theorem fe_110_20 : am_fetch 110 20 = some (.iload_n 2, 1, 1, 0, 0) := by decide +kernel
theorem fe_110_21 : am_fetch 110 21 = some (.if_icmp .le 5, 3, 2, 26, 0) := by decide +kernel
theorem fe_110_24 : am_fetch 110 24 = some (.iconst (-1), 1, 0, 0, 0) := by decide +kernel
theorem fe_110_25 : am_fetch 110 25 = some (.ireturn, 1, 8, 0, 0) := by decide +kernel
theorem fe_110_26 : am_fetch 110 26 = some (.iload_n 0, 1, 1, 0, 0) := by decide +kernel
theorem fe_110_27 : am_fetch 110 27 = some (.bipush 10, 2, 0, 0, 0) := by decide +kernel
theorem fe_110_29 : am_fetch 110 29 = some (.imul, 1, 0, 0, 0) := by decide +kernel
theorem fe_110_30 : am_fetch 110 30 = some (.iload_n 1, 1, 1, 0, 0) := by decide +kernel
theorem fe_110_31 : am_fetch 110 31 = some (.iadd, 1, 0, 0, 0) := by decide +kernel
theorem fe_110_32 : am_fetch 110 32 = some (.bipush 48, 2, 0, 0, 0) := by decide +kernel
theorem fe_110_34 : am_fetch 110 34 = some (.isub, 1, 0, 0, 0) := by decide +kernel
theorem fe_110_35 : am_fetch 110 35 = some (.ireturn, 1, 8, 0, 0) := by decide +kernel
theorem fe_111_0 : am_fetch 111 0 = some (.iload_n 1, 1, 1, 0, 0) := by decide +kernel
theorem fe_111_1 : am_fetch 111 1 = some (.bipush 76, 2, 0, 0, 0) := by decide +kernel
theorem fe_111_3 : am_fetch 111 3 = some (.if_icmp .eq 11, 3, 2, 14, 0) := by decide +kernel
theorem fe_111_6 : am_fetch 111 6 = some (.iload_n 1, 1, 1, 0, 0) := by decide +kernel
theorem fe_111_7 : am_fetch 111 7 = some (.bipush 82, 2, 0, 0, 0) := by decide +kernel
theorem fe_111_9 : am_fetch 111 9 = some (.if_icmp .eq 5, 3, 2, 14, 0) := by decide +kernel
theorem fe_111_12 : am_fetch 111 12 = some (.iconst 0, 1, 0, 0, 0) := by decide +kernel
theorem fe_111_13 : am_fetch 111 13 = some (.ireturn, 1, 8, 0, 0) := by decide +kernel
theorem fe_111_14 : am_fetch 111 14 = some (.aload_n 0, 1, 1, 0, 0) := by decide +kernel
theorem fe_111_15 : am_fetch 111 15 = some (.getfield 26, 3, 3, 4, 6) := by decide +kernel
theorem fe_111_18 : am_fetch 111 18 = some (.aload_n 0, 1, 1, 0, 0) := by decide +kernel
theorem fe_111_19 : am_fetch 111 19 = some (.getfield 43, 3, 3, 4, 3) := by decide +kernel
theorem fe_111_22 : am_fetch 111 22 = some (.iload_n 1, 1, 1, 0, 0) := by decide +kernel
theorem fe_111_23 : am_fetch 111 23 = some (.bipush 76, 2, 0, 0, 0) := by decide +kernel
theorem fe_111_25 : am_fetch 111 25 = some (.if_icmp .ne 7, 3, 2, 32, 0) := by decide +kernel
theorem fe_111_28 : am_fetch 111 28 = some (.iconst 0, 1, 0, 0, 0) := by decide +kernel
theorem fe_111_29 : am_fetch 111 29 = some (.goto 4, 3, 2, 33, 0) := by decide +kernel
theorem fe_111_32 : am_fetch 111 32 = some (.iconst 1, 1, 0, 0, 0) := by decide +kernel
theorem fe_111_33 : am_fetch 111 33 = some (.invokevirtual 36, 3, 7, 4, 0) := by decide +kernel
theorem fe_111_36 : am_fetch 111 36 = some (.aload_n 0, 1, 1, 0, 0) := by decide +kernel
theorem fe_111_37 : am_fetch 111 37 = some (.iconst 3, 1, 0, 0, 0) := by decide +kernel
theorem fe_111_38 : am_fetch 111 38 = some (.putfield 40, 3, 4, 4, 2) := by decide +kernel
theorem fe_111_41 : am_fetch 111 41 = some (.iconst 1, 1, 0, 0, 0) := by decide +kernel
theorem fe_111_42 : am_fetch 111 42 = some (.ireturn, 1, 8, 0, 0) := by decide +kernel
theorem fe_112_0 : am_fetch 112 0 = some (.aload_n 0, 1, 1, 0, 0) := by decide +kernel
theorem fe_112_1 : am_fetch 112 1 = some (.getfield 20, 3, 3, 4, 4) := by decide +kernel
theorem fe_112_4 : am_fetch 112 4 = some (.aload_n 0, 1, 1, 0, 0) := by decide +kernel
theorem fe_112_5 : am_fetch 112 5 = some (.getfield 43, 3, 3, 4, 3) := by decide +kernel
theorem fe_112_8 : am_fetch 112 8 = some (.invokevirtual 46, 3, 7, 39, 0) := by decide +kernel
theorem fe_112_11 : am_fetch 112 11 = some (.istore_n 2, 1, 1, 0, 0) := by decide +kernel
theorem fe_112_12 : am_fetch 112 12 = some (.aload_n 0, 1, 1, 0, 0) := by decide +kernel
theorem fe_112_13 : am_fetch 112 13 = some (.getfield 23, 3, 3, 4, 5) := by decide +kernel
theorem fe_112_16 : am_fetch 112 16 = some (.aload_n 0, 1, 1, 0, 0) := by decide +kernel
theorem fe_112_17 : am_fetch 112 17 = some (.getfield 43, 3, 3, 4, 3) := by decide +kernel
theorem fe_112_20 : am_fetch 112 20 = some (.invokevirtual 46, 3, 7, 39, 0) := by decide +kernel
theorem fe_112_23 : am_fetch 112 23 = some (.iload_n 1, 1, 1, 0, 0) := by decide +kernel
theorem fe_112_24 : am_fetch 112 24 = some (.iload_n 2, 1, 1, 0, 0) := by decide +kernel
theorem fe_112_25 : am_fetch 112 25 = some (.invokestatic 83, 3, 7, 106, 0) := by decide +kernel
theorem fe_112_28 : am_fetch 112 28 = some (.invokestatic 89, 3, 7, 110, 0) := by decide +kernel
theorem fe_112_31 : am_fetch 112 31 = some (.istore_n 3, 1, 1, 0, 0) := by decide +kernel
theorem fe_112_32 : am_fetch 112 32 = some (.iload_n 3, 1, 1, 0, 0) := by decide +kernel
theorem fe_112_33 : am_fetch 112 33 = some (.ifCond .lt 17, 3, 2, 50, 0) := by decide +kernel
theorem fe_112_36 : am_fetch 112 36 = some (.aload_n 0, 1, 1, 0, 0) := by decide +kernel
theorem fe_112_37 : am_fetch 112 37 = some (.getfield 23, 3, 3, 4, 5) := by decide +kernel
theorem fe_112_40 : am_fetch 112 40 = some (.aload_n 0, 1, 1, 0, 0) := by decide +kernel
theorem fe_112_41 : am_fetch 112 41 = some (.getfield 43, 3, 3, 4, 3) := by decide +kernel
theorem fe_112_44 : am_fetch 112 44 = some (.iload_n 3, 1, 1, 0, 0) := by decide +kernel
theorem fe_112_45 : am_fetch 112 45 = some (.invokevirtual 36, 3, 7, 4, 0) := by decide +kernel
theorem fe_112_48 : am_fetch 112 48 = some (.iconst 1, 1, 0, 0, 0) := by decide +kernel
theorem fe_112_49 : am_fetch 112 49 = some (.ireturn, 1, 8, 0, 0) := by decide +kernel
theorem fe_112_50 : am_fetch 112 50 = some (.iload_n 2, 1, 1, 0, 0) := by decide +kernel
theorem fe_112_51 : am_fetch 112 51 = some (.bipush 101, 2, 0, 0, 0) := by decide +kernel
theorem fe_112_53 : am_fetch 112 53 = some (.if_icmp .ne 15, 3, 2, 68, 0) := by decide +kernel
theorem fe_112_56 : am_fetch 112 56 = some (.aload_n 0, 1, 1, 0, 0) := by decide +kernel
theorem fe_112_57 : am_fetch 112 57 = some (.iload_n 1, 1, 1, 0, 0) := by decide +kernel
theorem fe_112_58 : am_fetch 112 58 = some (.invokevirtual 93, 3, 7, 111, 0) := by decide +kernel
theorem fe_112_61 : am_fetch 112 61 = some (.ifCond .eq 7, 3, 2, 68, 0) := by decide +kernel
theorem fe_112_64 : am_fetch 112 64 = some (.iconst 1, 1, 0, 0, 0) := by decide +kernel
theorem fe_112_65 : am_fetch 112 65 = some (.goto 4, 3, 2, 69, 0) := by decide +kernel
theorem fe_112_68 : am_fetch 112 68 = some (.iconst 0, 1, 0, 0, 0) := by decide +kernel
theorem fe_112_69 : am_fetch 112 69 = some (.ireturn, 1, 8, 0, 0) := by decide +kernel
theorem fe_113_0 : am_fetch 113 0 = some (.iload_n 1, 1, 1, 0, 0) := by decide +kernel
theorem fe_113_1 : am_fetch 113 1 = some (.bipush 98, 2, 0, 0, 0) := by decide +kernel
theorem fe_113_3 : am_fetch 113 3 = some (.if_icmp .ne 10, 3, 2, 13, 0) := by decide +kernel
theorem fe_113_6 : am_fetch 113 6 = some (.aload_n 0, 1, 1, 0, 0) := by decide +kernel
theorem fe_113_7 : am_fetch 113 7 = some (.iconst 5, 1, 0, 0, 0) := by decide +kernel
theorem fe_113_8 : am_fetch 113 8 = some (.putfield 40, 3, 4, 4, 2) := by decide +kernel
theorem fe_113_11 : am_fetch 113 11 = some (.iconst 1, 1, 0, 0, 0) := by decide +kernel
theorem fe_113_12 : am_fetch 113 12 = some (.ireturn, 1, 8, 0, 0) := by decide +kernel
theorem fe_113_13 : am_fetch 113 13 = some (.iload_n 1, 1, 1, 0, 0) := by decide +kernel
theorem fe_113_14 : am_fetch 113 14 = some (.invokestatic 86, 3, 7, 108, 0) := by decide +kernel
theorem fe_113_17 : am_fetch 113 17 = some (.ifCond .ne 5, 3, 2, 22, 0) := by decide +kernel
theorem fe_113_20 : am_fetch 113 20 = some (.iconst 0, 1, 0, 0, 0) := by decide +kernel
theorem fe_113_21 : am_fetch 113 21 = some (.ireturn, 1, 8, 0, 0) := by decide +kernel
theorem fe_113_22 : am_fetch 113 22 = some (.aload_n 0, 1, 1, 0, 0) := by decide +kernel
theorem fe_113_23 : am_fetch 113 23 = some (.getfield 29, 3, 3, 4, 7) := by decide +kernel
theorem fe_113_26 : am_fetch 113 26 = some (.aload_n 0, 1, 1, 0, 0) := by decide +kernel
theorem fe_113_27 : am_fetch 113 27 = some (.getfield 43, 3, 3, 4, 3) := by decide +kernel
theorem fe_113_30 : am_fetch 113 30 = some (.iload_n 1, 1, 1, 0, 0) := by decide +kernel
theorem fe_113_31 : am_fetch 113 31 = some (.bipush 48, 2, 0, 0, 0) := by decide +kernel
theorem fe_113_33 : am_fetch 113 33 = some (.isub, 1, 0, 0, 0) := by decide +kernel
theorem fe_113_34 : am_fetch 113 34 = some (.invokevirtual 36, 3, 7, 4, 0) := by decide +kernel
theorem fe_113_37 : am_fetch 113 37 = some (.aload_n 0, 1, 1, 0, 0) := by decide +kernel
theorem fe_113_38 : am_fetch 113 38 = some (.iconst 4, 1, 0, 0, 0) := by decide +kernel
theorem fe_113_39 : am_fetch 113 39 = some (.putfield 40, 3, 4, 4, 2) := by decide +kernel
theorem fe_113_42 : am_fetch 113 42 = some (.iconst 1, 1, 0, 0, 0) := by decide +kernel
theorem fe_113_43 : am_fetch 113 43 = some (.ireturn, 1, 8, 0, 0) := by decide +kernel
theorem fe_114_0 : am_fetch 114 0 = some (.aload_n 0, 1, 1, 0, 0) := by decide +kernel
theorem fe_114_1 : am_fetch 114 1 = some (.getfield 29, 3, 3, 4, 7) := by decide +kernel
theorem fe_114_4 : am_fetch 114 4 = some (.aload_n 0, 1, 1, 0, 0) := by decide +kernel
theorem fe_114_5 : am_fetch 114 5 = some (.getfield 43, 3, 3, 4, 3) := by decide +kernel
theorem fe_114_8 : am_fetch 114 8 = some (.invokevirtual 46, 3, 7, 39, 0) := by decide +kernel
theorem fe_114_11 : am_fetch 114 11 = some (.iload_n 1, 1, 1, 0, 0) := by decide +kernel
theorem fe_114_12 : am_fetch 114 12 = some (.bipush 11, 2, 0, 0, 0) := by decide +kernel
theorem fe_114_14 : am_fetch 114 14 = some (.invokestatic 89, 3, 7, 110, 0) := by decide +kernel
theorem fe_114_17 : am_fetch 114 17 = some (.istore_n 2, 1, 1, 0, 0) := by decide +kernel
theorem fe_114_18 : am_fetch 114 18 = some (.iload_n 2, 1, 1, 0, 0) := by decide +kernel
theorem fe_114_19 : am_fetch 114 19 = some (.ifCond .ge 5, 3, 2, 24, 0) := by decide +kernel
theorem fe_114_22 : am_fetch 114 22 = some (.iconst 0, 1, 0, 0, 0) := by decide +kernel
theorem fe_114_23 : am_fetch 114 23 = some (.ireturn, 1, 8, 0, 0) := by decide +kernel
theorem fe_114_24 : am_fetch 114 24 = some (.aload_n 0, 1, 1, 0, 0) := by decide +kernel
theorem fe_114_25 : am_fetch 114 25 = some (.getfield 29, 3, 3, 4, 7) := by decide +kernel
theorem fe_114_28 : am_fetch 114 28 = some (.aload_n 0, 1, 1, 0, 0) := by decide +kernel
theorem fe_114_29 : am_fetch 114 29 = some (.getfield 43, 3, 3, 4, 3) := by decide +kernel
theorem fe_114_32 : am_fetch 114 32 = some (.iload_n 2, 1, 1, 0, 0) := by decide +kernel
theorem fe_114_33 : am_fetch 114 33 = some (.invokevirtual 36, 3, 7, 4, 0) := by decide +kernel
theorem fe_114_36 : am_fetch 114 36 = some (.iconst 1, 1, 0, 0, 0) := by decide +kernel
theorem fe_114_37 : am_fetch 114 37 = some (.ireturn, 1, 8, 0, 0) := by decide +kernel
theorem fe_115_0 : am_fetch 115 0 = some (.iload_n 1, 1, 1, 0, 0) := by decide +kernel
theorem fe_115_1 : am_fetch 115 1 = some (.invokestatic 86, 3, 7, 108, 0) := by decide +kernel
theorem fe_115_4 : am_fetch 115 4 = some (.ifCond .eq 11, 3, 2, 15, 0) := by decide +kernel
theorem fe_115_7 : am_fetch 115 7 = some (.iload_n 1, 1, 1, 0, 0) := by decide +kernel
theorem fe_115_8 : am_fetch 115 8 = some (.bipush 48, 2, 0, 0, 0) := by decide +kernel
theorem fe_115_10 : am_fetch 115 10 = some (.isub, 1, 0, 0, 0) := by decide +kernel
theorem fe_115_11 : am_fetch 115 11 = some (.iconst 5, 1, 0, 0, 0) := by decide +kernel
theorem fe_115_12 : am_fetch 115 12 = some (.if_icmp .lt 5, 3, 2, 17, 0) := by decide +kernel
theorem fe_115_15 : am_fetch 115 15 = some (.iconst 0, 1, 0, 0, 0) := by decide +kernel
theorem fe_115_16 : am_fetch 115 16 = some (.ireturn, 1, 8, 0, 0) := by decide +kernel
theorem fe_115_17 : am_fetch 115 17 = some (.aload_n 0, 1, 1, 0, 0) := by decide +kernel
theorem fe_115_18 : am_fetch 115 18 = some (.getfield 29, 3, 3, 4, 7) := by decide +kernel
theorem fe_115_21 : am_fetch 115 21 = some (.aload_n 0, 1, 1, 0, 0) := by decide +kernel
theorem fe_115_22 : am_fetch 115 22 = some (.getfield 43, 3, 3, 4, 3) := by decide +kernel
theorem fe_115_25 : am_fetch 115 25 = some (.bipush 20, 2, 0, 0, 0) := by decide +kernel
theorem fe_115_27 : am_fetch 115 27 = some (.iload_n 1, 1, 1, 0, 0) := by decide +kernel
theorem fe_115_28 : am_fetch 115 28 = some (.iadd, 1, 0, 0, 0) := by decide +kernel
theorem fe_115_29 : am_fetch 115 29 = some (.bipush 48, 2, 0, 0, 0) := by decide +kernel
theorem fe_115_31 : am_fetch 115 31 = some (.isub, 1, 0, 0, 0) := by decide +kernel
theorem fe_115_32 : am_fetch 115 32 = some (.invokevirtual 36, 3, 7, 4, 0) := by decide +kernel
theorem fe_115_35 : am_fetch 115 35 = some (.aload_n 0, 1, 1, 0, 0) := by decide +kernel
theorem fe_115_36 : am_fetch 115 36 = some (.bipush 6, 2, 0, 0, 0) := by decide +kernel
theorem fe_115_38 : am_fetch 115 38 = some (.putfield 40, 3, 4, 4, 2) := by decide +kernel
theorem fe_115_41 : am_fetch 115 41 = some (.iconst 1, 1, 0, 0, 0) := by decide +kernel
theorem fe_115_42 : am_fetch 115 42 = some (.ireturn, 1, 8, 0, 0) := by decide +kernel
theorem fe_116_0 : am_fetch 116 0 = some (.iload_n 1, 1, 1, 0, 0) := by decide +kernel
theorem fe_116_1 : am_fetch 116 1 = some (.bipush 59, 2, 0, 0, 0) := by decide +kernel
theorem fe_116_3 : am_fetch 116 3 = some (.if_icmp .ne 8, 3, 2, 11, 0) := by decide +kernel
theorem fe_116_6 : am_fetch 116 6 = some (.aload_n 0, 1, 1, 0, 0) := by decide +kernel
theorem fe_116_7 : am_fetch 116 7 = some (.invokevirtual 62, 3, 7, 105, 0) := by decide +kernel
theorem fe_116_10 : am_fetch 116 10 = some (.ireturn, 1, 8, 0, 0) := by decide +kernel
theorem fe_116_11 : am_fetch 116 11 = some (.aload_n 0, 1, 1, 0, 0) := by decide +kernel
theorem fe_116_12 : am_fetch 116 12 = some (.getfield 40, 3, 3, 4, 2) := by decide +kernel
theorem fe_116_15 : am_fetch 116 15 = some (.tableswitch 73 0 5 #[37, 43, 49, 55, 61, 67], 37, 2, 0, 0) := by decide +kernel
theorem fe_116_52 : am_fetch 116 52 = some (.aload_n 0, 1, 1, 0, 0) := by decide +kernel
theorem fe_116_53 : am_fetch 116 53 = some (.iload_n 1, 1, 1, 0, 0) := by decide +kernel
theorem fe_116_54 : am_fetch 116 54 = some (.invokevirtual 65, 3, 7, 107, 0) := by decide +kernel
theorem fe_116_57 : am_fetch 116 57 = some (.ireturn, 1, 8, 0, 0) := by decide +kernel
theorem fe_116_58 : am_fetch 116 58 = some (.aload_n 0, 1, 1, 0, 0) := by decide +kernel
theorem fe_116_59 : am_fetch 116 59 = some (.iload_n 1, 1, 1, 0, 0) := by decide +kernel
theorem fe_116_60 : am_fetch 116 60 = some (.invokevirtual 68, 3, 7, 109, 0) := by decide +kernel
theorem fe_116_63 : am_fetch 116 63 = some (.ireturn, 1, 8, 0, 0) := by decide +kernel
theorem fe_116_64 : am_fetch 116 64 = some (.aload_n 0, 1, 1, 0, 0) := by decide +kernel
theorem fe_116_65 : am_fetch 116 65 = some (.iload_n 1, 1, 1, 0, 0) := by decide +kernel
theorem fe_116_66 : am_fetch 116 66 = some (.invokevirtual 71, 3, 7, 112, 0) := by decide +kernel
theorem fe_116_69 : am_fetch 116 69 = some (.ireturn, 1, 8, 0, 0) := by decide +kernel
theorem fe_116_70 : am_fetch 116 70 = some (.aload_n 0, 1, 1, 0, 0) := by decide +kernel
theorem fe_116_71 : am_fetch 116 71 = some (.iload_n 1, 1, 1, 0, 0) := by decide +kernel
theorem fe_116_72 : am_fetch 116 72 = some (.invokevirtual 74, 3, 7, 113, 0) := by decide +kernel
theorem fe_116_75 : am_fetch 116 75 = some (.ireturn, 1, 8, 0, 0) := by decide +kernel
theorem fe_116_76 : am_fetch 116 76 = some (.aload_n 0, 1, 1, 0, 0) := by decide +kernel
theorem fe_116_77 : am_fetch 116 77 = some (.iload_n 1, 1, 1, 0, 0) := by decide +kernel
theorem fe_116_78 : am_fetch 116 78 = some (.invokevirtual 77, 3, 7, 114, 0) := by decide +kernel
theorem fe_116_81 : am_fetch 116 81 = some (.ireturn, 1, 8, 0, 0) := by decide +kernel
theorem fe_116_82 : am_fetch 116 82 = some (.aload_n 0, 1, 1, 0, 0) := by decide +kernel
theorem fe_116_83 : am_fetch 116 83 = some (.iload_n 1, 1, 1, 0, 0) := by decide +kernel
theorem fe_116_84 : am_fetch 116 84 = some (.invokevirtual 80, 3, 7, 115, 0) := by decide +kernel
theorem fe_116_87 : am_fetch 116 87 = some (.ireturn, 1, 8, 0, 0) := by decide +kernel
theorem fe_116_88 : am_fetch 116 88 = some (.iconst 0, 1, 0, 0, 0) := by decide +kernel
theorem fe_116_89 : am_fetch 116 89 = some (.ireturn, 1, 8, 0, 0) := by decide +kernel
theorem fe_117_0 : am_fetch 117 0 = some (.aload_n 0, 1, 1, 0, 0) := by decide +kernel
theorem fe_117_1 : am_fetch 117 1 = some (.iconst 0, 1, 0, 0, 0) := by decide +kernel
theorem fe_117_2 : am_fetch 117 2 = some (.putfield 40, 3, 4, 4, 2) := by decide +kernel
theorem fe_117_5 : am_fetch 117 5 = some (.aload_n 0, 1, 1, 0, 0) := by decide +kernel
theorem fe_117_6 : am_fetch 117 6 = some (.iconst 0, 1, 0, 0, 0) := by decide +kernel
theorem fe_117_7 : am_fetch 117 7 = some (.putfield 43, 3, 4, 4, 3) := by decide +kernel
theorem fe_117_10 : am_fetch 117 10 = some (.iconst 0, 1, 0, 0, 0) := by decide +kernel
theorem fe_117_11 : am_fetch 117 11 = some (.istore_n 1, 1, 1, 0, 0) := by decide +kernel
theorem fe_117_12 : am_fetch 117 12 = some (.iload_n 1, 1, 1, 0, 0) := by decide +kernel
theorem fe_117_13 : am_fetch 117 13 = some (.aload_n 0, 1, 1, 0, 0) := by decide +kernel
theorem fe_117_14 : am_fetch 117 14 = some (.getfield 32, 3, 3, 4, 0) := by decide +kernel
theorem fe_117_17 : am_fetch 117 17 = some (.if_icmp .ge 26, 3, 2, 43, 0) := by decide +kernel
theorem fe_117_20 : am_fetch 117 20 = some (.aload_n 0, 1, 1, 0, 0) := by decide +kernel
theorem fe_117_21 : am_fetch 117 21 = some (.aload_n 0, 1, 1, 0, 0) := by decide +kernel
theorem fe_117_22 : am_fetch 117 22 = some (.getfield 14, 3, 3, 4, 1) := by decide +kernel
theorem fe_117_25 : am_fetch 117 25 = some (.iload_n 1, 1, 1, 0, 0) := by decide +kernel
theorem fe_117_26 : am_fetch 117 26 = some (.invokevirtual 46, 3, 7, 39, 0) := by decide +kernel
theorem fe_117_29 : am_fetch 117 29 = some (.invokevirtual 50, 3, 7, 116, 0) := by decide +kernel
theorem fe_117_32 : am_fetch 117 32 = some (.ifCond .ne 5, 3, 2, 37, 0) := by decide +kernel
theorem fe_117_35 : am_fetch 117 35 = some (.iload_n 1, 1, 1, 0, 0) := by decide +kernel
theorem fe_117_36 : am_fetch 117 36 = some (.ireturn, 1, 8, 0, 0) := by decide +kernel
theorem fe_117_37 : am_fetch 117 37 = some (.iinc 1 1, 3, 1, 0, 0) := by decide +kernel
theorem fe_117_40 : am_fetch 117 40 = some (.goto (-28), 3, 2, 12, 0) := by decide +kernel
theorem fe_117_43 : am_fetch 117 43 = some (.aload_n 0, 1, 1, 0, 0) := by decide +kernel
theorem fe_117_44 : am_fetch 117 44 = some (.getfield 32, 3, 3, 4, 0) := by decide +kernel
theorem fe_117_47 : am_fetch 117 47 = some (.ireturn, 1, 8, 0, 0) := by decide +kernel
theorem fe_118_0 : am_fetch 118 0 = some (.aload_n 0, 1, 1, 0, 0) := by decide +kernel
theorem fe_118_1 : am_fetch 118 1 = some (.getfield 45, 3, 3, 10, 3) := by decide +kernel
theorem fe_118_4 : am_fetch 118 4 = some (.invokevirtual 175, 3, 7, 117, 0) := by decide +kernel
theorem fe_118_7 : am_fetch 118 7 = some (.ireturn, 1, 8, 0, 0) := by decide +kernel
theorem fe_119_0 : am_fetch 119 0 = some (.aload_n 0, 1, 1, 0, 0) := by decide +kernel
theorem fe_119_1 : am_fetch 119 1 = some (.getfield 122, 3, 3, 11, 9) := by decide +kernel
theorem fe_119_4 : am_fetch 119 4 = some (.aload_n 0, 1, 1, 0, 0) := by decide +kernel
theorem fe_119_5 : am_fetch 119 5 = some (.getfield 119, 3, 3, 11, 6) := by decide +kernel
theorem fe_119_8 : am_fetch 119 8 = some (.if_icmp .ge 24, 3, 2, 32, 0) := by decide +kernel
theorem fe_119_11 : am_fetch 119 11 = some (.aload_n 0, 1, 1, 0, 0) := by decide +kernel
theorem fe_119_12 : am_fetch 119 12 = some (.getfield 23, 3, 3, 11, 5) := by decide +kernel
theorem fe_119_15 : am_fetch 119 15 = some (.aload_n 0, 1, 1, 0, 0) := by decide +kernel
theorem fe_119_16 : am_fetch 119 16 = some (.getfield 122, 3, 3, 11, 9) := by decide +kernel
theorem fe_119_19 : am_fetch 119 19 = some (.iaload, 1, 3, 0, 0) := by decide +kernel
theorem fe_119_20 : am_fetch 119 20 = some (.iload_n 1, 1, 1, 0, 0) := by decide +kernel
theorem fe_119_21 : am_fetch 119 21 = some (.iload_n 2, 1, 1, 0, 0) := by decide +kernel
theorem fe_119_22 : am_fetch 119 22 = some (.invokestatic 36, 3, 7, 26, 0) := by decide +kernel
theorem fe_119_25 : am_fetch 119 25 = some (.ifCond .eq 7, 3, 2, 32, 0) := by decide +kernel
theorem fe_119_28 : am_fetch 119 28 = some (.iconst 1, 1, 0, 0, 0) := by decide +kernel
theorem fe_119_29 : am_fetch 119 29 = some (.goto 4, 3, 2, 33, 0) := by decide +kernel
theorem fe_119_32 : am_fetch 119 32 = some (.iconst 0, 1, 0, 0, 0) := by decide +kernel
theorem fe_119_33 : am_fetch 119 33 = some (.ireturn, 1, 8, 0, 0) := by decide +kernel
theorem fe_120_0 : am_fetch 120 0 = some (.aload_n 0, 1, 1, 0, 0) := by decide +kernel
theorem fe_120_1 : am_fetch 120 1 = some (.bipush 48, 2, 0, 0, 0) := by decide +kernel
theorem fe_120_3 : am_fetch 120 3 = some (.iload_n 2, 1, 1, 0, 0) := by decide +kernel
theorem fe_120_4 : am_fetch 120 4 = some (.iadd, 1, 0, 0, 0) := by decide +kernel
theorem fe_120_5 : am_fetch 120 5 = some (.bipush 57, 2, 0, 0, 0) := by decide +kernel
theorem fe_120_7 : am_fetch 120 7 = some (.invokevirtual 125, 3, 7, 119, 0) := by decide +kernel
theorem fe_120_10 : am_fetch 120 10 = some (.ifCond .eq 19, 3, 2, 29, 0) := by decide +kernel
theorem fe_120_13 : am_fetch 120 13 = some (.aload_n 0, 1, 1, 0, 0) := by decide +kernel
theorem fe_120_14 : am_fetch 120 14 = some (.getfield 23, 3, 3, 11, 5) := by decide +kernel
theorem fe_120_17 : am_fetch 120 17 = some (.aload_n 0, 1, 1, 0, 0) := by decide +kernel
theorem fe_120_18 : am_fetch 120 18 = some (.getfield 122, 3, 3, 11, 9) := by decide +kernel
theorem fe_120_21 : am_fetch 120 21 = some (.iaload, 1, 3, 0, 0) := by decide +kernel
theorem fe_120_22 : am_fetch 120 22 = some (.bipush 48, 2, 0, 0, 0) := by decide +kernel
theorem fe_120_24 : am_fetch 120 24 = some (.isub, 1, 0, 0, 0) := by decide +kernel
theorem fe_120_25 : am_fetch 120 25 = some (.iload_n 3, 1, 1, 0, 0) := by decide +kernel
theorem fe_120_26 : am_fetch 120 26 = some (.if_icmp .le 5, 3, 2, 31, 0) := by decide +kernel
theorem fe_120_29 : am_fetch 120 29 = some (.iconst 0, 1, 0, 0, 0) := by decide +kernel
theorem fe_120_30 : am_fetch 120 30 = some (.ireturn, 1, 8, 0, 0) := by decide +kernel
theorem fe_120_31 : am_fetch 120 31 = some (.aload_n 0, 1, 1, 0, 0) := by decide +kernel
theorem fe_120_32 : am_fetch 120 32 = some (.getfield 23, 3, 3, 11, 5) := by decide +kernel
theorem fe_120_35 : am_fetch 120 35 = some (.aload_n 0, 1, 1, 0, 0) := by decide +kernel
theorem fe_120_36 : am_fetch 120 36 = some (.getfield 122, 3, 3, 11, 9) := by decide +kernel
theorem fe_120_39 : am_fetch 120 39 = some (.iaload, 1, 3, 0, 0) := by decide +kernel
theorem fe_120_40 : am_fetch 120 40 = some (.bipush 48, 2, 0, 0, 0) := by decide +kernel
theorem fe_120_42 : am_fetch 120 42 = some (.isub, 1, 0, 0, 0) := by decide +kernel
theorem fe_120_43 : am_fetch 120 43 = some (.istore 4, 2, 1, 0, 0) := by decide +kernel
theorem fe_120_45 : am_fetch 120 45 = some (.aload_n 0, 1, 1, 0, 0) := by decide +kernel
theorem fe_120_46 : am_fetch 120 46 = some (.dup, 1, 0, 0, 0) := by decide +kernel
theorem fe_120_47 : am_fetch 120 47 = some (.getfield 122, 3, 3, 11, 9) := by decide +kernel
theorem fe_120_50 : am_fetch 120 50 = some (.iconst 1, 1, 0, 0, 0) := by decide +kernel
theorem fe_120_51 : am_fetch 120 51 = some (.iadd, 1, 0, 0, 0) := by decide +kernel
theorem fe_120_52 : am_fetch 120 52 = some (.putfield 122, 3, 4, 11, 9) := by decide +kernel
theorem fe_120_55 : am_fetch 120 55 = some (.iload 4, 2, 1, 0, 0) := by decide +kernel
theorem fe_120_57 : am_fetch 120 57 = some (.ifCond .le 69, 3, 2, 126, 0) := by decide +kernel
theorem fe_120_60 : am_fetch 120 60 = some (.aload_n 0, 1, 1, 0, 0) := by decide +kernel
theorem fe_120_61 : am_fetch 120 61 = some (.bipush 48, 2, 0, 0, 0) := by decide +kernel
theorem fe_120_63 : am_fetch 120 63 = some (.bipush 57, 2, 0, 0, 0) := by decide +kernel
theorem fe_120_65 : am_fetch 120 65 = some (.invokevirtual 125, 3, 7, 119, 0) := by decide +kernel
theorem fe_120_68 : am_fetch 120 68 = some (.ifCond .eq 58, 3, 2, 126, 0) := by decide +kernel
theorem fe_120_71 : am_fetch 120 71 = some (.bipush 10, 2, 0, 0, 0) := by decide +kernel
theorem fe_120_73 : am_fetch 120 73 = some (.iload 4, 2, 1, 0, 0) := by decide +kernel
theorem fe_120_75 : am_fetch 120 75 = some (.imul, 1, 0, 0, 0) := by decide +kernel
theorem fe_120_76 : am_fetch 120 76 = some (.aload_n 0, 1, 1, 0, 0) := by decide +kernel
theorem fe_120_77 : am_fetch 120 77 = some (.getfield 23, 3, 3, 11, 5) := by decide +kernel
theorem fe_120_80 : am_fetch 120 80 = some (.aload_n 0, 1, 1, 0, 0) := by decide +kernel
theorem fe_120_81 : am_fetch 120 81 = some (.getfield 122, 3, 3, 11, 9) := by decide +kernel
theorem fe_120_84 : am_fetch 120 84 = some (.iaload, 1, 3, 0, 0) := by decide +kernel
theorem fe_120_85 : am_fetch 120 85 = some (.iadd, 1, 0, 0, 0) := by decide +kernel
theorem fe_120_86 : am_fetch 120 86 = some (.bipush 48, 2, 0, 0, 0) := by decide +kernel
theorem fe_120_88 : am_fetch 120 88 = some (.isub, 1, 0, 0, 0) := by decide +kernel
theorem fe_120_89 : am_fetch 120 89 = some (.iload_n 3, 1, 1, 0, 0) := by decide +kernel
theorem fe_120_90 : am_fetch 120 90 = some (.if_icmp .gt 36, 3, 2, 126, 0) := by decide +kernel
theorem fe_120_93 : am_fetch 120 93 = some (.bipush 10, 2, 0, 0, 0) := by decide +kernel
theorem fe_120_95 : am_fetch 120 95 = some (.iload 4, 2, 1, 0, 0) := by decide +kernel
theorem fe_120_97 : am_fetch 120 97 = some (.imul, 1, 0, 0, 0) := by decide +kernel
theorem fe_120_98 : am_fetch 120 98 = some (.aload_n 0, 1, 1, 0, 0) := by decide +kernel
theorem fe_120_99 : am_fetch 120 99 = some (.getfield 23, 3, 3, 11, 5) := by decide +kernel
theorem fe_120_102 : am_fetch 120 102 = some (.aload_n 0, 1, 1, 0, 0) := by decide +kernel
theorem fe_120_103 : am_fetch 120 103 = some (.getfield 122, 3, 3, 11, 9) := by decide +kernel
theorem fe_120_106 : am_fetch 120 106 = some (.iaload, 1, 3, 0, 0) := by decide +kernel
theorem fe_120_107 : am_fetch 120 107 = some (.iadd, 1, 0, 0, 0) := by decide +kernel
theorem fe_120_108 : am_fetch 120 108 = some (.bipush 48, 2, 0, 0, 0) := by decide +kernel
theorem fe_120_110 : am_fetch 120 110 = some (.isub, 1, 0, 0, 0) := by decide +kernel
theorem fe_120_111 : am_fetch 120 111 = some (.istore 4, 2, 1, 0, 0) := by decide +kernel
theorem fe_120_113 : am_fetch 120 113 = some (.aload_n 0, 1, 1, 0, 0) := by decide +kernel
theorem fe_120_114 : am_fetch 120 114 = some (.dup, 1, 0, 0, 0) := by decide +kernel
theorem fe_120_115 : am_fetch 120 115 = some (.getfield 122, 3, 3, 11, 9) := by decide +kernel
theorem fe_120_118 : am_fetch 120 118 = some (.iconst 1, 1, 0, 0, 0) := by decide +kernel
theorem fe_120_119 : am_fetch 120 119 = some (.iadd, 1, 0, 0, 0) := by decide +kernel
theorem fe_120_120 : am_fetch 120 120 = some (.putfield 122, 3, 4, 11, 9) := by decide +kernel
theorem fe_120_123 : am_fetch 120 123 = some (.goto (-68), 3, 2, 55, 0) := by decide +kernel
theorem fe_120_126 : am_fetch 120 126 = some (.aload_n 0, 1, 1, 0, 0) := by decide +kernel
theorem fe_120_127 : am_fetch 120 127 = some (.getfield 29, 3, 3, 11, 11) := by decide +kernel
theorem fe_120_130 : am_fetch 120 130 = some (.iload_n 1, 1, 1, 0, 0) := by decide +kernel
theorem fe_120_131 : am_fetch 120 131 = some (.iload 4, 2, 1, 0, 0) := by decide +kernel
theorem fe_120_133 : am_fetch 120 133 = some (.iastore, 1, 4, 0, 0) := by decide +kernel
theorem fe_120_134 : am_fetch 120 134 = some (.iconst 1, 1, 0, 0, 0) := by decide +kernel
theorem fe_120_135 : am_fetch 120 135 = some (.ireturn, 1, 8, 0, 0) := by decide +kernel
theorem fe_121_0 : am_fetch 121 0 = some (.aload_n 0, 1, 1, 0, 0) := by decide +kernel
theorem fe_121_1 : am_fetch 121 1 = some (.iload_n 1, 1, 1, 0, 0) := by decide +kernel
theorem fe_121_2 : am_fetch 121 2 = some (.iload_n 1, 1, 1, 0, 0) := by decide +kernel
theorem fe_121_3 : am_fetch 121 3 = some (.invokevirtual 125, 3, 7, 119, 0) := by decide +kernel
theorem fe_121_6 : am_fetch 121 6 = some (.istore_n 2, 1, 1, 0, 0) := by decide +kernel
theorem fe_121_7 : am_fetch 121 7 = some (.aload_n 0, 1, 1, 0, 0) := by decide +kernel
theorem fe_121_8 : am_fetch 121 8 = some (.dup, 1, 0, 0, 0) := by decide +kernel
theorem fe_121_9 : am_fetch 121 9 = some (.getfield 122, 3, 3, 11, 9) := by decide +kernel
theorem fe_121_12 : am_fetch 121 12 = some (.iload_n 2, 1, 1, 0, 0) := by decide +kernel
theorem fe_121_13 : am_fetch 121 13 = some (.ifCond .eq 7, 3, 2, 20, 0) := by decide +kernel
theorem fe_121_16 : am_fetch 121 16 = some (.iconst 1, 1, 0, 0, 0) := by decide +kernel
theorem fe_121_17 : am_fetch 121 17 = some (.goto 4, 3, 2, 21, 0) := by decide +kernel
theorem fe_121_20 : am_fetch 121 20 = some (.iconst 0, 1, 0, 0, 0) := by decide +kernel
theorem fe_121_21 : am_fetch 121 21 = some (.iadd, 1, 0, 0, 0) := by decide +kernel
theorem fe_121_22 : am_fetch 121 22 = some (.putfield 122, 3, 4, 11, 9) := by decide +kernel
theorem fe_121_25 : am_fetch 121 25 = some (.iload_n 2, 1, 1, 0, 0) := by decide +kernel
theorem fe_121_26 : am_fetch 121 26 = some (.ireturn, 1, 8, 0, 0) := by decide +kernel
theorem fe_122_0 : am_fetch 122 0 = some (.aload_n 0, 1, 1, 0, 0) := by decide +kernel
theorem fe_122_1 : am_fetch 122 1 = some (.iconst 0, 1, 0, 0, 0) := by decide +kernel
theorem fe_122_2 : am_fetch 122 2 = some (.iconst 0, 1, 0, 0, 0) := by decide +kernel
theorem fe_122_3 : am_fetch 122 3 = some (.bipush 11, 2, 0, 0, 0) := by decide +kernel
theorem fe_122_5 : am_fetch 122 5 = some (.invokevirtual 129, 3, 7, 120, 0) := by decide +kernel
theorem fe_122_8 : am_fetch 122 8 = some (.ifCond .ne 5, 3, 2, 13, 0) := by decide +kernel
theorem fe_122_11 : am_fetch 122 11 = some (.iconst 0, 1, 0, 0, 0) := by decide +kernel
theorem fe_122_12 : am_fetch 122 12 = some (.ireturn, 1, 8, 0, 0) := by decide +kernel
theorem fe_122_13 : am_fetch 122 13 = some (.aload_n 0, 1, 1, 0, 0) := by decide +kernel
theorem fe_122_14 : am_fetch 122 14 = some (.getfield 29, 3, 3, 11, 11) := by decide +kernel
theorem fe_122_17 : am_fetch 122 17 = some (.iconst 1, 1, 0, 0, 0) := by decide +kernel
theorem fe_122_18 : am_fetch 122 18 = some (.aload_n 0, 1, 1, 0, 0) := by decide +kernel
theorem fe_122_19 : am_fetch 122 19 = some (.bipush 76, 2, 0, 0, 0) := by decide +kernel
theorem fe_122_21 : am_fetch 122 21 = some (.invokevirtual 132, 3, 7, 121, 0) := by decide +kernel
theorem fe_122_24 : am_fetch 122 24 = some (.ifCond .eq 7, 3, 2, 31, 0) := by decide +kernel
theorem fe_122_27 : am_fetch 122 27 = some (.iconst 0, 1, 0, 0, 0) := by decide +kernel
theorem fe_122_28 : am_fetch 122 28 = some (.goto 17, 3, 2, 45, 0) := by decide +kernel
theorem fe_122_31 : am_fetch 122 31 = some (.aload_n 0, 1, 1, 0, 0) := by decide +kernel
theorem fe_122_32 : am_fetch 122 32 = some (.bipush 82, 2, 0, 0, 0) := by decide +kernel
theorem fe_122_34 : am_fetch 122 34 = some (.invokevirtual 132, 3, 7, 121, 0) := by decide +kernel
theorem fe_122_37 : am_fetch 122 37 = some (.ifCond .eq 7, 3, 2, 44, 0) := by decide +kernel
theorem fe_122_40 : am_fetch 122 40 = some (.iconst 1, 1, 0, 0, 0) := by decide +kernel
theorem fe_122_41 : am_fetch 122 41 = some (.goto 4, 3, 2, 45, 0) := by decide +kernel
theorem fe_122_44 : am_fetch 122 44 = some (.iconst (-1), 1, 0, 0, 0) := by decide +kernel
theorem fe_122_45 : am_fetch 122 45 = some (.iastore, 1, 4, 0, 0) := by decide +kernel
theorem fe_122_46 : am_fetch 122 46 = some (.aload_n 0, 1, 1, 0, 0) := by decide +kernel
theorem fe_122_47 : am_fetch 122 47 = some (.getfield 29, 3, 3, 11, 11) := by decide +kernel
theorem fe_122_50 : am_fetch 122 50 = some (.iconst 1, 1, 0, 0, 0) := by decide +kernel
theorem fe_122_51 : am_fetch 122 51 = some (.iaload, 1, 3, 0, 0) := by decide +kernel
theorem fe_122_52 : am_fetch 122 52 = some (.iconst (-1), 1, 0, 0, 0) := by decide +kernel
theorem fe_122_53 : am_fetch 122 53 = some (.if_icmp .ne 5, 3, 2, 58, 0) := by decide +kernel
theorem fe_122_56 : am_fetch 122 56 = some (.iconst 0, 1, 0, 0, 0) := by decide +kernel
theorem fe_122_57 : am_fetch 122 57 = some (.ireturn, 1, 8, 0, 0) := by decide +kernel
theorem fe_122_58 : am_fetch 122 58 = some (.aload_n 0, 1, 1, 0, 0) := by decide +kernel
theorem fe_122_59 : am_fetch 122 59 = some (.bipush 98, 2, 0, 0, 0) := by decide +kernel
theorem fe_122_61 : am_fetch 122 61 = some (.invokevirtual 132, 3, 7, 121, 0) := by decide +kernel
theorem fe_122_64 : am_fetch 122 64 = some (.ifCond .ne 12, 3, 2, 76, 0) := by decide +kernel
theorem fe_122_67 : am_fetch 122 67 = some (.aload_n 0, 1, 1, 0, 0) := by decide +kernel
theorem fe_122_68 : am_fetch 122 68 = some (.iconst 2, 1, 0, 0, 0) := by decide +kernel
theorem fe_122_69 : am_fetch 122 69 = some (.iconst 0, 1, 0, 0, 0) := by decide +kernel
theorem fe_122_70 : am_fetch 122 70 = some (.bipush 11, 2, 0, 0, 0) := by decide +kernel
theorem fe_122_72 : am_fetch 122 72 = some (.invokevirtual 129, 3, 7, 120, 0) := by decide +kernel
theorem fe_122_75 : am_fetch 122 75 = some (.ireturn, 1, 8, 0, 0) := by decide +kernel
theorem fe_122_76 : am_fetch 122 76 = some (.aload_n 0, 1, 1, 0, 0) := by decide +kernel
theorem fe_122_77 : am_fetch 122 77 = some (.iconst 2, 1, 0, 0, 0) := by decide +kernel
theorem fe_122_78 : am_fetch 122 78 = some (.iconst 0, 1, 0, 0, 0) := by decide +kernel
theorem fe_122_79 : am_fetch 122 79 = some (.iconst 4, 1, 0, 0, 0) := by decide +kernel
theorem fe_122_80 : am_fetch 122 80 = some (.invokevirtual 129, 3, 7, 120, 0) := by decide +kernel
theorem fe_122_83 : am_fetch 122 83 = some (.istore_n 1, 1, 1, 0, 0) := by decide +kernel
theorem fe_122_84 : am_fetch 122 84 = some (.aload_n 0, 1, 1, 0, 0) := by decide +kernel
theorem fe_122_85 : am_fetch 122 85 = some (.getfield 29, 3, 3, 11, 11) := by decide +kernel
theorem fe_122_88 : am_fetch 122 88 = some (.iconst 2, 1, 0, 0, 0) := by decide +kernel
theorem fe_122_89 : am_fetch 122 89 = some (.dup2, 1, 0, 0, 0) := by decide +kernel
theorem fe_122_90 : am_fetch 122 90 = some (.iaload, 1, 3, 0, 0) := by decide +kernel
theorem fe_122_91 : am_fetch 122 91 = some (.bipush 20, 2, 0, 0, 0) := by decide +kernel
theorem fe_122_93 : am_fetch 122 93 = some (.iadd, 1, 0, 0, 0) := by decide +kernel
theorem fe_122_94 : am_fetch 122 94 = some (.iastore, 1, 4, 0, 0) := by decide +kernel
theorem fe_122_95 : am_fetch 122 95 = some (.iload_n 1, 1, 1, 0, 0) := by decide +kernel
theorem fe_122_96 : am_fetch 122 96 = some (.ireturn, 1, 8, 0, 0) := by decide +kernel
theorem fe_123_0 : am_fetch 123 0 = some (.aload_n 0, 1, 1, 0, 0) := by decide +kernel
theorem fe_123_1 : am_fetch 123 1 = some (.aload_n 0, 1, 1, 0, 0) := by decide +kernel
theorem fe_123_2 : am_fetch 123 2 = some (.getfield 122, 3, 3, 11, 9) := by decide +kernel
theorem fe_123_5 : am_fetch 123 5 = some (.aload_n 0, 1, 1, 0, 0) := by decide +kernel
theorem fe_123_6 : am_fetch 123 6 = some (.getfield 119, 3, 3, 11, 6) := by decide +kernel
theorem fe_123_9 : am_fetch 123 9 = some (.if_icmp .ge 15, 3, 2, 24, 0) := by decide +kernel
theorem fe_123_12 : am_fetch 123 12 = some (.aload_n 0, 1, 1, 0, 0) := by decide +kernel
theorem fe_123_13 : am_fetch 123 13 = some (.getfield 23, 3, 3, 11, 5) := by decide +kernel
theorem fe_123_16 : am_fetch 123 16 = some (.aload_n 0, 1, 1, 0, 0) := by decide +kernel
theorem fe_123_17 : am_fetch 123 17 = some (.getfield 122, 3, 3, 11, 9) := by decide +kernel
theorem fe_123_20 : am_fetch 123 20 = some (.iaload, 1, 3, 0, 0) := by decide +kernel
theorem fe_123_21 : am_fetch 123 21 = some (.goto 4, 3, 2, 25, 0) := by decide +kernel
theorem fe_123_24 : am_fetch 123 24 = some (.iconst 0, 1, 0, 0, 0) := by decide +kernel
theorem fe_123_25 : am_fetch 123 25 = some (.putfield 135, 3, 4, 11, 10) := by decide +kernel
theorem fe_123_28 : am_fetch 123 28 = some (.aload_n 0, 1, 1, 0, 0) := by decide +kernel
theorem fe_123_29 : am_fetch 123 29 = some (.dup, 1, 0, 0, 0) := by decide +kernel
theorem fe_123_30 : am_fetch 123 30 = some (.getfield 122, 3, 3, 11, 9) := by decide +kernel
theorem fe_123_33 : am_fetch 123 33 = some (.iconst 1, 1, 0, 0, 0) := by decide +kernel
theorem fe_123_34 : am_fetch 123 34 = some (.iadd, 1, 0, 0, 0) := by decide +kernel
theorem fe_123_35 : am_fetch 123 35 = some (.putfield 122, 3, 4, 11, 9) := by decide +kernel
theorem fe_123_38 : am_fetch 123 38 = some (.aload_n 0, 1, 1, 0, 0) := by decide +kernel
theorem fe_123_39 : am_fetch 123 39 = some (.getfield 135, 3, 3, 11, 10) := by decide +kernel
theorem fe_123_42 : am_fetch 123 42 = some (.lookupswitch 91 #[(100, 64), (101, 59), (102, 82), (103, 50), (116, 73)], 50, 2, 0, 0) := by decide +kernel
theorem fe_123_92 : am_fetch 123 92 = some (.aload_n 0, 1, 1, 0, 0) := by decide +kernel
theorem fe_123_93 : am_fetch 123 93 = some (.iconst 0, 1, 0, 0, 0) := by decide +kernel
theorem fe_123_94 : am_fetch 123 94 = some (.iconst 0, 1, 0, 0, 0) := by decide +kernel
theorem fe_123_95 : am_fetch 123 95 = some (.bipush 30, 2, 0, 0, 0) := by decide +kernel
theorem fe_123_97 : am_fetch 123 97 = some (.invokevirtual 129, 3, 7, 120, 0) := by decide +kernel
theorem fe_123_100 : am_fetch 123 100 = some (.ireturn, 1, 8, 0, 0) := by decide +kernel
theorem fe_123_101 : am_fetch 123 101 = some (.aload_n 0, 1, 1, 0, 0) := by decide +kernel
theorem fe_123_102 : am_fetch 123 102 = some (.invokevirtual 138, 3, 7, 122, 0) := by decide +kernel
theorem fe_123_105 : am_fetch 123 105 = some (.ireturn, 1, 8, 0, 0) := by decide +kernel
theorem fe_123_106 : am_fetch 123 106 = some (.aload_n 0, 1, 1, 0, 0) := by decide +kernel
theorem fe_123_107 : am_fetch 123 107 = some (.iconst 0, 1, 0, 0, 0) := by decide +kernel
theorem fe_123_108 : am_fetch 123 108 = some (.iconst 1, 1, 0, 0, 0) := by decide +kernel
theorem fe_123_109 : am_fetch 123 109 = some (.bipush 40, 2, 0, 0, 0) := by decide +kernel
theorem fe_123_111 : am_fetch 123 111 = some (.invokevirtual 129, 3, 7, 120, 0) := by decide +kernel
theorem fe_123_114 : am_fetch 123 114 = some (.ireturn, 1, 8, 0, 0) := by decide +kernel
theorem fe_123_115 : am_fetch 123 115 = some (.aload_n 0, 1, 1, 0, 0) := by decide +kernel
theorem fe_123_116 : am_fetch 123 116 = some (.iconst 0, 1, 0, 0, 0) := by decide +kernel
theorem fe_123_117 : am_fetch 123 117 = some (.iconst 1, 1, 0, 0, 0) := by decide +kernel
theorem fe_123_118 : am_fetch 123 118 = some (.bipush 50, 2, 0, 0, 0) := by decide +kernel
theorem fe_123_120 : am_fetch 123 120 = some (.invokevirtual 129, 3, 7, 120, 0) := by decide +kernel
theorem fe_123_123 : am_fetch 123 123 = some (.ireturn, 1, 8, 0, 0) := by decide +kernel
theorem fe_123_124 : am_fetch 123 124 = some (.aload_n 0, 1, 1, 0, 0) := by decide +kernel
theorem fe_123_125 : am_fetch 123 125 = some (.iconst 0, 1, 0, 0, 0) := by decide +kernel
theorem fe_123_126 : am_fetch 123 126 = some (.iconst 0, 1, 0, 0, 0) := by decide +kernel
theorem fe_123_127 : am_fetch 123 127 = some (.bipush 11, 2, 0, 0, 0) := by decide +kernel
theorem fe_123_129 : am_fetch 123 129 = some (.invokevirtual 129, 3, 7, 120, 0) := by decide +kernel
theorem fe_123_132 : am_fetch 123 132 = some (.ireturn, 1, 8, 0, 0) := by decide +kernel
theorem fe_123_133 : am_fetch 123 133 = some (.aload_n 0, 1, 1, 0, 0) := by decide +kernel
theorem fe_123_134 : am_fetch 123 134 = some (.dup, 1, 0, 0, 0) := by decide +kernel
theorem fe_123_135 : am_fetch 123 135 = some (.getfield 122, 3, 3, 11, 9) := by decide +kernel
theorem fe_123_138 : am_fetch 123 138 = some (.iconst 1, 1, 0, 0, 0) := by decide +kernel
theorem fe_123_139 : am_fetch 123 139 = some (.isub, 1, 0, 0, 0) := by decide +kernel
theorem fe_123_140 : am_fetch 123 140 = some (.putfield 122, 3, 4, 11, 9) := by decide +kernel
theorem fe_123_143 : am_fetch 123 143 = some (.iconst 0, 1, 0, 0, 0) := by decide +kernel
theorem fe_123_144 : am_fetch 123 144 = some (.ireturn, 1, 8, 0, 0) := by decide +kernel
theorem fe_124_0 : am_fetch 124 0 = some (.aload_n 0, 1, 1, 0, 0) := by decide +kernel
theorem fe_124_1 : am_fetch 124 1 = some (.getfield 135, 3, 3, 11, 10) := by decide +kernel
theorem fe_124_4 : am_fetch 124 4 = some (.lookupswitch 115 #[(100, 94), (101, 63), (103, 44), (116, 113)], 44, 2, 0, 0) := by decide +kernel
theorem fe_124_48 : am_fetch 124 48 = some (.aload_n 0, 1, 1, 0, 0) := by decide +kernel
theorem fe_124_49 : am_fetch 124 49 = some (.aload_n 0, 1, 1, 0, 0) := by decide +kernel
theorem fe_124_50 : am_fetch 124 50 = some (.getfield 29, 3, 3, 11, 11) := by decide +kernel
theorem fe_124_53 : am_fetch 124 53 = some (.iconst 0, 1, 0, 0, 0) := by decide +kernel
theorem fe_124_54 : am_fetch 124 54 = some (.iaload, 1, 3, 0, 0) := by decide +kernel
theorem fe_124_55 : am_fetch 124 55 = some (.invokevirtual 88, 3, 7, 28, 0) := by decide +kernel
theorem fe_124_58 : am_fetch 124 58 = some (.ifCond .ne 7, 3, 2, 65, 0) := by decide +kernel
theorem fe_124_61 : am_fetch 124 61 = some (.iconst 1, 1, 0, 0, 0) := by decide +kernel
theorem fe_124_62 : am_fetch 124 62 = some (.goto 4, 3, 2, 66, 0) := by decide +kernel
theorem fe_124_65 : am_fetch 124 65 = some (.iconst 0, 1, 0, 0, 0) := by decide +kernel
theorem fe_124_66 : am_fetch 124 66 = some (.ireturn, 1, 8, 0, 0) := by decide +kernel
theorem fe_124_67 : am_fetch 124 67 = some (.aload_n 0, 1, 1, 0, 0) := by decide +kernel
theorem fe_124_68 : am_fetch 124 68 = some (.aload_n 0, 1, 1, 0, 0) := by decide +kernel
theorem fe_124_69 : am_fetch 124 69 = some (.getfield 29, 3, 3, 11, 11) := by decide +kernel
theorem fe_124_72 : am_fetch 124 72 = some (.iconst 0, 1, 0, 0, 0) := by decide +kernel
theorem fe_124_73 : am_fetch 124 73 = some (.iaload, 1, 3, 0, 0) := by decide +kernel
theorem fe_124_74 : am_fetch 124 74 = some (.aload_n 0, 1, 1, 0, 0) := by decide +kernel
theorem fe_124_75 : am_fetch 124 75 = some (.getfield 29, 3, 3, 11, 11) := by decide +kernel
theorem fe_124_78 : am_fetch 124 78 = some (.iconst 1, 1, 0, 0, 0) := by decide +kernel
theorem fe_124_79 : am_fetch 124 79 = some (.iaload, 1, 3, 0, 0) := by decide +kernel
theorem fe_124_80 : am_fetch 124 80 = some (.aload_n 0, 1, 1, 0, 0) := by decide +kernel
theorem fe_124_81 : am_fetch 124 81 = some (.getfield 29, 3, 3, 11, 11) := by decide +kernel
theorem fe_124_84 : am_fetch 124 84 = some (.iconst 2, 1, 0, 0, 0) := by decide +kernel
theorem fe_124_85 : am_fetch 124 85 = some (.iaload, 1, 3, 0, 0) := by decide +kernel
theorem fe_124_86 : am_fetch 124 86 = some (.invokevirtual 100, 3, 7, 47, 0) := by decide +kernel
theorem fe_124_89 : am_fetch 124 89 = some (.ifCond .ne 7, 3, 2, 96, 0) := by decide +kernel
theorem fe_124_92 : am_fetch 124 92 = some (.iconst 1, 1, 0, 0, 0) := by decide +kernel
theorem fe_124_93 : am_fetch 124 93 = some (.goto 4, 3, 2, 97, 0) := by decide +kernel
theorem fe_124_96 : am_fetch 124 96 = some (.iconst 0, 1, 0, 0, 0) := by decide +kernel
theorem fe_124_97 : am_fetch 124 97 = some (.ireturn, 1, 8, 0, 0) := by decide +kernel
theorem fe_124_98 : am_fetch 124 98 = some (.aload_n 0, 1, 1, 0, 0) := by decide +kernel
theorem fe_124_99 : am_fetch 124 99 = some (.aload_n 0, 1, 1, 0, 0) := by decide +kernel
theorem fe_124_100 : am_fetch 124 100 = some (.getfield 29, 3, 3, 11, 11) := by decide +kernel
theorem fe_124_103 : am_fetch 124 103 = some (.iconst 0, 1, 0, 0, 0) := by decide +kernel
theorem fe_124_104 : am_fetch 124 104 = some (.iaload, 1, 3, 0, 0) := by decide +kernel
theorem fe_124_105 : am_fetch 124 105 = some (.invokevirtual 110, 3, 7, 68, 0) := by decide +kernel
theorem fe_124_108 : am_fetch 124 108 = some (.ifCond .ne 7, 3, 2, 115, 0) := by decide +kernel
theorem fe_124_111 : am_fetch 124 111 = some (.iconst 1, 1, 0, 0, 0) := by decide +kernel
theorem fe_124_112 : am_fetch 124 112 = some (.goto 4, 3, 2, 116, 0) := by decide +kernel
theorem fe_124_115 : am_fetch 124 115 = some (.iconst 0, 1, 0, 0, 0) := by decide +kernel
theorem fe_124_116 : am_fetch 124 116 = some (.ireturn, 1, 8, 0, 0) := by decide +kernel
theorem fe_124_117 : am_fetch 124 117 = some (.iconst 1, 1, 0, 0, 0) := by decide +kernel
theorem fe_124_118 : am_fetch 124 118 = some (.ireturn, 1, 8, 0, 0) := by decide +kernel
theorem fe_124_119 : am_fetch 124 119 = some (.aload_n 0, 1, 1, 0, 0) := by decide +kernel
theorem fe_124_120 : am_fetch 124 120 = some (.aload_n 0, 1, 1, 0, 0) := by decide +kernel
theorem fe_124_121 : am_fetch 124 121 = some (.getfield 29, 3, 3, 11, 11) := by decide +kernel
theorem fe_124_124 : am_fetch 124 124 = some (.iconst 0, 1, 0, 0, 0) := by decide +kernel
theorem fe_124_125 : am_fetch 124 125 = some (.iaload, 1, 3, 0, 0) := by decide +kernel
theorem fe_124_126 : am_fetch 124 126 = some (.invokevirtual 40, 3, 7, 44, 0) := by decide +kernel
theorem fe_124_129 : am_fetch 124 129 = some (.ireturn, 1, 8, 0, 0) := by decide +kernel
theorem fe_125_0 : am_fetch 125 0 = some (.aload_n 0, 1, 1, 0, 0) := by decide +kernel
theorem fe_125_1 : am_fetch 125 1 = some (.getfield 135, 3, 3, 11, 10) := by decide +kernel
theorem fe_125_4 : am_fetch 125 4 = some (.lookupswitch 100 #[(100, 78), (101, 55), (103, 44), (116, 89)], 44, 2, 0, 0) := by decide +kernel
theorem fe_125_48 : am_fetch 125 48 = some (.aload_n 0, 1, 1, 0, 0) := by decide +kernel
theorem fe_125_49 : am_fetch 125 49 = some (.aload_n 0, 1, 1, 0, 0) := by decide +kernel
theorem fe_125_50 : am_fetch 125 50 = some (.getfield 29, 3, 3, 11, 11) := by decide +kernel
theorem fe_125_53 : am_fetch 125 53 = some (.iconst 0, 1, 0, 0, 0) := by decide +kernel
theorem fe_125_54 : am_fetch 125 54 = some (.iaload, 1, 3, 0, 0) := by decide +kernel
theorem fe_125_55 : am_fetch 125 55 = some (.invokevirtual 97, 3, 7, 33, 0) := by decide +kernel
theorem fe_125_58 : am_fetch 125 58 = some (.ireturn, 1, 8, 0, 0) := by decide +kernel
theorem fe_125_59 : am_fetch 125 59 = some (.aload_n 0, 1, 1, 0, 0) := by decide +kernel
theorem fe_125_60 : am_fetch 125 60 = some (.aload_n 0, 1, 1, 0, 0) := by decide +kernel
theorem fe_125_61 : am_fetch 125 61 = some (.getfield 29, 3, 3, 11, 11) := by decide +kernel
theorem fe_125_64 : am_fetch 125 64 = some (.iconst 0, 1, 0, 0, 0) := by decide +kernel
theorem fe_125_65 : am_fetch 125 65 = some (.iaload, 1, 3, 0, 0) := by decide +kernel
theorem fe_125_66 : am_fetch 125 66 = some (.aload_n 0, 1, 1, 0, 0) := by decide +kernel
theorem fe_125_67 : am_fetch 125 67 = some (.getfield 29, 3, 3, 11, 11) := by decide +kernel
theorem fe_125_70 : am_fetch 125 70 = some (.iconst 1, 1, 0, 0, 0) := by decide +kernel
theorem fe_125_71 : am_fetch 125 71 = some (.iaload, 1, 3, 0, 0) := by decide +kernel
theorem fe_125_72 : am_fetch 125 72 = some (.aload_n 0, 1, 1, 0, 0) := by decide +kernel
theorem fe_125_73 : am_fetch 125 73 = some (.getfield 29, 3, 3, 11, 11) := by decide +kernel
theorem fe_125_76 : am_fetch 125 76 = some (.iconst 2, 1, 0, 0, 0) := by decide +kernel
theorem fe_125_77 : am_fetch 125 77 = some (.iaload, 1, 3, 0, 0) := by decide +kernel
theorem fe_125_78 : am_fetch 125 78 = some (.invokevirtual 104, 3, 7, 49, 0) := by decide +kernel
theorem fe_125_81 : am_fetch 125 81 = some (.ireturn, 1, 8, 0, 0) := by decide +kernel
theorem fe_125_82 : am_fetch 125 82 = some (.aload_n 0, 1, 1, 0, 0) := by decide +kernel
theorem fe_125_83 : am_fetch 125 83 = some (.aload_n 0, 1, 1, 0, 0) := by decide +kernel
theorem fe_125_84 : am_fetch 125 84 = some (.getfield 29, 3, 3, 11, 11) := by decide +kernel
theorem fe_125_87 : am_fetch 125 87 = some (.iconst 0, 1, 0, 0, 0) := by decide +kernel
theorem fe_125_88 : am_fetch 125 88 = some (.iaload, 1, 3, 0, 0) := by decide +kernel
theorem fe_125_89 : am_fetch 125 89 = some (.invokevirtual 113, 3, 7, 69, 0) := by decide +kernel
theorem fe_125_92 : am_fetch 125 92 = some (.ireturn, 1, 8, 0, 0) := by decide +kernel
theorem fe_125_93 : am_fetch 125 93 = some (.aload_n 0, 1, 1, 0, 0) := by decide +kernel
theorem fe_125_94 : am_fetch 125 94 = some (.aload_n 0, 1, 1, 0, 0) := by decide +kernel
theorem fe_125_95 : am_fetch 125 95 = some (.getfield 29, 3, 3, 11, 11) := by decide +kernel
theorem fe_125_98 : am_fetch 125 98 = some (.iconst 0, 1, 0, 0, 0) := by decide +kernel
theorem fe_125_99 : am_fetch 125 99 = some (.iaload, 1, 3, 0, 0) := by decide +kernel
theorem fe_125_100 : am_fetch 125 100 = some (.invokevirtual 116, 3, 7, 89, 0) := by decide +kernel
theorem fe_125_103 : am_fetch 125 103 = some (.ireturn, 1, 8, 0, 0) := by decide +kernel
theorem fe_125_104 : am_fetch 125 104 = some (.aload_n 0, 1, 1, 0, 0) := by decide +kernel
theorem fe_125_105 : am_fetch 125 105 = some (.aload_n 0, 1, 1, 0, 0) := by decide +kernel
theorem fe_125_106 : am_fetch 125 106 = some (.getfield 29, 3, 3, 11, 11) := by decide +kernel
theorem fe_125_109 : am_fetch 125 109 = some (.iconst 0, 1, 0, 0, 0) := by decide +kernel
theorem fe_125_110 : am_fetch 125 110 = some (.iaload, 1, 3, 0, 0) := by decide +kernel
theorem fe_125_111 : am_fetch 125 111 = some (.invokevirtual 107, 3, 7, 59, 0) := by decide +kernel
theorem fe_125_114 : am_fetch 125 114 = some (.ireturn, 1, 8, 0, 0) := by decide +kernel
theorem fe_126_0 : am_fetch 126 0 = some (.aload_n 0, 1, 1, 0, 0) := by decide +kernel
theorem fe_126_1 : am_fetch 126 1 = some (.iconst 0, 1, 0, 0, 0) := by decide +kernel
theorem fe_126_2 : am_fetch 126 2 = some (.putfield 122, 3, 4, 11, 9) := by decide +kernel
theorem fe_126_5 : am_fetch 126 5 = some (.aload_n 0, 1, 1, 0, 0) := by decide +kernel
theorem fe_126_6 : am_fetch 126 6 = some (.iconst 0, 1, 0, 0, 0) := by decide +kernel
theorem fe_126_7 : am_fetch 126 7 = some (.putfield 142, 3, 4, 11, 12) := by decide +kernel
theorem fe_126_10 : am_fetch 126 10 = some (.aload_n 0, 1, 1, 0, 0) := by decide +kernel
theorem fe_126_11 : am_fetch 126 11 = some (.invokevirtual 145, 3, 7, 123, 0) := by decide +kernel
theorem fe_126_14 : am_fetch 126 14 = some (.istore_n 2, 1, 1, 0, 0) := by decide +kernel
theorem fe_126_15 : am_fetch 126 15 = some (.iload_n 2, 1, 1, 0, 0) := by decide +kernel
theorem fe_126_16 : am_fetch 126 16 = some (.ifCond .eq 69, 3, 2, 85, 0) := by decide +kernel
theorem fe_126_19 : am_fetch 126 19 = some (.iload_n 1, 1, 1, 0, 0) := by decide +kernel
theorem fe_126_20 : am_fetch 126 20 = some (.ifCond .eq 17, 3, 2, 37, 0) := by decide +kernel
theorem fe_126_23 : am_fetch 126 23 = some (.aload_n 0, 1, 1, 0, 0) := by decide +kernel
theorem fe_126_24 : am_fetch 126 24 = some (.invokevirtual 148, 3, 7, 124, 0) := by decide +kernel
theorem fe_126_27 : am_fetch 126 27 = some (.ifCond .ne 5, 3, 2, 32, 0) := by decide +kernel
theorem fe_126_30 : am_fetch 126 30 = some (.iconst 1, 1, 0, 0, 0) := by decide +kernel
theorem fe_126_31 : am_fetch 126 31 = some (.ireturn, 1, 8, 0, 0) := by decide +kernel
theorem fe_126_32 : am_fetch 126 32 = some (.aload_n 0, 1, 1, 0, 0) := by decide +kernel
theorem fe_126_33 : am_fetch 126 33 = some (.invokevirtual 151, 3, 7, 125, 0) := by decide +kernel
theorem fe_126_36 : am_fetch 126 36 = some (.pop, 1, 0, 0, 0) := by decide +kernel
theorem fe_126_37 : am_fetch 126 37 = some (.aload_n 0, 1, 1, 0, 0) := by decide +kernel
theorem fe_126_38 : am_fetch 126 38 = some (.dup, 1, 0, 0, 0) := by decide +kernel
theorem fe_126_39 : am_fetch 126 39 = some (.getfield 142, 3, 3, 11, 12) := by decide +kernel
theorem fe_126_42 : am_fetch 126 42 = some (.iconst 1, 1, 0, 0, 0) := by decide +kernel
theorem fe_126_43 : am_fetch 126 43 = some (.iadd, 1, 0, 0, 0) := by decide +kernel
theorem fe_126_44 : am_fetch 126 44 = some (.putfield 142, 3, 4, 11, 12) := by decide +kernel
theorem fe_126_47 : am_fetch 126 47 = some (.aload_n 0, 1, 1, 0, 0) := by decide +kernel
theorem fe_126_48 : am_fetch 126 48 = some (.getfield 122, 3, 3, 11, 9) := by decide +kernel
theorem fe_126_51 : am_fetch 126 51 = some (.aload_n 0, 1, 1, 0, 0) := by decide +kernel
theorem fe_126_52 : am_fetch 126 52 = some (.getfield 119, 3, 3, 11, 6) := by decide +kernel
theorem fe_126_55 : am_fetch 126 55 = some (.if_icmp .ne 5, 3, 2, 60, 0) := by decide +kernel
theorem fe_126_58 : am_fetch 126 58 = some (.iconst 1, 1, 0, 0, 0) := by decide +kernel
theorem fe_126_59 : am_fetch 126 59 = some (.ireturn, 1, 8, 0, 0) := by decide +kernel
theorem fe_126_60 : am_fetch 126 60 = some (.aload_n 0, 1, 1, 0, 0) := by decide +kernel
theorem fe_126_61 : am_fetch 126 61 = some (.bipush 59, 2, 0, 0, 0) := by decide +kernel
theorem fe_126_63 : am_fetch 126 63 = some (.invokevirtual 132, 3, 7, 121, 0) := by decide +kernel
theorem fe_126_66 : am_fetch 126 66 = some (.ifCond .eq 14, 3, 2, 80, 0) := by decide +kernel
theorem fe_126_69 : am_fetch 126 69 = some (.aload_n 0, 1, 1, 0, 0) := by decide +kernel
theorem fe_126_70 : am_fetch 126 70 = some (.invokevirtual 145, 3, 7, 123, 0) := by decide +kernel
theorem fe_126_73 : am_fetch 126 73 = some (.ifCond .eq 7, 3, 2, 80, 0) := by decide +kernel
theorem fe_126_76 : am_fetch 126 76 = some (.iconst 1, 1, 0, 0, 0) := by decide +kernel
theorem fe_126_77 : am_fetch 126 77 = some (.goto 4, 3, 2, 81, 0) := by decide +kernel
theorem fe_126_80 : am_fetch 126 80 = some (.iconst 0, 1, 0, 0, 0) := by decide +kernel
theorem fe_126_81 : am_fetch 126 81 = some (.istore_n 2, 1, 1, 0, 0) := by decide +kernel
theorem fe_126_82 : am_fetch 126 82 = some (.goto (-67), 3, 2, 15, 0) := by decide +kernel
theorem fe_126_85 : am_fetch 126 85 = some (.iconst 0, 1, 0, 0, 0) := by decide +kernel
theorem fe_126_86 : am_fetch 126 86 = some (.ireturn, 1, 8, 0, 0) := by decide +kernel
theorem fe_127_0 : am_fetch 127 0 = some (.aload_n 0, 1, 1, 0, 0) := by decide +kernel
theorem fe_127_1 : am_fetch 127 1 = some (.iconst 0, 1, 0, 0, 0) := by decide +kernel
theorem fe_127_2 : am_fetch 127 2 = some (.putfield 32, 3, 4, 11, 7) := by decide +kernel
theorem fe_127_5 : am_fetch 127 5 = some (.aload_n 0, 1, 1, 0, 0) := by decide +kernel
theorem fe_127_6 : am_fetch 127 6 = some (.iconst 0, 1, 0, 0, 0) := by decide +kernel
theorem fe_127_7 : am_fetch 127 7 = some (.invokevirtual 155, 3, 7, 126, 0) := by decide +kernel
theorem fe_127_10 : am_fetch 127 10 = some (.ifCond .eq 10, 3, 2, 20, 0) := by decide +kernel
theorem fe_127_13 : am_fetch 127 13 = some (.aload_n 0, 1, 1, 0, 0) := by decide +kernel
theorem fe_127_14 : am_fetch 127 14 = some (.getfield 119, 3, 3, 11, 6) := by decide +kernel
theorem fe_127_17 : am_fetch 127 17 = some (.goto 7, 3, 2, 24, 0) := by decide +kernel
theorem fe_127_20 : am_fetch 127 20 = some (.aload_n 0, 1, 1, 0, 0) := by decide +kernel
theorem fe_127_21 : am_fetch 127 21 = some (.getfield 122, 3, 3, 11, 9) := by decide +kernel
theorem fe_127_24 : am_fetch 127 24 = some (.ireturn, 1, 8, 0, 0) := by decide +kernel
theorem fe_128_0 : am_fetch 128 0 = some (.aload_n 0, 1, 1, 0, 0) := by decide +kernel
theorem fe_128_1 : am_fetch 128 1 = some (.invokevirtual 54, 3, 7, 117, 0) := by decide +kernel
theorem fe_128_4 : am_fetch 128 4 = some (.aload_n 0, 1, 1, 0, 0) := by decide +kernel
theorem fe_128_5 : am_fetch 128 5 = some (.getfield 32, 3, 3, 4, 0) := by decide +kernel
theorem fe_128_8 : am_fetch 128 8 = some (.if_icmp .ne 14, 3, 2, 22, 0) := by decide +kernel
theorem fe_128_11 : am_fetch 128 11 = some (.aload_n 0, 1, 1, 0, 0) := by decide +kernel
theorem fe_128_12 : am_fetch 128 12 = some (.invokevirtual 58, 3, 7, 104, 0) := by decide +kernel
theorem fe_128_15 : am_fetch 128 15 = some (.ifCond .eq 7, 3, 2, 22, 0) := by decide +kernel
theorem fe_128_18 : am_fetch 128 18 = some (.iconst 1, 1, 0, 0, 0) := by decide +kernel
theorem fe_128_19 : am_fetch 128 19 = some (.goto 4, 3, 2, 23, 0) := by decide +kernel
theorem fe_128_22 : am_fetch 128 22 = some (.iconst 0, 1, 0, 0, 0) := by decide +kernel
theorem fe_128_23 : am_fetch 128 23 = some (.ireturn, 1, 8, 0, 0) := by decide +kernel
theorem fe_129_0 : am_fetch 129 0 = some (.aload_n 0, 1, 1, 0, 0) := by decide +kernel
theorem fe_129_1 : am_fetch 129 1 = some (.getfield 43, 3, 3, 4, 3) := by decide +kernel
theorem fe_129_4 : am_fetch 129 4 = some (.iconst 1, 1, 0, 0, 0) := by decide +kernel
theorem fe_129_5 : am_fetch 129 5 = some (.iadd, 1, 0, 0, 0) := by decide +kernel
theorem fe_129_6 : am_fetch 129 6 = some (.ireturn, 1, 8, 0, 0) := by decide +kernel
theorem fe_130_0 : am_fetch 130 0 = some (.aload_n 0, 1, 1, 0, 0) := by decide +kernel
theorem fe_130_1 : am_fetch 130 1 = some (.getfield 23, 3, 3, 4, 5) := by decide +kernel
theorem fe_130_4 : am_fetch 130 4 = some (.iload_n 1, 1, 1, 0, 0) := by decide +kernel
theorem fe_130_5 : am_fetch 130 5 = some (.invokevirtual 46, 3, 7, 39, 0) := by decide +kernel
theorem fe_130_8 : am_fetch 130 8 = some (.ireturn, 1, 8, 0, 0) := by decide +kernel
theorem fe_131_0 : am_fetch 131 0 = some (.aload_n 0, 1, 1, 0, 0) := by decide +kernel
theorem fe_131_1 : am_fetch 131 1 = some (.getfield 20, 3, 3, 4, 4) := by decide +kernel
theorem fe_131_4 : am_fetch 131 4 = some (.iload_n 1, 1, 1, 0, 0) := by decide +kernel
theorem fe_131_5 : am_fetch 131 5 = some (.invokevirtual 46, 3, 7, 39, 0) := by decide +kernel
theorem fe_131_8 : am_fetch 131 8 = some (.ireturn, 1, 8, 0, 0) := by decide +kernel
theorem fe_132_0 : am_fetch 132 0 = some (.aload_n 0, 1, 1, 0, 0) := by decide +kernel
theorem fe_132_1 : am_fetch 132 1 = some (.getfield 29, 3, 3, 4, 7) := by decide +kernel
theorem fe_132_4 : am_fetch 132 4 = some (.iload_n 1, 1, 1, 0, 0) := by decide +kernel
theorem fe_132_5 : am_fetch 132 5 = some (.invokevirtual 46, 3, 7, 39, 0) := by decide +kernel
theorem fe_132_8 : am_fetch 132 8 = some (.ireturn, 1, 8, 0, 0) := by decide +kernel
theorem fe_133_0 : am_fetch 133 0 = some (.aload_n 0, 1, 1, 0, 0) := by decide +kernel
theorem fe_133_1 : am_fetch 133 1 = some (.getfield 45, 3, 3, 10, 3) := by decide +kernel
theorem fe_133_4 : am_fetch 133 4 = some (.iload_n 1, 1, 1, 0, 0) := by decide +kernel
theorem fe_133_5 : am_fetch 133 5 = some (.invokevirtual 195, 3, 7, 131, 0) := by decide +kernel
theorem fe_133_8 : am_fetch 133 8 = some (.lookupswitch 114 #[(100, 103), (101, 55), (103, 44), (116, 112)], 44, 2, 0, 0) := by decide +kernel
theorem fe_133_52 : am_fetch 133 52 = some (.aload_n 0, 1, 1, 0, 0) := by decide +kernel
theorem fe_133_53 : am_fetch 133 53 = some (.getfield 12, 3, 3, 10, 0) := by decide +kernel
theorem fe_133_56 : am_fetch 133 56 = some (.getfield 18, 3, 3, 107, 8) := by decide +kernel
theorem fe_133_59 : am_fetch 133 59 = some (.invokevirtual 76, 3, 7, 14, 0) := by decide +kernel
theorem fe_133_62 : am_fetch 133 62 = some (.ireturn, 1, 8, 0, 0) := by decide +kernel
theorem fe_133_63 : am_fetch 133 63 = some (.aload_n 0, 1, 1, 0, 0) := by decide +kernel
theorem fe_133_64 : am_fetch 133 64 = some (.getfield 45, 3, 3, 10, 3) := by decide +kernel
theorem fe_133_67 : am_fetch 133 67 = some (.iload_n 1, 1, 1, 0, 0) := by decide +kernel
theorem fe_133_68 : am_fetch 133 68 = some (.invokevirtual 201, 3, 7, 132, 0) := by decide +kernel
theorem fe_133_71 : am_fetch 133 71 = some (.istore_n 3, 1, 1, 0, 0) := by decide +kernel
theorem fe_133_72 : am_fetch 133 72 = some (.aload_n 0, 1, 1, 0, 0) := by decide +kernel
theorem fe_133_73 : am_fetch 133 73 = some (.getfield 12, 3, 3, 10, 0) := by decide +kernel
theorem fe_133_76 : am_fetch 133 76 = some (.getfield 18, 3, 3, 107, 8) := by decide +kernel
theorem fe_133_79 : am_fetch 133 79 = some (.iload_n 2, 1, 1, 0, 0) := by decide +kernel
theorem fe_133_80 : am_fetch 133 80 = some (.invokevirtual 113, 3, 7, 36, 0) := by decide +kernel
theorem fe_133_83 : am_fetch 133 83 = some (.ifCond .eq 26, 3, 2, 109, 0) := by decide +kernel
theorem fe_133_86 : am_fetch 133 86 = some (.aload_n 0, 1, 1, 0, 0) := by decide +kernel
theorem fe_133_87 : am_fetch 133 87 = some (.getfield 12, 3, 3, 10, 0) := by decide +kernel
theorem fe_133_90 : am_fetch 133 90 = some (.getfield 18, 3, 3, 107, 8) := by decide +kernel
theorem fe_133_93 : am_fetch 133 93 = some (.iload_n 3, 1, 1, 0, 0) := by decide +kernel
theorem fe_133_94 : am_fetch 133 94 = some (.invokevirtual 99, 3, 7, 38, 0) := by decide +kernel
theorem fe_133_97 : am_fetch 133 97 = some (.ifCond .eq 12, 3, 2, 109, 0) := by decide +kernel
theorem fe_133_100 : am_fetch 133 100 = some (.iload_n 3, 1, 1, 0, 0) := by decide +kernel
theorem fe_133_101 : am_fetch 133 101 = some (.iload_n 2, 1, 1, 0, 0) := by decide +kernel
theorem fe_133_102 : am_fetch 133 102 = some (.if_icmp .le 7, 3, 2, 109, 0) := by decide +kernel
theorem fe_133_105 : am_fetch 133 105 = some (.iconst 1, 1, 0, 0, 0) := by decide +kernel
theorem fe_133_106 : am_fetch 133 106 = some (.goto 4, 3, 2, 110, 0) := by decide +kernel
theorem fe_133_109 : am_fetch 133 109 = some (.iconst 0, 1, 0, 0, 0) := by decide +kernel
theorem fe_133_110 : am_fetch 133 110 = some (.ireturn, 1, 8, 0, 0) := by decide +kernel
theorem fe_133_111 : am_fetch 133 111 = some (.aload_n 0, 1, 1, 0, 0) := by decide +kernel
theorem fe_133_112 : am_fetch 133 112 = some (.getfield 12, 3, 3, 10, 0) := by decide +kernel
theorem fe_133_115 : am_fetch 133 115 = some (.iload_n 2, 1, 1, 0, 0) := by decide +kernel
theorem fe_133_116 : am_fetch 133 116 = some (.invokevirtual 140, 3, 7, 64, 0) := by decide +kernel
theorem fe_133_119 : am_fetch 133 119 = some (.ireturn, 1, 8, 0, 0) := by decide +kernel
theorem fe_133_120 : am_fetch 133 120 = some (.iconst 1, 1, 0, 0, 0) := by decide +kernel
theorem fe_133_121 : am_fetch 133 121 = some (.ireturn, 1, 8, 0, 0) := by decide +kernel
theorem fe_133_122 : am_fetch 133 122 = some (.aload_n 0, 1, 1, 0, 0) := by decide +kernel
theorem fe_133_123 : am_fetch 133 123 = some (.getfield 12, 3, 3, 10, 0) := by decide +kernel
theorem fe_133_126 : am_fetch 133 126 = some (.getfield 18, 3, 3, 107, 8) := by decide +kernel
theorem fe_133_129 : am_fetch 133 129 = some (.iload_n 2, 1, 1, 0, 0) := by decide +kernel
theorem fe_133_130 : am_fetch 133 130 = some (.invokevirtual 113, 3, 7, 36, 0) := by decide +kernel
theorem fe_133_133 : am_fetch 133 133 = some (.ireturn, 1, 8, 0, 0) := by decide +kernel
theorem fe_134_0 : am_fetch 134 0 = some (.aload_n 0, 1, 1, 0, 0) := by decide +kernel
theorem fe_134_1 : am_fetch 134 1 = some (.getfield 26, 3, 3, 4, 6) := by decide +kernel
theorem fe_134_4 : am_fetch 134 4 = some (.iload_n 1, 1, 1, 0, 0) := by decide +kernel
theorem fe_134_5 : am_fetch 134 5 = some (.invokevirtual 46, 3, 7, 39, 0) := by decide +kernel
theorem fe_134_8 : am_fetch 134 8 = some (.ireturn, 1, 8, 0, 0) := by decide +kernel
theorem fe_135_0 : am_fetch 135 0 = some (.aload_n 0, 1, 1, 0, 0) := by decide +kernel
theorem fe_135_1 : am_fetch 135 1 = some (.getfield 45, 3, 3, 10, 3) := by decide +kernel
theorem fe_135_4 : am_fetch 135 4 = some (.iload_n 1, 1, 1, 0, 0) := by decide +kernel
theorem fe_135_5 : am_fetch 135 5 = some (.invokevirtual 189, 3, 7, 130, 0) := by decide +kernel
theorem fe_135_8 : am_fetch 135 8 = some (.istore_n 2, 1, 1, 0, 0) := by decide +kernel
theorem fe_135_9 : am_fetch 135 9 = some (.aload_n 0, 1, 1, 0, 0) := by decide +kernel
theorem fe_135_10 : am_fetch 135 10 = some (.iload_n 1, 1, 1, 0, 0) := by decide +kernel
theorem fe_135_11 : am_fetch 135 11 = some (.iload_n 2, 1, 1, 0, 0) := by decide +kernel
theorem fe_135_12 : am_fetch 135 12 = some (.invokevirtual 192, 3, 7, 133, 0) := by decide +kernel
theorem fe_135_15 : am_fetch 135 15 = some (.ifCond .ne 5, 3, 2, 20, 0) := by decide +kernel
theorem fe_135_18 : am_fetch 135 18 = some (.iconst 0, 1, 0, 0, 0) := by decide +kernel
theorem fe_135_19 : am_fetch 135 19 = some (.ireturn, 1, 8, 0, 0) := by decide +kernel
theorem fe_135_20 : am_fetch 135 20 = some (.aload_n 0, 1, 1, 0, 0) := by decide +kernel
theorem fe_135_21 : am_fetch 135 21 = some (.getfield 45, 3, 3, 10, 3) := by decide +kernel
theorem fe_135_24 : am_fetch 135 24 = some (.iload_n 1, 1, 1, 0, 0) := by decide +kernel
theorem fe_135_25 : am_fetch 135 25 = some (.invokevirtual 195, 3, 7, 131, 0) := by decide +kernel
theorem fe_135_28 : am_fetch 135 28 = some (.lookupswitch 114 #[(100, 90), (101, 59), (103, 44), (116, 102)], 44, 2, 0, 0) := by decide +kernel
theorem fe_135_72 : am_fetch 135 72 = some (.aload_n 0, 1, 1, 0, 0) := by decide +kernel
theorem fe_135_73 : am_fetch 135 73 = some (.getfield 12, 3, 3, 10, 0) := by decide +kernel
theorem fe_135_76 : am_fetch 135 76 = some (.getfield 18, 3, 3, 107, 8) := by decide +kernel
theorem fe_135_79 : am_fetch 135 79 = some (.iload_n 2, 1, 1, 0, 0) := by decide +kernel
theorem fe_135_80 : am_fetch 135 80 = some (.invokevirtual 91, 3, 7, 23, 0) := by decide +kernel
theorem fe_135_83 : am_fetch 135 83 = some (.pop, 1, 0, 0, 0) := by decide +kernel
theorem fe_135_84 : am_fetch 135 84 = some (.goto 70, 3, 2, 154, 0) := by decide +kernel
theorem fe_135_87 : am_fetch 135 87 = some (.aload_n 0, 1, 1, 0, 0) := by decide +kernel
theorem fe_135_88 : am_fetch 135 88 = some (.getfield 12, 3, 3, 10, 0) := by decide +kernel
theorem fe_135_91 : am_fetch 135 91 = some (.getfield 18, 3, 3, 107, 8) := by decide +kernel
theorem fe_135_94 : am_fetch 135 94 = some (.iload_n 2, 1, 1, 0, 0) := by decide +kernel
theorem fe_135_95 : am_fetch 135 95 = some (.aload_n 0, 1, 1, 0, 0) := by decide +kernel
theorem fe_135_96 : am_fetch 135 96 = some (.getfield 45, 3, 3, 10, 3) := by decide +kernel
theorem fe_135_99 : am_fetch 135 99 = some (.iload_n 1, 1, 1, 0, 0) := by decide +kernel
theorem fe_135_100 : am_fetch 135 100 = some (.invokevirtual 198, 3, 7, 134, 0) := by decide +kernel
theorem fe_135_103 : am_fetch 135 103 = some (.aload_n 0, 1, 1, 0, 0) := by decide +kernel
theorem fe_135_104 : am_fetch 135 104 = some (.getfield 45, 3, 3, 10, 3) := by decide +kernel
theorem fe_135_107 : am_fetch 135 107 = some (.iload_n 1, 1, 1, 0, 0) := by decide +kernel
theorem fe_135_108 : am_fetch 135 108 = some (.invokevirtual 201, 3, 7, 132, 0) := by decide +kernel
theorem fe_135_111 : am_fetch 135 111 = some (.invokevirtual 109, 3, 7, 41, 0) := by decide +kernel
theorem fe_135_114 : am_fetch 135 114 = some (.pop, 1, 0, 0, 0) := by decide +kernel
theorem fe_135_115 : am_fetch 135 115 = some (.goto 39, 3, 2, 154, 0) := by decide +kernel
theorem fe_135_118 : am_fetch 135 118 = some (.aload_n 0, 1, 1, 0, 0) := by decide +kernel
theorem fe_135_119 : am_fetch 135 119 = some (.getfield 12, 3, 3, 10, 0) := by decide +kernel
theorem fe_135_122 : am_fetch 135 122 = some (.iload_n 2, 1, 1, 0, 0) := by decide +kernel
theorem fe_135_123 : am_fetch 135 123 = some (.invokevirtual 145, 3, 7, 65, 0) := by decide +kernel
theorem fe_135_126 : am_fetch 135 126 = some (.pop, 1, 0, 0, 0) := by decide +kernel
theorem fe_135_127 : am_fetch 135 127 = some (.goto 27, 3, 2, 154, 0) := by decide +kernel
theorem fe_135_130 : am_fetch 135 130 = some (.aload_n 0, 1, 1, 0, 0) := by decide +kernel
theorem fe_135_131 : am_fetch 135 131 = some (.getfield 12, 3, 3, 10, 0) := by decide +kernel
theorem fe_135_134 : am_fetch 135 134 = some (.iload_n 2, 1, 1, 0, 0) := by decide +kernel
theorem fe_135_135 : am_fetch 135 135 = some (.invokevirtual 150, 3, 7, 80, 0) := by decide +kernel
theorem fe_135_138 : am_fetch 135 138 = some (.pop, 1, 0, 0, 0) := by decide +kernel
theorem fe_135_139 : am_fetch 135 139 = some (.goto 15, 3, 2, 154, 0) := by decide +kernel
theorem fe_135_142 : am_fetch 135 142 = some (.aload_n 0, 1, 1, 0, 0) := by decide +kernel
theorem fe_135_143 : am_fetch 135 143 = some (.getfield 12, 3, 3, 10, 0) := by decide +kernel
theorem fe_135_146 : am_fetch 135 146 = some (.getfield 18, 3, 3, 107, 8) := by decide +kernel
theorem fe_135_149 : am_fetch 135 149 = some (.iload_n 2, 1, 1, 0, 0) := by decide +kernel
theorem fe_135_150 : am_fetch 135 150 = some (.invokevirtual 122, 3, 7, 56, 0) := by decide +kernel
theorem fe_135_153 : am_fetch 135 153 = some (.pop, 1, 0, 0, 0) := by decide +kernel
theorem fe_135_154 : am_fetch 135 154 = some (.iconst 1, 1, 0, 0, 0) := by decide +kernel
theorem fe_135_155 : am_fetch 135 155 = some (.ireturn, 1, 8, 0, 0) := by decide +kernel
theorem fe_136_0 : am_fetch 136 0 = some (.aload_n 0, 1, 1, 0, 0) := by decide +kernel
theorem fe_136_1 : am_fetch 136 1 = some (.getfield 45, 3, 3, 10, 3) := by decide +kernel
theorem fe_136_4 : am_fetch 136 4 = some (.invokevirtual 178, 3, 7, 128, 0) := by decide +kernel
theorem fe_136_7 : am_fetch 136 7 = some (.ifCond .ne 13, 3, 2, 20, 0) := by decide +kernel
theorem fe_136_10 : am_fetch 136 10 = some (.new 69, 3, 9, 0, 0) := by decide +kernel
theorem fe_136_13 : am_fetch 136 13 = some (.dup, 1, 0, 0, 0) := by decide +kernel
theorem fe_136_20 : am_fetch 136 20 = some (.aload_n 0, 1, 1, 0, 0) := by decide +kernel
theorem fe_136_21 : am_fetch 136 21 = some (.getfield 52, 3, 3, 10, 4) := by decide +kernel
theorem fe_136_24 : am_fetch 136 24 = some (.aload_n 0, 1, 1, 0, 0) := by decide +kernel
theorem fe_136_25 : am_fetch 136 25 = some (.getfield 12, 3, 3, 10, 0) := by decide +kernel
theorem fe_136_28 : am_fetch 136 28 = some (.invokevirtual 87, 3, 7, 22, 0) := by decide +kernel
theorem fe_136_31 : am_fetch 136 31 = some (.aload_n 0, 1, 1, 0, 0) := by decide +kernel
theorem fe_136_32 : am_fetch 136 32 = some (.getfield 45, 3, 3, 10, 3) := by decide +kernel
theorem fe_136_35 : am_fetch 136 35 = some (.invokevirtual 183, 3, 7, 129, 0) := by decide +kernel
theorem fe_136_38 : am_fetch 136 38 = some (.istore_n 1, 1, 1, 0, 0) := by decide +kernel
theorem fe_136_39 : am_fetch 136 39 = some (.iconst 0, 1, 0, 0, 0) := by decide +kernel
theorem fe_136_40 : am_fetch 136 40 = some (.istore_n 2, 1, 1, 0, 0) := by decide +kernel
theorem fe_136_41 : am_fetch 136 41 = some (.iload_n 2, 1, 1, 0, 0) := by decide +kernel
theorem fe_136_42 : am_fetch 136 42 = some (.iload_n 1, 1, 1, 0, 0) := by decide +kernel
theorem fe_136_43 : am_fetch 136 43 = some (.if_icmp .ge 17, 3, 2, 60, 0) := by decide +kernel
theorem fe_136_46 : am_fetch 136 46 = some (.aload_n 0, 1, 1, 0, 0) := by decide +kernel
theorem fe_136_47 : am_fetch 136 47 = some (.iload_n 2, 1, 1, 0, 0) := by decide +kernel
theorem fe_136_48 : am_fetch 136 48 = some (.invokevirtual 186, 3, 7, 135, 0) := by decide +kernel
theorem fe_136_51 : am_fetch 136 51 = some (.ifCond .eq 9, 3, 2, 60, 0) := by decide +kernel
theorem fe_136_54 : am_fetch 136 54 = some (.iinc 2 1, 3, 1, 0, 0) := by decide +kernel
theorem fe_136_57 : am_fetch 136 57 = some (.goto (-16), 3, 2, 41, 0) := by decide +kernel
theorem fe_136_60 : am_fetch 136 60 = some (.aload_n 0, 1, 1, 0, 0) := by decide +kernel
theorem fe_136_61 : am_fetch 136 61 = some (.getfield 45, 3, 3, 10, 3) := by decide +kernel
theorem fe_136_64 : am_fetch 136 64 = some (.invokevirtual 171, 3, 7, 101, 0) := by decide +kernel
theorem fe_136_67 : am_fetch 136 67 = some (.pop, 1, 0, 0, 0) := by decide +kernel
theorem fe_136_68 : am_fetch 136 68 = some (.iload_n 2, 1, 1, 0, 0) := by decide +kernel
theorem fe_136_69 : am_fetch 136 69 = some (.ireturn, 1, 8, 0, 0) := by decide +kernel
theorem fe_137_0 : am_fetch 137 0 = some (.aload_n 1, 1, 1, 0, 0) := by decide +kernel
theorem fe_137_1 : am_fetch 137 1 = some (.iconst 0, 1, 0, 0, 0) := by decide +kernel
theorem fe_137_2 : am_fetch 137 2 = some (.aload_n 0, 1, 1, 0, 0) := by decide +kernel
theorem fe_137_3 : am_fetch 137 3 = some (.invokevirtual 45, 3, 7, 136, 0) := by decide +kernel
theorem fe_137_6 : am_fetch 137 6 = some (.i2l, 1, 0, 0, 0) := by decide +kernel
theorem fe_137_7 : am_fetch 137 7 = some (.lastore, 1, 4, 0, 0) := by decide +kernel
theorem fe_137_8 : am_fetch 137 8 = some (.goto 6, 3, 2, 14, 0) := by decide +kernel
theorem fe_137_11 : am_fetch 137 11 = some (.astore_n 2, 1, 1, 0, 0) := by decide +kernel
theorem fe_137_12 : am_fetch 137 12 = some (.iconst 1, 1, 0, 0, 0) := by decide +kernel
theorem fe_137_13 : am_fetch 137 13 = some (.ireturn, 1, 8, 0, 0) := by decide +kernel
theorem fe_137_14 : am_fetch 137 14 = some (.iconst 0, 1, 0, 0, 0) := by decide +kernel
theorem fe_137_15 : am_fetch 137 15 = some (.ireturn, 1, 8, 0, 0) := by decide +kernel
theorem fe_138_0 : am_fetch 138 0 = some (.aload_n 0, 1, 1, 0, 0) := by decide +kernel
theorem fe_138_1 : am_fetch 138 1 = some (.aload_n 0, 1, 1, 0, 0) := by decide +kernel
theorem fe_138_2 : am_fetch 138 2 = some (.iconst 0, 1, 0, 0, 0) := by decide +kernel
theorem fe_138_3 : am_fetch 138 3 = some (.invokevirtual 155, 3, 7, 126, 0) := by decide +kernel
theorem fe_138_6 : am_fetch 138 6 = some (.ifCond .eq 7, 3, 2, 13, 0) := by decide +kernel
theorem fe_138_9 : am_fetch 138 9 = some (.iconst 0, 1, 0, 0, 0) := by decide +kernel
theorem fe_138_10 : am_fetch 138 10 = some (.goto 4, 3, 2, 14, 0) := by decide +kernel
theorem fe_138_13 : am_fetch 138 13 = some (.iconst 1, 1, 0, 0, 0) := by decide +kernel
theorem fe_138_14 : am_fetch 138 14 = some (.invokevirtual 91, 3, 7, 29, 0) := by decide +kernel
theorem fe_138_17 : am_fetch 138 17 = some (.ifCond .ne 5, 3, 2, 22, 0) := by decide +kernel
theorem fe_138_20 : am_fetch 138 20 = some (.iconst 0, 1, 0, 0, 0) := by decide +kernel
theorem fe_138_21 : am_fetch 138 21 = some (.ireturn, 1, 8, 0, 0) := by decide +kernel
theorem fe_138_22 : am_fetch 138 22 = some (.aload_n 0, 1, 1, 0, 0) := by decide +kernel
theorem fe_138_23 : am_fetch 138 23 = some (.invokevirtual 94, 3, 7, 31, 0) := by decide +kernel
theorem fe_138_26 : am_fetch 138 26 = some (.aload_n 0, 1, 1, 0, 0) := by decide +kernel
theorem fe_138_27 : am_fetch 138 27 = some (.iconst 1, 1, 0, 0, 0) := by decide +kernel
theorem fe_138_28 : am_fetch 138 28 = some (.invokevirtual 155, 3, 7, 126, 0) := by decide +kernel
theorem fe_138_31 : am_fetch 138 31 = some (.istore_n 1, 1, 1, 0, 0) := by decide +kernel
theorem fe_138_32 : am_fetch 138 32 = some (.aload_n 0, 1, 1, 0, 0) := by decide +kernel
theorem fe_138_33 : am_fetch 138 33 = some (.iconst 0, 1, 0, 0, 0) := by decide +kernel
theorem fe_138_34 : am_fetch 138 34 = some (.putfield 119, 3, 4, 11, 6) := by decide +kernel
theorem fe_138_37 : am_fetch 138 37 = some (.iload_n 1, 1, 1, 0, 0) := by decide +kernel
theorem fe_138_38 : am_fetch 138 38 = some (.ifCond .eq 10, 3, 2, 48, 0) := by decide +kernel
theorem fe_138_41 : am_fetch 138 41 = some (.aload_n 0, 1, 1, 0, 0) := by decide +kernel
theorem fe_138_42 : am_fetch 138 42 = some (.getfield 142, 3, 3, 11, 12) := by decide +kernel
theorem fe_138_45 : am_fetch 138 45 = some (.goto 4, 3, 2, 49, 0) := by decide +kernel
theorem fe_138_48 : am_fetch 138 48 = some (.iconst 0, 1, 0, 0, 0) := by decide +kernel
theorem fe_138_49 : am_fetch 138 49 = some (.ireturn, 1, 8, 0, 0) := by decide +kernel
theorem fe_139_0 : am_fetch 139 0 = some (.aload_n 0, 1, 1, 0, 0) := by decide +kernel
theorem fe_139_1 : am_fetch 139 1 = some (.getfield 20, 3, 3, 2, 2) := by decide +kernel
theorem fe_139_4 : am_fetch 139 4 = some (.ireturn, 1, 8, 0, 0) := by decide +kernel
theorem fe_140_0 : am_fetch 140 0 = some (.iload_n 1, 1, 1, 0, 0) := by decide +kernel
theorem fe_140_1 : am_fetch 140 1 = some (.ifCond .lt 31, 3, 2, 32, 0) := by decide +kernel
theorem fe_140_4 : am_fetch 140 4 = some (.iload_n 1, 1, 1, 0, 0) := by decide +kernel
theorem fe_140_5 : am_fetch 140 5 = some (.aload_n 0, 1, 1, 0, 0) := by decide +kernel
theorem fe_140_6 : am_fetch 140 6 = some (.getfield 15, 3, 3, 9, 0) := by decide +kernel
theorem fe_140_9 : am_fetch 140 9 = some (.arraylength, 1, 3, 0, 0) := by decide +kernel
theorem fe_140_10 : am_fetch 140 10 = some (.if_icmp .ge 22, 3, 2, 32, 0) := by decide +kernel
theorem fe_140_13 : am_fetch 140 13 = some (.aload_n 0, 1, 1, 0, 0) := by decide +kernel
theorem fe_140_14 : am_fetch 140 14 = some (.getfield 15, 3, 3, 9, 0) := by decide +kernel
theorem fe_140_17 : am_fetch 140 17 = some (.iload_n 1, 1, 1, 0, 0) := by decide +kernel
theorem fe_140_18 : am_fetch 140 18 = some (.aaload, 1, 3, 0, 0) := by decide +kernel
theorem fe_140_19 : am_fetch 140 19 = some (.ifnull 13, 3, 2, 32, 0) := by decide +kernel
theorem fe_140_22 : am_fetch 140 22 = some (.aload_n 2, 1, 1, 0, 0) := by decide +kernel
theorem fe_140_23 : am_fetch 140 23 = some (.aload_n 0, 1, 1, 0, 0) := by decide +kernel
theorem fe_140_24 : am_fetch 140 24 = some (.getfield 15, 3, 3, 9, 0) := by decide +kernel
theorem fe_140_27 : am_fetch 140 27 = some (.iload_n 1, 1, 1, 0, 0) := by decide +kernel
theorem fe_140_28 : am_fetch 140 28 = some (.aaload, 1, 3, 0, 0) := by decide +kernel
theorem fe_140_29 : am_fetch 140 29 = some (.invokevirtual 35, 3, 7, 20, 0) := by decide +kernel
theorem fe_140_32 : am_fetch 140 32 = some (.return_, 1, 8, 0, 0) := by decide +kernel
theorem fe_141_0 : am_fetch 141 0 = some (.aload_n 0, 1, 1, 0, 0) := by decide +kernel
theorem fe_141_1 : am_fetch 141 1 = some (.getfield 20, 3, 3, 2, 2) := by decide +kernel
theorem fe_141_4 : am_fetch 141 4 = some (.ifCond .le 29, 3, 2, 33, 0) := by decide +kernel
theorem fe_141_7 : am_fetch 141 7 = some (.aload_n 0, 1, 1, 0, 0) := by decide +kernel
theorem fe_141_8 : am_fetch 141 8 = some (.dup, 1, 0, 0, 0) := by decide +kernel
theorem fe_141_9 : am_fetch 141 9 = some (.getfield 20, 3, 3, 2, 2) := by decide +kernel
theorem fe_141_12 : am_fetch 141 12 = some (.iconst 1, 1, 0, 0, 0) := by decide +kernel
theorem fe_141_13 : am_fetch 141 13 = some (.isub, 1, 0, 0, 0) := by decide +kernel
theorem fe_141_14 : am_fetch 141 14 = some (.putfield 20, 3, 4, 2, 2) := by decide +kernel
theorem fe_141_17 : am_fetch 141 17 = some (.aload_n 0, 1, 1, 0, 0) := by decide +kernel
theorem fe_141_18 : am_fetch 141 18 = some (.getfield 14, 3, 3, 2, 0) := by decide +kernel
theorem fe_141_21 : am_fetch 141 21 = some (.aload_n 0, 1, 1, 0, 0) := by decide +kernel
theorem fe_141_22 : am_fetch 141 22 = some (.aload_n 0, 1, 1, 0, 0) := by decide +kernel
theorem fe_141_23 : am_fetch 141 23 = some (.getfield 20, 3, 3, 2, 2) := by decide +kernel
theorem fe_141_26 : am_fetch 141 26 = some (.invokevirtual 27, 3, 7, 15, 0) := by decide +kernel
theorem fe_141_29 : am_fetch 141 29 = some (.aload_n 1, 1, 1, 0, 0) := by decide +kernel
theorem fe_141_30 : am_fetch 141 30 = some (.invokevirtual 35, 3, 7, 140, 0) := by decide +kernel
theorem fe_141_33 : am_fetch 141 33 = some (.aload_n 0, 1, 1, 0, 0) := by decide +kernel
theorem fe_141_34 : am_fetch 141 34 = some (.getfield 20, 3, 3, 2, 2) := by decide +kernel
theorem fe_141_37 : am_fetch 141 37 = some (.ireturn, 1, 8, 0, 0) := by decide +kernel
theorem fe_142_0 : am_fetch 142 0 = some (.aload_n 0, 1, 1, 0, 0) := by decide +kernel
theorem fe_142_1 : am_fetch 142 1 = some (.getfield 52, 3, 3, 10, 4) := by decide +kernel
theorem fe_142_4 : am_fetch 142 4 = some (.invokevirtual 204, 3, 7, 139, 0) := by decide +kernel
theorem fe_142_7 : am_fetch 142 7 = some (.ifCond .ne 13, 3, 2, 20, 0) := by decide +kernel
theorem fe_142_10 : am_fetch 142 10 = some (.new 82, 3, 9, 1, 0) := by decide +kernel
theorem fe_142_13 : am_fetch 142 13 = some (.dup, 1, 0, 0, 0) := by decide +kernel
theorem fe_142_20 : am_fetch 142 20 = some (.aload_n 0, 1, 1, 0, 0) := by decide +kernel
theorem fe_142_21 : am_fetch 142 21 = some (.getfield 52, 3, 3, 10, 4) := by decide +kernel
theorem fe_142_24 : am_fetch 142 24 = some (.aload_n 0, 1, 1, 0, 0) := by decide +kernel
theorem fe_142_25 : am_fetch 142 25 = some (.getfield 12, 3, 3, 10, 0) := by decide +kernel
theorem fe_142_28 : am_fetch 142 28 = some (.invokevirtual 209, 3, 7, 141, 0) := by decide +kernel
theorem fe_142_31 : am_fetch 142 31 = some (.ireturn, 1, 8, 0, 0) := by decide +kernel
theorem fe_143_0 : am_fetch 143 0 = some (.aload_n 1, 1, 1, 0, 0) := by decide +kernel
theorem fe_143_1 : am_fetch 143 1 = some (.iconst 0, 1, 0, 0, 0) := by decide +kernel
theorem fe_143_2 : am_fetch 143 2 = some (.aload_n 0, 1, 1, 0, 0) := by decide +kernel
theorem fe_143_3 : am_fetch 143 3 = some (.invokevirtual 49, 3, 7, 142, 0) := by decide +kernel
theorem fe_143_6 : am_fetch 143 6 = some (.i2l, 1, 0, 0, 0) := by decide +kernel
theorem fe_143_7 : am_fetch 143 7 = some (.lastore, 1, 4, 0, 0) := by decide +kernel
theorem fe_143_8 : am_fetch 143 8 = some (.goto 6, 3, 2, 14, 0) := by decide +kernel
theorem fe_143_11 : am_fetch 143 11 = some (.astore_n 2, 1, 1, 0, 0) := by decide +kernel
theorem fe_143_12 : am_fetch 143 12 = some (.iconst 1, 1, 0, 0, 0) := by decide +kernel
theorem fe_143_13 : am_fetch 143 13 = some (.ireturn, 1, 8, 0, 0) := by decide +kernel
theorem fe_143_14 : am_fetch 143 14 = some (.iconst 0, 1, 0, 0, 0) := by decide +kernel
theorem fe_143_15 : am_fetch 143 15 = some (.ireturn, 1, 8, 0, 0) := by decide +kernel
theorem fe_144_0 : am_fetch 144 0 = some (.aload_n 0, 1, 1, 0, 0) := by decide +kernel
theorem fe_144_1 : am_fetch 144 1 = some (.aload_n 0, 1, 1, 0, 0) := by decide +kernel
theorem fe_144_2 : am_fetch 144 2 = some (.getfield 47, 3, 3, 11, 2) := by decide +kernel
theorem fe_144_5 : am_fetch 144 5 = some (.ifCond .le 7, 3, 2, 12, 0) := by decide +kernel
theorem fe_144_8 : am_fetch 144 8 = some (.iconst 0, 1, 0, 0, 0) := by decide +kernel
theorem fe_144_9 : am_fetch 144 9 = some (.goto 4, 3, 2, 13, 0) := by decide +kernel
theorem fe_144_12 : am_fetch 144 12 = some (.iconst 1, 1, 0, 0, 0) := by decide +kernel
theorem fe_144_13 : am_fetch 144 13 = some (.invokevirtual 91, 3, 7, 29, 0) := by decide +kernel
theorem fe_144_16 : am_fetch 144 16 = some (.ifCond .ne 5, 3, 2, 21, 0) := by decide +kernel
theorem fe_144_19 : am_fetch 144 19 = some (.iconst 0, 1, 0, 0, 0) := by decide +kernel
theorem fe_144_20 : am_fetch 144 20 = some (.ireturn, 1, 8, 0, 0) := by decide +kernel
theorem fe_144_21 : am_fetch 144 21 = some (.aload_n 0, 1, 1, 0, 0) := by decide +kernel
theorem fe_144_22 : am_fetch 144 22 = some (.dup, 1, 0, 0, 0) := by decide +kernel
theorem fe_144_23 : am_fetch 144 23 = some (.getfield 47, 3, 3, 11, 2) := by decide +kernel
theorem fe_144_26 : am_fetch 144 26 = some (.iconst 1, 1, 0, 0, 0) := by decide +kernel
theorem fe_144_27 : am_fetch 144 27 = some (.isub, 1, 0, 0, 0) := by decide +kernel
theorem fe_144_28 : am_fetch 144 28 = some (.putfield 47, 3, 4, 11, 2) := by decide +kernel
theorem fe_144_31 : am_fetch 144 31 = some (.aload_n 0, 1, 1, 0, 0) := by decide +kernel
theorem fe_144_32 : am_fetch 144 32 = some (.getfield 13, 3, 3, 11, 1) := by decide +kernel
theorem fe_144_35 : am_fetch 144 35 = some (.sipush 405, 3, 0, 0, 0) := by decide +kernel
theorem fe_144_38 : am_fetch 144 38 = some (.aload_n 0, 1, 1, 0, 0) := by decide +kernel
theorem fe_144_39 : am_fetch 144 39 = some (.getfield 47, 3, 3, 11, 2) := by decide +kernel
theorem fe_144_42 : am_fetch 144 42 = some (.imul, 1, 0, 0, 0) := by decide +kernel
theorem fe_144_43 : am_fetch 144 43 = some (.aload_n 0, 1, 1, 0, 0) := by decide +kernel
theorem fe_144_44 : am_fetch 144 44 = some (.getfield 7, 3, 3, 11, 0) := by decide +kernel
theorem fe_144_47 : am_fetch 144 47 = some (.iconst 0, 1, 0, 0, 0) := by decide +kernel
theorem fe_144_48 : am_fetch 144 48 = some (.invokestatic 50, 3, 7, 30, 0) := by decide +kernel
theorem fe_144_51 : am_fetch 144 51 = some (.aload_n 0, 1, 1, 0, 0) := by decide +kernel
theorem fe_144_52 : am_fetch 144 52 = some (.getfield 47, 3, 3, 11, 2) := by decide +kernel
theorem fe_144_55 : am_fetch 144 55 = some (.ireturn, 1, 8, 0, 0) := by decide +kernel
theorem fe_145_0 : am_fetch 145 0 = some (.iload_n 0, 1, 1, 0, 0) := by decide +kernel
theorem fe_145_1 : am_fetch 145 1 = some (.ifCond .lt 12, 3, 2, 13, 0) := by decide +kernel
theorem fe_145_4 : am_fetch 145 4 = some (.iload_n 0, 1, 1, 0, 0) := by decide +kernel
theorem fe_145_5 : am_fetch 145 5 = some (.iconst 2, 1, 0, 0, 0) := by decide +kernel
theorem fe_145_6 : am_fetch 145 6 = some (.if_icmp .ge 7, 3, 2, 13, 0) := by decide +kernel
theorem fe_145_9 : am_fetch 145 9 = some (.iconst 1, 1, 0, 0, 0) := by decide +kernel
theorem fe_145_10 : am_fetch 145 10 = some (.goto 4, 3, 2, 14, 0) := by decide +kernel
theorem fe_145_13 : am_fetch 145 13 = some (.iconst 0, 1, 0, 0, 0) := by decide +kernel
theorem fe_145_14 : am_fetch 145 14 = some (.ireturn, 1, 8, 0, 0) := by decide +kernel
theorem fe_146_0 : am_fetch 146 0 = some (.iload_n 1, 1, 1, 0, 0) := by decide +kernel
theorem fe_146_1 : am_fetch 146 1 = some (.invokestatic 213, 3, 7, 145, 0) := by decide +kernel
theorem fe_146_4 : am_fetch 146 4 = some (.ifCond .ne 13, 3, 2, 17, 0) := by decide +kernel
theorem fe_146_7 : am_fetch 146 7 = some (.new 69, 3, 9, 0, 0) := by decide +kernel
theorem fe_146_10 : am_fetch 146 10 = some (.dup, 1, 0, 0, 0) := by decide +kernel
theorem fe_146_17 : am_fetch 146 17 = some (.aload_n 0, 1, 1, 0, 0) := by decide +kernel
theorem fe_146_18 : am_fetch 146 18 = some (.getfield 61, 3, 3, 10, 5) := by decide +kernel
theorem fe_146_21 : am_fetch 146 21 = some (.iload_n 1, 1, 1, 0, 0) := by decide +kernel
theorem fe_146_22 : am_fetch 146 22 = some (.aload_n 0, 1, 1, 0, 0) := by decide +kernel
theorem fe_146_23 : am_fetch 146 23 = some (.getfield 12, 3, 3, 10, 0) := by decide +kernel
theorem fe_146_26 : am_fetch 146 26 = some (.invokevirtual 218, 3, 7, 21, 0) := by decide +kernel
theorem fe_146_29 : am_fetch 146 29 = some (.aload_n 0, 1, 1, 0, 0) := by decide +kernel
theorem fe_146_30 : am_fetch 146 30 = some (.getfield 12, 3, 3, 10, 0) := by decide +kernel
theorem fe_146_33 : am_fetch 146 33 = some (.getfield 222, 3, 3, 107, 0) := by decide +kernel
theorem fe_146_36 : am_fetch 146 36 = some (.ireturn, 1, 8, 0, 0) := by decide +kernel
theorem fe_147_0 : am_fetch 147 0 = some (.aload_n 2, 1, 1, 0, 0) := by decide +kernel
theorem fe_147_1 : am_fetch 147 1 = some (.iconst 0, 1, 0, 0, 0) := by decide +kernel
theorem fe_147_2 : am_fetch 147 2 = some (.aload_n 0, 1, 1, 0, 0) := by decide +kernel
theorem fe_147_3 : am_fetch 147 3 = some (.iload_n 1, 1, 1, 0, 0) := by decide +kernel
theorem fe_147_4 : am_fetch 147 4 = some (.invokevirtual 52, 3, 7, 146, 0) := by decide +kernel
theorem fe_147_7 : am_fetch 147 7 = some (.i2l, 1, 0, 0, 0) := by decide +kernel
theorem fe_147_8 : am_fetch 147 8 = some (.lastore, 1, 4, 0, 0) := by decide +kernel
theorem fe_147_9 : am_fetch 147 9 = some (.goto 6, 3, 2, 15, 0) := by decide +kernel
theorem fe_147_12 : am_fetch 147 12 = some (.astore_n 3, 1, 1, 0, 0) := by decide +kernel
theorem fe_147_13 : am_fetch 147 13 = some (.iconst 1, 1, 0, 0, 0) := by decide +kernel
theorem fe_147_14 : am_fetch 147 14 = some (.ireturn, 1, 8, 0, 0) := by decide +kernel
theorem fe_147_15 : am_fetch 147 15 = some (.iconst 0, 1, 0, 0, 0) := by decide +kernel
theorem fe_147_16 : am_fetch 147 16 = some (.ireturn, 1, 8, 0, 0) := by decide +kernel
theorem fe_148_0 : am_fetch 148 0 = some (.iload_n 0, 1, 1, 0, 0) := by decide +kernel
theorem fe_148_1 : am_fetch 148 1 = some (.iconst 0, 1, 0, 0, 0) := by decide +kernel
theorem fe_148_2 : am_fetch 148 2 = some (.iconst 1, 1, 0, 0, 0) := by decide +kernel
theorem fe_148_3 : am_fetch 148 3 = some (.invokestatic 36, 3, 7, 26, 0) := by decide +kernel
theorem fe_148_6 : am_fetch 148 6 = some (.ireturn, 1, 8, 0, 0) := by decide +kernel
theorem fe_149_0 : am_fetch 149 0 = some (.aload_n 0, 1, 1, 0, 0) := by decide +kernel
theorem fe_149_1 : am_fetch 149 1 = some (.iload_n 1, 1, 1, 0, 0) := by decide +kernel
theorem fe_149_2 : am_fetch 149 2 = some (.invokestatic 159, 3, 7, 148, 0) := by decide +kernel
theorem fe_149_5 : am_fetch 149 5 = some (.ifCond .eq 7, 3, 2, 12, 0) := by decide +kernel
theorem fe_149_8 : am_fetch 149 8 = some (.iconst 0, 1, 0, 0, 0) := by decide +kernel
theorem fe_149_9 : am_fetch 149 9 = some (.goto 4, 3, 2, 13, 0) := by decide +kernel
theorem fe_149_12 : am_fetch 149 12 = some (.iconst 1, 1, 0, 0, 0) := by decide +kernel
theorem fe_149_13 : am_fetch 149 13 = some (.invokevirtual 91, 3, 7, 29, 0) := by decide +kernel
theorem fe_149_16 : am_fetch 149 16 = some (.ifCond .ne 5, 3, 2, 21, 0) := by decide +kernel
theorem fe_149_19 : am_fetch 149 19 = some (.iconst 0, 1, 0, 0, 0) := by decide +kernel
theorem fe_149_20 : am_fetch 149 20 = some (.ireturn, 1, 8, 0, 0) := by decide +kernel
theorem fe_149_21 : am_fetch 149 21 = some (.aload_n 0, 1, 1, 0, 0) := by decide +kernel
theorem fe_149_22 : am_fetch 149 22 = some (.getfield 7, 3, 3, 11, 0) := by decide +kernel
theorem fe_149_25 : am_fetch 149 25 = some (.iconst 0, 1, 0, 0, 0) := by decide +kernel
theorem fe_149_26 : am_fetch 149 26 = some (.aload_n 0, 1, 1, 0, 0) := by decide +kernel
theorem fe_149_27 : am_fetch 149 27 = some (.getfield 16, 3, 3, 11, 3) := by decide +kernel
theorem fe_149_30 : am_fetch 149 30 = some (.sipush 405, 3, 0, 0, 0) := by decide +kernel
theorem fe_149_33 : am_fetch 149 33 = some (.iload_n 1, 1, 1, 0, 0) := by decide +kernel
theorem fe_149_34 : am_fetch 149 34 = some (.imul, 1, 0, 0, 0) := by decide +kernel
theorem fe_149_35 : am_fetch 149 35 = some (.invokestatic 50, 3, 7, 30, 0) := by decide +kernel
theorem fe_149_38 : am_fetch 149 38 = some (.aload_n 0, 1, 1, 0, 0) := by decide +kernel
theorem fe_149_39 : am_fetch 149 39 = some (.getfield 19, 3, 3, 11, 4) := by decide +kernel
theorem fe_149_42 : am_fetch 149 42 = some (.iload_n 1, 1, 1, 0, 0) := by decide +kernel
theorem fe_149_43 : am_fetch 149 43 = some (.iconst 1, 1, 0, 0, 0) := by decide +kernel
theorem fe_149_44 : am_fetch 149 44 = some (.bastore, 1, 4, 0, 0) := by decide +kernel
theorem fe_149_45 : am_fetch 149 45 = some (.aload_n 0, 1, 1, 0, 0) := by decide +kernel
theorem fe_149_46 : am_fetch 149 46 = some (.getfield 7, 3, 3, 11, 0) := by decide +kernel
theorem fe_149_49 : am_fetch 149 49 = some (.iconst 0, 1, 0, 0, 0) := by decide +kernel
theorem fe_149_50 : am_fetch 149 50 = some (.iaload, 1, 3, 0, 0) := by decide +kernel
theorem fe_149_51 : am_fetch 149 51 = some (.ireturn, 1, 8, 0, 0) := by decide +kernel
theorem fe_150_0 : am_fetch 150 0 = some (.aload_n 0, 1, 1, 0, 0) := by decide +kernel
theorem fe_150_1 : am_fetch 150 1 = some (.getfield 27, 3, 3, 9, 1) := by decide +kernel
theorem fe_150_4 : am_fetch 150 4 = some (.iload_n 1, 1, 1, 0, 0) := by decide +kernel
theorem fe_150_5 : am_fetch 150 5 = some (.invokevirtual 31, 3, 7, 39, 0) := by decide +kernel
theorem fe_150_8 : am_fetch 150 8 = some (.iconst 1, 1, 0, 0, 0) := by decide +kernel
theorem fe_150_9 : am_fetch 150 9 = some (.if_icmp .ne 7, 3, 2, 16, 0) := by decide +kernel
theorem fe_150_12 : am_fetch 150 12 = some (.iconst 1, 1, 0, 0, 0) := by decide +kernel
theorem fe_150_13 : am_fetch 150 13 = some (.goto 4, 3, 2, 17, 0) := by decide +kernel
theorem fe_150_16 : am_fetch 150 16 = some (.iconst 0, 1, 0, 0, 0) := by decide +kernel
theorem fe_150_17 : am_fetch 150 17 = some (.ireturn, 1, 8, 0, 0) := by decide +kernel
theorem fe_151_0 : am_fetch 151 0 = some (.iload_n 1, 1, 1, 0, 0) := by decide +kernel
theorem fe_151_1 : am_fetch 151 1 = some (.invokestatic 213, 3, 7, 145, 0) := by decide +kernel
theorem fe_151_4 : am_fetch 151 4 = some (.ifCond .ne 13, 3, 2, 17, 0) := by decide +kernel
theorem fe_151_7 : am_fetch 151 7 = some (.new 69, 3, 9, 0, 0) := by decide +kernel
theorem fe_151_10 : am_fetch 151 10 = some (.dup, 1, 0, 0, 0) := by decide +kernel
theorem fe_151_17 : am_fetch 151 17 = some (.aload_n 0, 1, 1, 0, 0) := by decide +kernel
theorem fe_151_18 : am_fetch 151 18 = some (.getfield 61, 3, 3, 10, 5) := by decide +kernel
theorem fe_151_21 : am_fetch 151 21 = some (.iload_n 1, 1, 1, 0, 0) := by decide +kernel
theorem fe_151_22 : am_fetch 151 22 = some (.invokevirtual 226, 3, 7, 150, 0) := by decide +kernel
theorem fe_151_25 : am_fetch 151 25 = some (.ifCond .ne 13, 3, 2, 38, 0) := by decide +kernel
theorem fe_151_28 : am_fetch 151 28 = some (.new 82, 3, 9, 1, 0) := by decide +kernel
theorem fe_151_31 : am_fetch 151 31 = some (.dup, 1, 0, 0, 0) := by decide +kernel
theorem fe_151_38 : am_fetch 151 38 = some (.aload_n 0, 1, 1, 0, 0) := by decide +kernel
theorem fe_151_39 : am_fetch 151 39 = some (.getfield 52, 3, 3, 10, 4) := by decide +kernel
theorem fe_151_42 : am_fetch 151 42 = some (.aload_n 0, 1, 1, 0, 0) := by decide +kernel
theorem fe_151_43 : am_fetch 151 43 = some (.getfield 12, 3, 3, 10, 0) := by decide +kernel
theorem fe_151_46 : am_fetch 151 46 = some (.invokevirtual 87, 3, 7, 22, 0) := by decide +kernel
theorem fe_151_49 : am_fetch 151 49 = some (.aload_n 0, 1, 1, 0, 0) := by decide +kernel
theorem fe_151_50 : am_fetch 151 50 = some (.getfield 61, 3, 3, 10, 5) := by decide +kernel
theorem fe_151_53 : am_fetch 151 53 = some (.iload_n 1, 1, 1, 0, 0) := by decide +kernel
theorem fe_151_54 : am_fetch 151 54 = some (.aload_n 0, 1, 1, 0, 0) := by decide +kernel
theorem fe_151_55 : am_fetch 151 55 = some (.getfield 12, 3, 3, 10, 0) := by decide +kernel
theorem fe_151_58 : am_fetch 151 58 = some (.invokevirtual 231, 3, 7, 140, 0) := by decide +kernel
theorem fe_151_61 : am_fetch 151 61 = some (.aload_n 0, 1, 1, 0, 0) := by decide +kernel
theorem fe_151_62 : am_fetch 151 62 = some (.getfield 12, 3, 3, 10, 0) := by decide +kernel
theorem fe_151_65 : am_fetch 151 65 = some (.getfield 222, 3, 3, 107, 0) := by decide +kernel
theorem fe_151_68 : am_fetch 151 68 = some (.ireturn, 1, 8, 0, 0) := by decide +kernel
theorem fe_152_0 : am_fetch 152 0 = some (.aload_n 2, 1, 1, 0, 0) := by decide +kernel
theorem fe_152_1 : am_fetch 152 1 = some (.iconst 0, 1, 0, 0, 0) := by decide +kernel
theorem fe_152_2 : am_fetch 152 2 = some (.aload_n 0, 1, 1, 0, 0) := by decide +kernel
theorem fe_152_3 : am_fetch 152 3 = some (.iload_n 1, 1, 1, 0, 0) := by decide +kernel
theorem fe_152_4 : am_fetch 152 4 = some (.invokevirtual 55, 3, 7, 151, 0) := by decide +kernel
theorem fe_152_7 : am_fetch 152 7 = some (.i2l, 1, 0, 0, 0) := by decide +kernel
theorem fe_152_8 : am_fetch 152 8 = some (.lastore, 1, 4, 0, 0) := by decide +kernel
theorem fe_152_9 : am_fetch 152 9 = some (.goto 9, 3, 2, 18, 0) := by decide +kernel
theorem fe_152_12 : am_fetch 152 12 = some (.astore_n 3, 1, 1, 0, 0) := by decide +kernel
theorem fe_152_13 : am_fetch 152 13 = some (.iconst 1, 1, 0, 0, 0) := by decide +kernel
theorem fe_152_14 : am_fetch 152 14 = some (.ireturn, 1, 8, 0, 0) := by decide +kernel
theorem fe_152_15 : am_fetch 152 15 = some (.astore_n 3, 1, 1, 0, 0) := by decide +kernel
theorem fe_152_16 : am_fetch 152 16 = some (.iconst 2, 1, 0, 0, 0) := by decide +kernel
theorem fe_152_17 : am_fetch 152 17 = some (.ireturn, 1, 8, 0, 0) := by decide +kernel
theorem fe_152_18 : am_fetch 152 18 = some (.iconst 0, 1, 0, 0, 0) := by decide +kernel
theorem fe_152_19 : am_fetch 152 19 = some (.ireturn, 1, 8, 0, 0) := by decide +kernel
theorem fe_153_0 : am_fetch 153 0 = some (.aload_n 0, 1, 1, 0, 0) := by decide +kernel
theorem fe_153_1 : am_fetch 153 1 = some (.iload_n 1, 1, 1, 0, 0) := by decide +kernel
theorem fe_153_2 : am_fetch 153 2 = some (.invokestatic 159, 3, 7, 148, 0) := by decide +kernel
theorem fe_153_5 : am_fetch 153 5 = some (.ifCond .ne 7, 3, 2, 12, 0) := by decide +kernel
theorem fe_153_8 : am_fetch 153 8 = some (.iconst 1, 1, 0, 0, 0) := by decide +kernel
theorem fe_153_9 : am_fetch 153 9 = some (.goto 17, 3, 2, 26, 0) := by decide +kernel
theorem fe_153_12 : am_fetch 153 12 = some (.aload_n 0, 1, 1, 0, 0) := by decide +kernel
theorem fe_153_13 : am_fetch 153 13 = some (.getfield 19, 3, 3, 11, 4) := by decide +kernel
theorem fe_153_16 : am_fetch 153 16 = some (.iload_n 1, 1, 1, 0, 0) := by decide +kernel
theorem fe_153_17 : am_fetch 153 17 = some (.baload, 1, 3, 0, 0) := by decide +kernel
theorem fe_153_18 : am_fetch 153 18 = some (.ifCond .eq 7, 3, 2, 25, 0) := by decide +kernel
theorem fe_153_21 : am_fetch 153 21 = some (.iconst 0, 1, 0, 0, 0) := by decide +kernel
theorem fe_153_22 : am_fetch 153 22 = some (.goto 4, 3, 2, 26, 0) := by decide +kernel
theorem fe_153_25 : am_fetch 153 25 = some (.iconst 2, 1, 0, 0, 0) := by decide +kernel
theorem fe_153_26 : am_fetch 153 26 = some (.invokevirtual 91, 3, 7, 29, 0) := by decide +kernel
theorem fe_153_29 : am_fetch 153 29 = some (.ifCond .ne 5, 3, 2, 34, 0) := by decide +kernel
theorem fe_153_32 : am_fetch 153 32 = some (.iconst 0, 1, 0, 0, 0) := by decide +kernel
theorem fe_153_33 : am_fetch 153 33 = some (.ireturn, 1, 8, 0, 0) := by decide +kernel
theorem fe_153_34 : am_fetch 153 34 = some (.aload_n 0, 1, 1, 0, 0) := by decide +kernel
theorem fe_153_35 : am_fetch 153 35 = some (.invokevirtual 94, 3, 7, 31, 0) := by decide +kernel
theorem fe_153_38 : am_fetch 153 38 = some (.aload_n 0, 1, 1, 0, 0) := by decide +kernel
theorem fe_153_39 : am_fetch 153 39 = some (.getfield 16, 3, 3, 11, 3) := by decide +kernel
theorem fe_153_42 : am_fetch 153 42 = some (.sipush 405, 3, 0, 0, 0) := by decide +kernel
theorem fe_153_45 : am_fetch 153 45 = some (.iload_n 1, 1, 1, 0, 0) := by decide +kernel
theorem fe_153_46 : am_fetch 153 46 = some (.imul, 1, 0, 0, 0) := by decide +kernel
theorem fe_153_47 : am_fetch 153 47 = some (.aload_n 0, 1, 1, 0, 0) := by decide +kernel
theorem fe_153_48 : am_fetch 153 48 = some (.getfield 7, 3, 3, 11, 0) := by decide +kernel
theorem fe_153_51 : am_fetch 153 51 = some (.iconst 0, 1, 0, 0, 0) := by decide +kernel
theorem fe_153_52 : am_fetch 153 52 = some (.invokestatic 50, 3, 7, 30, 0) := by decide +kernel
theorem fe_153_55 : am_fetch 153 55 = some (.aload_n 0, 1, 1, 0, 0) := by decide +kernel
theorem fe_153_56 : am_fetch 153 56 = some (.getfield 7, 3, 3, 11, 0) := by decide +kernel
theorem fe_153_59 : am_fetch 153 59 = some (.iconst 0, 1, 0, 0, 0) := by decide +kernel
theorem fe_153_60 : am_fetch 153 60 = some (.iaload, 1, 3, 0, 0) := by decide +kernel
theorem fe_153_61 : am_fetch 153 61 = some (.ireturn, 1, 8, 0, 0) := by decide +kernel
theorem fe_154_0 : am_fetch 154 0 = some (.aload_n 0, 1, 1, 0, 0) := by decide +kernel
theorem fe_154_1 : am_fetch 154 1 = some (.getfield 29, 3, 3, 1, 5) := by decide +kernel
theorem fe_154_4 : am_fetch 154 4 = some (.iconst 2, 1, 0, 0, 0) := by decide +kernel
theorem fe_154_5 : am_fetch 154 5 = some (.iload_n 1, 1, 1, 0, 0) := by decide +kernel
theorem fe_154_6 : am_fetch 154 6 = some (.imul, 1, 0, 0, 0) := by decide +kernel
theorem fe_154_7 : am_fetch 154 7 = some (.iload_n 2, 1, 1, 0, 0) := by decide +kernel
theorem fe_154_8 : am_fetch 154 8 = some (.iadd, 1, 0, 0, 0) := by decide +kernel
theorem fe_154_9 : am_fetch 154 9 = some (.invokevirtual 55, 3, 7, 39, 0) := by decide +kernel
theorem fe_154_12 : am_fetch 154 12 = some (.ireturn, 1, 8, 0, 0) := by decide +kernel
theorem fe_155_0 : am_fetch 155 0 = some (.iconst 0, 1, 0, 0, 0) := by decide +kernel
theorem fe_155_1 : am_fetch 155 1 = some (.istore_n 2, 1, 1, 0, 0) := by decide +kernel
theorem fe_155_2 : am_fetch 155 2 = some (.iconst 0, 1, 0, 0, 0) := by decide +kernel
theorem fe_155_3 : am_fetch 155 3 = some (.istore_n 3, 1, 1, 0, 0) := by decide +kernel
theorem fe_155_4 : am_fetch 155 4 = some (.iload_n 3, 1, 1, 0, 0) := by decide +kernel
theorem fe_155_5 : am_fetch 155 5 = some (.aload_n 0, 1, 1, 0, 0) := by decide +kernel
theorem fe_155_6 : am_fetch 155 6 = some (.getfield 26, 3, 3, 0, 0) := by decide +kernel
theorem fe_155_9 : am_fetch 155 9 = some (.if_icmp .ge 29, 3, 2, 38, 0) := by decide +kernel
theorem fe_155_12 : am_fetch 155 12 = some (.iload_n 2, 1, 1, 0, 0) := by decide +kernel
theorem fe_155_13 : am_fetch 155 13 = some (.aload_n 0, 1, 1, 0, 0) := by decide +kernel
theorem fe_155_14 : am_fetch 155 14 = some (.getfield 14, 3, 3, 0, 1) := by decide +kernel
theorem fe_155_17 : am_fetch 155 17 = some (.iload_n 3, 1, 1, 0, 0) := by decide +kernel
theorem fe_155_18 : am_fetch 155 18 = some (.invokevirtual 38, 3, 7, 39, 0) := by decide +kernel
theorem fe_155_21 : am_fetch 155 21 = some (.iload_n 1, 1, 1, 0, 0) := by decide +kernel
theorem fe_155_22 : am_fetch 155 22 = some (.if_icmp .ne 7, 3, 2, 29, 0) := by decide +kernel
theorem fe_155_25 : am_fetch 155 25 = some (.iconst 1, 1, 0, 0, 0) := by decide +kernel
theorem fe_155_26 : am_fetch 155 26 = some (.goto 4, 3, 2, 30, 0) := by decide +kernel
theorem fe_155_29 : am_fetch 155 29 = some (.iconst 0, 1, 0, 0, 0) := by decide +kernel
theorem fe_155_30 : am_fetch 155 30 = some (.iadd, 1, 0, 0, 0) := by decide +kernel
theorem fe_155_31 : am_fetch 155 31 = some (.istore_n 2, 1, 1, 0, 0) := by decide +kernel
theorem fe_155_32 : am_fetch 155 32 = some (.iinc 3 1, 3, 1, 0, 0) := by decide +kernel
theorem fe_155_35 : am_fetch 155 35 = some (.goto (-31), 3, 2, 4, 0) := by decide +kernel
theorem fe_155_38 : am_fetch 155 38 = some (.iload_n 2, 1, 1, 0, 0) := by decide +kernel
theorem fe_155_39 : am_fetch 155 39 = some (.ireturn, 1, 8, 0, 0) := by decide +kernel
theorem fe_156_0 : am_fetch 156 0 = some (.aload_n 0, 1, 1, 0, 0) := by decide +kernel
theorem fe_156_1 : am_fetch 156 1 = some (.getfield 12, 3, 3, 10, 0) := by decide +kernel
theorem fe_156_4 : am_fetch 156 4 = some (.getfield 18, 3, 3, 107, 8) := by decide +kernel
theorem fe_156_7 : am_fetch 156 7 = some (.iload_n 1, 1, 1, 0, 0) := by decide +kernel
theorem fe_156_8 : am_fetch 156 8 = some (.invokevirtual 113, 3, 7, 36, 0) := by decide +kernel
theorem fe_156_11 : am_fetch 156 11 = some (.ifCond .ne 13, 3, 2, 24, 0) := by decide +kernel
theorem fe_156_14 : am_fetch 156 14 = some (.new 102, 3, 9, 2, 0) := by decide +kernel
theorem fe_156_17 : am_fetch 156 17 = some (.dup, 1, 0, 0, 0) := by decide +kernel
theorem fe_156_24 : am_fetch 156 24 = some (.iload_n 2, 1, 1, 0, 0) := by decide +kernel
theorem fe_156_25 : am_fetch 156 25 = some (.tableswitch 134 0 7 #[47, 62, 77, 77, 92, 92, 107, 119], 47, 2, 0, 0) := by decide +kernel
theorem fe_156_72 : am_fetch 156 72 = some (.aload_n 0, 1, 1, 0, 0) := by decide +kernel
theorem fe_156_73 : am_fetch 156 73 = some (.getfield 12, 3, 3, 10, 0) := by decide +kernel
theorem fe_156_76 : am_fetch 156 76 = some (.getfield 18, 3, 3, 107, 8) := by decide +kernel
theorem fe_156_79 : am_fetch 156 79 = some (.getfield 234, 3, 3, 101, 1) := by decide +kernel
theorem fe_156_82 : am_fetch 156 82 = some (.iload_n 1, 1, 1, 0, 0) := by decide +kernel
theorem fe_156_83 : am_fetch 156 83 = some (.invokevirtual 237, 3, 7, 39, 0) := by decide +kernel
theorem fe_156_86 : am_fetch 156 86 = some (.ireturn, 1, 8, 0, 0) := by decide +kernel
theorem fe_156_87 : am_fetch 156 87 = some (.aload_n 0, 1, 1, 0, 0) := by decide +kernel
theorem fe_156_88 : am_fetch 156 88 = some (.getfield 12, 3, 3, 10, 0) := by decide +kernel
theorem fe_156_91 : am_fetch 156 91 = some (.getfield 18, 3, 3, 107, 8) := by decide +kernel
theorem fe_156_94 : am_fetch 156 94 = some (.getfield 240, 3, 3, 101, 2) := by decide +kernel
theorem fe_156_97 : am_fetch 156 97 = some (.iload_n 1, 1, 1, 0, 0) := by decide +kernel
theorem fe_156_98 : am_fetch 156 98 = some (.invokevirtual 237, 3, 7, 39, 0) := by decide +kernel
theorem fe_156_101 : am_fetch 156 101 = some (.ireturn, 1, 8, 0, 0) := by decide +kernel
theorem fe_156_102 : am_fetch 156 102 = some (.aload_n 0, 1, 1, 0, 0) := by decide +kernel
theorem fe_156_103 : am_fetch 156 103 = some (.getfield 12, 3, 3, 10, 0) := by decide +kernel
theorem fe_156_106 : am_fetch 156 106 = some (.getfield 18, 3, 3, 107, 8) := by decide +kernel
theorem fe_156_109 : am_fetch 156 109 = some (.iload_n 1, 1, 1, 0, 0) := by decide +kernel
theorem fe_156_110 : am_fetch 156 110 = some (.iload_n 2, 1, 1, 0, 0) := by decide +kernel
theorem fe_156_111 : am_fetch 156 111 = some (.iconst 2, 1, 0, 0, 0) := by decide +kernel
theorem fe_156_112 : am_fetch 156 112 = some (.isub, 1, 0, 0, 0) := by decide +kernel
theorem fe_156_113 : am_fetch 156 113 = some (.invokevirtual 243, 3, 7, 73, 0) := by decide +kernel
theorem fe_156_116 : am_fetch 156 116 = some (.ireturn, 1, 8, 0, 0) := by decide +kernel
theorem fe_156_117 : am_fetch 156 117 = some (.aload_n 0, 1, 1, 0, 0) := by decide +kernel
theorem fe_156_118 : am_fetch 156 118 = some (.getfield 12, 3, 3, 10, 0) := by decide +kernel
theorem fe_156_121 : am_fetch 156 121 = some (.getfield 18, 3, 3, 107, 8) := by decide +kernel
theorem fe_156_124 : am_fetch 156 124 = some (.iload_n 1, 1, 1, 0, 0) := by decide +kernel
theorem fe_156_125 : am_fetch 156 125 = some (.iload_n 2, 1, 1, 0, 0) := by decide +kernel
theorem fe_156_126 : am_fetch 156 126 = some (.iconst 4, 1, 0, 0, 0) := by decide +kernel
theorem fe_156_127 : am_fetch 156 127 = some (.isub, 1, 0, 0, 0) := by decide +kernel
theorem fe_156_128 : am_fetch 156 128 = some (.invokevirtual 245, 3, 7, 154, 0) := by decide +kernel
theorem fe_156_131 : am_fetch 156 131 = some (.ireturn, 1, 8, 0, 0) := by decide +kernel
theorem fe_156_132 : am_fetch 156 132 = some (.aload_n 0, 1, 1, 0, 0) := by decide +kernel
theorem fe_156_133 : am_fetch 156 133 = some (.getfield 12, 3, 3, 10, 0) := by decide +kernel
theorem fe_156_136 : am_fetch 156 136 = some (.getfield 248, 3, 3, 107, 9) := by decide +kernel
theorem fe_156_139 : am_fetch 156 139 = some (.iload_n 1, 1, 1, 0, 0) := by decide +kernel
theorem fe_156_140 : am_fetch 156 140 = some (.invokevirtual 252, 3, 7, 155, 0) := by decide +kernel
theorem fe_156_143 : am_fetch 156 143 = some (.ireturn, 1, 8, 0, 0) := by decide +kernel
theorem fe_156_144 : am_fetch 156 144 = some (.aload_n 0, 1, 1, 0, 0) := by decide +kernel
theorem fe_156_145 : am_fetch 156 145 = some (.getfield 12, 3, 3, 10, 0) := by decide +kernel
theorem fe_156_148 : am_fetch 156 148 = some (.getfield 18, 3, 3, 107, 8) := by decide +kernel
theorem fe_156_151 : am_fetch 156 151 = some (.getfield 257, 3, 3, 101, 3) := by decide +kernel
theorem fe_156_154 : am_fetch 156 154 = some (.iload_n 1, 1, 1, 0, 0) := by decide +kernel
theorem fe_156_155 : am_fetch 156 155 = some (.invokevirtual 237, 3, 7, 39, 0) := by decide +kernel
theorem fe_156_158 : am_fetch 156 158 = some (.ireturn, 1, 8, 0, 0) := by decide +kernel
theorem fe_156_159 : am_fetch 156 159 = some (.new 69, 3, 9, 0, 0) := by decide +kernel
theorem fe_156_162 : am_fetch 156 162 = some (.dup, 1, 0, 0, 0) := by decide +kernel
theorem fe_157_0 : am_fetch 157 0 = some (.aload_n 3, 1, 1, 0, 0) := by decide +kernel
theorem fe_157_1 : am_fetch 157 1 = some (.iconst 0, 1, 0, 0, 0) := by decide +kernel
theorem fe_157_2 : am_fetch 157 2 = some (.aload_n 0, 1, 1, 0, 0) := by decide +kernel
theorem fe_157_3 : am_fetch 157 3 = some (.iload_n 1, 1, 1, 0, 0) := by decide +kernel
theorem fe_157_4 : am_fetch 157 4 = some (.iload_n 2, 1, 1, 0, 0) := by decide +kernel
theorem fe_157_5 : am_fetch 157 5 = some (.invokevirtual 58, 3, 7, 156, 0) := by decide +kernel
theorem fe_157_8 : am_fetch 157 8 = some (.i2l, 1, 0, 0, 0) := by decide +kernel
theorem fe_157_9 : am_fetch 157 9 = some (.lastore, 1, 4, 0, 0) := by decide +kernel
theorem fe_157_10 : am_fetch 157 10 = some (.goto 11, 3, 2, 21, 0) := by decide +kernel
theorem fe_157_13 : am_fetch 157 13 = some (.astore 4, 2, 1, 0, 0) := by decide +kernel
theorem fe_157_15 : am_fetch 157 15 = some (.iconst 1, 1, 0, 0, 0) := by decide +kernel
theorem fe_157_16 : am_fetch 157 16 = some (.ireturn, 1, 8, 0, 0) := by decide +kernel
theorem fe_157_17 : am_fetch 157 17 = some (.astore 4, 2, 1, 0, 0) := by decide +kernel
theorem fe_157_19 : am_fetch 157 19 = some (.iconst 2, 1, 0, 0, 0) := by decide +kernel
theorem fe_157_20 : am_fetch 157 20 = some (.ireturn, 1, 8, 0, 0) := by decide +kernel
theorem fe_157_21 : am_fetch 157 21 = some (.iconst 0, 1, 0, 0, 0) := by decide +kernel
theorem fe_157_22 : am_fetch 157 22 = some (.ireturn, 1, 8, 0, 0) := by decide +kernel
theorem fe_158_0 : am_fetch 158 0 = some (.aload_n 0, 1, 1, 0, 0) := by decide +kernel
theorem fe_158_1 : am_fetch 158 1 = some (.getfield 7, 3, 3, 11, 0) := by decide +kernel
theorem fe_158_4 : am_fetch 158 4 = some (.bipush 105, 2, 0, 0, 0) := by decide +kernel
theorem fe_158_6 : am_fetch 158 6 = some (.iconst 3, 1, 0, 0, 0) := by decide +kernel
theorem fe_158_7 : am_fetch 158 7 = some (.iload_n 1, 1, 1, 0, 0) := by decide +kernel
theorem fe_158_8 : am_fetch 158 8 = some (.imul, 1, 0, 0, 0) := by decide +kernel
theorem fe_158_9 : am_fetch 158 9 = some (.iadd, 1, 0, 0, 0) := by decide +kernel
theorem fe_158_10 : am_fetch 158 10 = some (.iload_n 2, 1, 1, 0, 0) := by decide +kernel
theorem fe_158_11 : am_fetch 158 11 = some (.iadd, 1, 0, 0, 0) := by decide +kernel
theorem fe_158_12 : am_fetch 158 12 = some (.iaload, 1, 3, 0, 0) := by decide +kernel
theorem fe_158_13 : am_fetch 158 13 = some (.ireturn, 1, 8, 0, 0) := by decide +kernel
theorem fe_159_0 : am_fetch 159 0 = some (.iconst 0, 1, 0, 0, 0) := by decide +kernel
theorem fe_159_1 : am_fetch 159 1 = some (.istore_n 2, 1, 1, 0, 0) := by decide +kernel
theorem fe_159_2 : am_fetch 159 2 = some (.iconst 0, 1, 0, 0, 0) := by decide +kernel
theorem fe_159_3 : am_fetch 159 3 = some (.istore_n 3, 1, 1, 0, 0) := by decide +kernel
theorem fe_159_4 : am_fetch 159 4 = some (.iload_n 3, 1, 1, 0, 0) := by decide +kernel
theorem fe_159_5 : am_fetch 159 5 = some (.aload_n 0, 1, 1, 0, 0) := by decide +kernel
theorem fe_159_6 : am_fetch 159 6 = some (.getfield 7, 3, 3, 11, 0) := by decide +kernel
theorem fe_159_9 : am_fetch 159 9 = some (.iconst 3, 1, 0, 0, 0) := by decide +kernel
theorem fe_159_10 : am_fetch 159 10 = some (.iaload, 1, 3, 0, 0) := by decide +kernel
theorem fe_159_11 : am_fetch 159 11 = some (.if_icmp .ge 27, 3, 2, 38, 0) := by decide +kernel
theorem fe_159_14 : am_fetch 159 14 = some (.iload_n 2, 1, 1, 0, 0) := by decide +kernel
theorem fe_159_15 : am_fetch 159 15 = some (.aload_n 0, 1, 1, 0, 0) := by decide +kernel
theorem fe_159_16 : am_fetch 159 16 = some (.iload_n 3, 1, 1, 0, 0) := by decide +kernel
theorem fe_159_17 : am_fetch 159 17 = some (.iconst 0, 1, 0, 0, 0) := by decide +kernel
theorem fe_159_18 : am_fetch 159 18 = some (.invokevirtual 162, 3, 7, 158, 0) := by decide +kernel
theorem fe_159_21 : am_fetch 159 21 = some (.iload_n 1, 1, 1, 0, 0) := by decide +kernel
theorem fe_159_22 : am_fetch 159 22 = some (.if_icmp .ne 7, 3, 2, 29, 0) := by decide +kernel
theorem fe_159_25 : am_fetch 159 25 = some (.iconst 1, 1, 0, 0, 0) := by decide +kernel
theorem fe_159_26 : am_fetch 159 26 = some (.goto 4, 3, 2, 30, 0) := by decide +kernel
theorem fe_159_29 : am_fetch 159 29 = some (.iconst 0, 1, 0, 0, 0) := by decide +kernel
theorem fe_159_30 : am_fetch 159 30 = some (.iadd, 1, 0, 0, 0) := by decide +kernel
theorem fe_159_31 : am_fetch 159 31 = some (.istore_n 2, 1, 1, 0, 0) := by decide +kernel
theorem fe_159_32 : am_fetch 159 32 = some (.iinc 3 1, 3, 1, 0, 0) := by decide +kernel
theorem fe_159_35 : am_fetch 159 35 = some (.goto (-31), 3, 2, 4, 0) := by decide +kernel
theorem fe_159_38 : am_fetch 159 38 = some (.iload_n 2, 1, 1, 0, 0) := by decide +kernel
theorem fe_159_39 : am_fetch 159 39 = some (.ireturn, 1, 8, 0, 0) := by decide +kernel
theorem fe_160_0 : am_fetch 160 0 = some (.aload_n 0, 1, 1, 0, 0) := by decide +kernel
theorem fe_160_1 : am_fetch 160 1 = some (.aload_n 0, 1, 1, 0, 0) := by decide +kernel
theorem fe_160_2 : am_fetch 160 2 = some (.iload_n 1, 1, 1, 0, 0) := by decide +kernel
theorem fe_160_3 : am_fetch 160 3 = some (.invokevirtual 40, 3, 7, 44, 0) := by decide +kernel
theorem fe_160_6 : am_fetch 160 6 = some (.ifCond .ne 7, 3, 2, 13, 0) := by decide +kernel
theorem fe_160_9 : am_fetch 160 9 = some (.iconst 1, 1, 0, 0, 0) := by decide +kernel
theorem fe_160_10 : am_fetch 160 10 = some (.goto 18, 3, 2, 28, 0) := by decide +kernel
theorem fe_160_13 : am_fetch 160 13 = some (.iload_n 2, 1, 1, 0, 0) := by decide +kernel
theorem fe_160_14 : am_fetch 160 14 = some (.iconst 0, 1, 0, 0, 0) := by decide +kernel
theorem fe_160_15 : am_fetch 160 15 = some (.bipush 7, 2, 0, 0, 0) := by decide +kernel
theorem fe_160_17 : am_fetch 160 17 = some (.invokestatic 36, 3, 7, 26, 0) := by decide +kernel
theorem fe_160_20 : am_fetch 160 20 = some (.ifCond .ne 7, 3, 2, 27, 0) := by decide +kernel
theorem fe_160_23 : am_fetch 160 23 = some (.iconst 2, 1, 0, 0, 0) := by decide +kernel
theorem fe_160_24 : am_fetch 160 24 = some (.goto 4, 3, 2, 28, 0) := by decide +kernel
theorem fe_160_27 : am_fetch 160 27 = some (.iconst 0, 1, 0, 0, 0) := by decide +kernel
theorem fe_160_28 : am_fetch 160 28 = some (.invokevirtual 91, 3, 7, 29, 0) := by decide +kernel
theorem fe_160_31 : am_fetch 160 31 = some (.ifCond .ne 5, 3, 2, 36, 0) := by decide +kernel
theorem fe_160_34 : am_fetch 160 34 = some (.iconst 0, 1, 0, 0, 0) := by decide +kernel
theorem fe_160_35 : am_fetch 160 35 = some (.ireturn, 1, 8, 0, 0) := by decide +kernel
theorem fe_160_36 : am_fetch 160 36 = some (.iload_n 2, 1, 1, 0, 0) := by decide +kernel
theorem fe_160_37 : am_fetch 160 37 = some (.bipush 6, 2, 0, 0, 0) := by decide +kernel
theorem fe_160_39 : am_fetch 160 39 = some (.if_icmp .ne 11, 3, 2, 50, 0) := by decide +kernel
theorem fe_160_42 : am_fetch 160 42 = some (.aload_n 0, 1, 1, 0, 0) := by decide +kernel
theorem fe_160_43 : am_fetch 160 43 = some (.iload_n 1, 1, 1, 0, 0) := by decide +kernel
theorem fe_160_44 : am_fetch 160 44 = some (.invokevirtual 165, 3, 7, 159, 0) := by decide +kernel
theorem fe_160_47 : am_fetch 160 47 = some (.goto 20, 3, 2, 67, 0) := by decide +kernel
theorem fe_160_50 : am_fetch 160 50 = some (.aload_n 0, 1, 1, 0, 0) := by decide +kernel
theorem fe_160_51 : am_fetch 160 51 = some (.iload_n 1, 1, 1, 0, 0) := by decide +kernel
theorem fe_160_52 : am_fetch 160 52 = some (.iload_n 2, 1, 1, 0, 0) := by decide +kernel
theorem fe_160_53 : am_fetch 160 53 = some (.bipush 7, 2, 0, 0, 0) := by decide +kernel
theorem fe_160_55 : am_fetch 160 55 = some (.if_icmp .ne 8, 3, 2, 63, 0) := by decide +kernel
theorem fe_160_58 : am_fetch 160 58 = some (.bipush 6, 2, 0, 0, 0) := by decide +kernel
theorem fe_160_60 : am_fetch 160 60 = some (.goto 4, 3, 2, 64, 0) := by decide +kernel
theorem fe_160_63 : am_fetch 160 63 = some (.iload_n 2, 1, 1, 0, 0) := by decide +kernel
theorem fe_160_64 : am_fetch 160 64 = some (.invokevirtual 54, 3, 7, 48, 0) := by decide +kernel
theorem fe_160_67 : am_fetch 160 67 = some (.ireturn, 1, 8, 0, 0) := by decide +kernel
theorem fe_161_0 : am_fetch 161 0 = some (.iload_n 1, 1, 1, 0, 0) := by decide +kernel
theorem fe_161_1 : am_fetch 161 1 = some (.istore_n 2, 1, 1, 0, 0) := by decide +kernel
theorem fe_161_2 : am_fetch 161 2 = some (.iconst 0, 1, 0, 0, 0) := by decide +kernel
theorem fe_161_3 : am_fetch 161 3 = some (.istore_n 3, 1, 1, 0, 0) := by decide +kernel
theorem fe_161_4 : am_fetch 161 4 = some (.iload_n 3, 1, 1, 0, 0) := by decide +kernel
theorem fe_161_5 : am_fetch 161 5 = some (.bipush 12, 2, 0, 0, 0) := by decide +kernel
theorem fe_161_7 : am_fetch 161 7 = some (.if_icmp .ge 31, 3, 2, 38, 0) := by decide +kernel
theorem fe_161_10 : am_fetch 161 10 = some (.aload_n 0, 1, 1, 0, 0) := by decide +kernel
theorem fe_161_11 : am_fetch 161 11 = some (.iload_n 2, 1, 1, 0, 0) := by decide +kernel
theorem fe_161_12 : am_fetch 161 12 = some (.invokevirtual 40, 3, 7, 36, 0) := by decide +kernel
theorem fe_161_15 : am_fetch 161 15 = some (.ifCond .eq 23, 3, 2, 38, 0) := by decide +kernel
theorem fe_161_18 : am_fetch 161 18 = some (.aload_n 0, 1, 1, 0, 0) := by decide +kernel
theorem fe_161_19 : am_fetch 161 19 = some (.iload_n 2, 1, 1, 0, 0) := by decide +kernel
theorem fe_161_20 : am_fetch 161 20 = some (.aload_n 0, 1, 1, 0, 0) := by decide +kernel
theorem fe_161_21 : am_fetch 161 21 = some (.getfield 14, 3, 3, 1, 1) := by decide +kernel
theorem fe_161_24 : am_fetch 161 24 = some (.iload_n 2, 1, 1, 0, 0) := by decide +kernel
theorem fe_161_25 : am_fetch 161 25 = some (.invokevirtual 55, 3, 7, 39, 0) := by decide +kernel
theorem fe_161_28 : am_fetch 161 28 = some (.invokevirtual 59, 3, 7, 73, 0) := by decide +kernel
theorem fe_161_31 : am_fetch 161 31 = some (.istore_n 2, 1, 1, 0, 0) := by decide +kernel
theorem fe_161_32 : am_fetch 161 32 = some (.iinc 3 1, 3, 1, 0, 0) := by decide +kernel
theorem fe_161_35 : am_fetch 161 35 = some (.goto (-31), 3, 2, 4, 0) := by decide +kernel
theorem fe_161_38 : am_fetch 161 38 = some (.iload_n 3, 1, 1, 0, 0) := by decide +kernel
theorem fe_161_39 : am_fetch 161 39 = some (.ireturn, 1, 8, 0, 0) := by decide +kernel
theorem fe_162_0 : am_fetch 162 0 = some (.iload_n 1, 1, 1, 0, 0) := by decide +kernel
theorem fe_162_1 : am_fetch 162 1 = some (.istore_n 2, 1, 1, 0, 0) := by decide +kernel
theorem fe_162_2 : am_fetch 162 2 = some (.iconst 0, 1, 0, 0, 0) := by decide +kernel
theorem fe_162_3 : am_fetch 162 3 = some (.istore_n 3, 1, 1, 0, 0) := by decide +kernel
theorem fe_162_4 : am_fetch 162 4 = some (.iload_n 3, 1, 1, 0, 0) := by decide +kernel
theorem fe_162_5 : am_fetch 162 5 = some (.bipush 12, 2, 0, 0, 0) := by decide +kernel
theorem fe_162_7 : am_fetch 162 7 = some (.if_icmp .ge 31, 3, 2, 38, 0) := by decide +kernel
theorem fe_162_10 : am_fetch 162 10 = some (.aload_n 0, 1, 1, 0, 0) := by decide +kernel
theorem fe_162_11 : am_fetch 162 11 = some (.iload_n 2, 1, 1, 0, 0) := by decide +kernel
theorem fe_162_12 : am_fetch 162 12 = some (.invokevirtual 40, 3, 7, 36, 0) := by decide +kernel
theorem fe_162_15 : am_fetch 162 15 = some (.ifCond .eq 23, 3, 2, 38, 0) := by decide +kernel
theorem fe_162_18 : am_fetch 162 18 = some (.aload_n 0, 1, 1, 0, 0) := by decide +kernel
theorem fe_162_19 : am_fetch 162 19 = some (.iload_n 2, 1, 1, 0, 0) := by decide +kernel
theorem fe_162_20 : am_fetch 162 20 = some (.aload_n 0, 1, 1, 0, 0) := by decide +kernel
theorem fe_162_21 : am_fetch 162 21 = some (.getfield 14, 3, 3, 1, 1) := by decide +kernel
theorem fe_162_24 : am_fetch 162 24 = some (.iload_n 2, 1, 1, 0, 0) := by decide +kernel
theorem fe_162_25 : am_fetch 162 25 = some (.invokevirtual 55, 3, 7, 39, 0) := by decide +kernel
theorem fe_162_28 : am_fetch 162 28 = some (.invokevirtual 59, 3, 7, 73, 0) := by decide +kernel
theorem fe_162_31 : am_fetch 162 31 = some (.istore_n 2, 1, 1, 0, 0) := by decide +kernel
theorem fe_162_32 : am_fetch 162 32 = some (.iinc 3 1, 3, 1, 0, 0) := by decide +kernel
theorem fe_162_35 : am_fetch 162 35 = some (.goto (-31), 3, 2, 4, 0) := by decide +kernel
theorem fe_162_38 : am_fetch 162 38 = some (.iload_n 2, 1, 1, 0, 0) := by decide +kernel
theorem fe_162_39 : am_fetch 162 39 = some (.bipush 20, 2, 0, 0, 0) := by decide +kernel
theorem fe_162_41 : am_fetch 162 41 = some (.isub, 1, 0, 0, 0) := by decide +kernel
theorem fe_162_42 : am_fetch 162 42 = some (.ireturn, 1, 8, 0, 0) := by decide +kernel
theorem fe_163_0 : am_fetch 163 0 = some (.iload_n 1, 1, 1, 0, 0) := by decide +kernel
theorem fe_163_1 : am_fetch 163 1 = some (.ifCond .lt 12, 3, 2, 13, 0) := by decide +kernel
theorem fe_163_4 : am_fetch 163 4 = some (.iload_n 2, 1, 1, 0, 0) := by decide +kernel
theorem fe_163_5 : am_fetch 163 5 = some (.ifCond .lt 8, 3, 2, 13, 0) := by decide +kernel
theorem fe_163_8 : am_fetch 163 8 = some (.iload_n 2, 1, 1, 0, 0) := by decide +kernel
theorem fe_163_9 : am_fetch 163 9 = some (.iconst 4, 1, 0, 0, 0) := by decide +kernel
theorem fe_163_10 : am_fetch 163 10 = some (.if_icmp .le 14, 3, 2, 24, 0) := by decide +kernel
theorem fe_163_13 : am_fetch 163 13 = some (.new 69, 3, 9, 0, 0) := by decide +kernel
theorem fe_163_16 : am_fetch 163 16 = some (.dup, 1, 0, 0, 0) := by decide +kernel
theorem fe_163_24 : am_fetch 163 24 = some (.iload_n 1, 1, 1, 0, 0) := by decide +kernel
theorem fe_163_25 : am_fetch 163 25 = some (.aload_n 0, 1, 1, 0, 0) := by decide +kernel
theorem fe_163_26 : am_fetch 163 26 = some (.getfield 12, 3, 3, 10, 0) := by decide +kernel
theorem fe_163_29 : am_fetch 163 29 = some (.getfield 248, 3, 3, 107, 9) := by decide +kernel
theorem fe_163_32 : am_fetch 163 32 = some (.getfield 264, 3, 3, 100, 0) := by decide +kernel
theorem fe_163_35 : am_fetch 163 35 = some (.if_icmp .lt 5, 3, 2, 40, 0) := by decide +kernel
theorem fe_163_38 : am_fetch 163 38 = some (.iconst (-1), 1, 0, 0, 0) := by decide +kernel
theorem fe_163_39 : am_fetch 163 39 = some (.ireturn, 1, 8, 0, 0) := by decide +kernel
theorem fe_163_40 : am_fetch 163 40 = some (.iload_n 2, 1, 1, 0, 0) := by decide +kernel
theorem fe_163_41 : am_fetch 163 41 = some (.tableswitch 101 0 3 #[31, 46, 61, 76], 31, 2, 0, 0) := by decide +kernel
theorem fe_163_72 : am_fetch 163 72 = some (.aload_n 0, 1, 1, 0, 0) := by decide +kernel
theorem fe_163_73 : am_fetch 163 73 = some (.getfield 12, 3, 3, 10, 0) := by decide +kernel
theorem fe_163_76 : am_fetch 163 76 = some (.getfield 248, 3, 3, 107, 9) := by decide +kernel
theorem fe_163_79 : am_fetch 163 79 = some (.getfield 266, 3, 3, 100, 1) := by decide +kernel
theorem fe_163_82 : am_fetch 163 82 = some (.iload_n 1, 1, 1, 0, 0) := by decide +kernel
theorem fe_163_83 : am_fetch 163 83 = some (.invokevirtual 237, 3, 7, 39, 0) := by decide +kernel
theorem fe_163_86 : am_fetch 163 86 = some (.ireturn, 1, 8, 0, 0) := by decide +kernel
theorem fe_163_87 : am_fetch 163 87 = some (.aload_n 0, 1, 1, 0, 0) := by decide +kernel
theorem fe_163_88 : am_fetch 163 88 = some (.getfield 12, 3, 3, 10, 0) := by decide +kernel
theorem fe_163_91 : am_fetch 163 91 = some (.getfield 248, 3, 3, 107, 9) := by decide +kernel
theorem fe_163_94 : am_fetch 163 94 = some (.getfield 269, 3, 3, 100, 2) := by decide +kernel
theorem fe_163_97 : am_fetch 163 97 = some (.iload_n 1, 1, 1, 0, 0) := by decide +kernel
theorem fe_163_98 : am_fetch 163 98 = some (.invokevirtual 237, 3, 7, 39, 0) := by decide +kernel
theorem fe_163_101 : am_fetch 163 101 = some (.ireturn, 1, 8, 0, 0) := by decide +kernel
theorem fe_163_102 : am_fetch 163 102 = some (.aload_n 0, 1, 1, 0, 0) := by decide +kernel
theorem fe_163_103 : am_fetch 163 103 = some (.getfield 12, 3, 3, 10, 0) := by decide +kernel
theorem fe_163_106 : am_fetch 163 106 = some (.getfield 248, 3, 3, 107, 9) := by decide +kernel
theorem fe_163_109 : am_fetch 163 109 = some (.getfield 272, 3, 3, 100, 3) := by decide +kernel
theorem fe_163_112 : am_fetch 163 112 = some (.iload_n 1, 1, 1, 0, 0) := by decide +kernel
theorem fe_163_113 : am_fetch 163 113 = some (.invokevirtual 237, 3, 7, 39, 0) := by decide +kernel
theorem fe_163_116 : am_fetch 163 116 = some (.ireturn, 1, 8, 0, 0) := by decide +kernel
theorem fe_163_117 : am_fetch 163 117 = some (.aload_n 0, 1, 1, 0, 0) := by decide +kernel
theorem fe_163_118 : am_fetch 163 118 = some (.getfield 12, 3, 3, 10, 0) := by decide +kernel
theorem fe_163_121 : am_fetch 163 121 = some (.getfield 18, 3, 3, 107, 8) := by decide +kernel
theorem fe_163_124 : am_fetch 163 124 = some (.aload_n 0, 1, 1, 0, 0) := by decide +kernel
theorem fe_163_125 : am_fetch 163 125 = some (.getfield 12, 3, 3, 10, 0) := by decide +kernel
theorem fe_163_128 : am_fetch 163 128 = some (.getfield 248, 3, 3, 107, 9) := by decide +kernel
theorem fe_163_131 : am_fetch 163 131 = some (.getfield 266, 3, 3, 100, 1) := by decide +kernel
theorem fe_163_134 : am_fetch 163 134 = some (.iload_n 1, 1, 1, 0, 0) := by decide +kernel
theorem fe_163_135 : am_fetch 163 135 = some (.invokevirtual 237, 3, 7, 39, 0) := by decide +kernel
theorem fe_163_138 : am_fetch 163 138 = some (.invokevirtual 275, 3, 7, 161, 0) := by decide +kernel
theorem fe_163_141 : am_fetch 163 141 = some (.ireturn, 1, 8, 0, 0) := by decide +kernel
theorem fe_163_142 : am_fetch 163 142 = some (.aload_n 0, 1, 1, 0, 0) := by decide +kernel
theorem fe_163_143 : am_fetch 163 143 = some (.getfield 12, 3, 3, 10, 0) := by decide +kernel
theorem fe_163_146 : am_fetch 163 146 = some (.getfield 18, 3, 3, 107, 8) := by decide +kernel
theorem fe_163_149 : am_fetch 163 149 = some (.aload_n 0, 1, 1, 0, 0) := by decide +kernel
theorem fe_163_150 : am_fetch 163 150 = some (.getfield 12, 3, 3, 10, 0) := by decide +kernel
theorem fe_163_153 : am_fetch 163 153 = some (.getfield 248, 3, 3, 107, 9) := by decide +kernel
theorem fe_163_156 : am_fetch 163 156 = some (.getfield 266, 3, 3, 100, 1) := by decide +kernel
theorem fe_163_159 : am_fetch 163 159 = some (.iload_n 1, 1, 1, 0, 0) := by decide +kernel
theorem fe_163_160 : am_fetch 163 160 = some (.invokevirtual 237, 3, 7, 39, 0) := by decide +kernel
theorem fe_163_163 : am_fetch 163 163 = some (.invokevirtual 278, 3, 7, 162, 0) := by decide +kernel
theorem fe_163_166 : am_fetch 163 166 = some (.ireturn, 1, 8, 0, 0) := by decide +kernel
theorem fe_164_0 : am_fetch 164 0 = some (.aload_n 3, 1, 1, 0, 0) := by decide +kernel
theorem fe_164_1 : am_fetch 164 1 = some (.iconst 0, 1, 0, 0, 0) := by decide +kernel
theorem fe_164_2 : am_fetch 164 2 = some (.aload_n 0, 1, 1, 0, 0) := by decide +kernel
theorem fe_164_3 : am_fetch 164 3 = some (.iload_n 1, 1, 1, 0, 0) := by decide +kernel
theorem fe_164_4 : am_fetch 164 4 = some (.iload_n 2, 1, 1, 0, 0) := by decide +kernel
theorem fe_164_5 : am_fetch 164 5 = some (.invokevirtual 61, 3, 7, 163, 0) := by decide +kernel
theorem fe_164_8 : am_fetch 164 8 = some (.i2l, 1, 0, 0, 0) := by decide +kernel
theorem fe_164_9 : am_fetch 164 9 = some (.lastore, 1, 4, 0, 0) := by decide +kernel
theorem fe_164_10 : am_fetch 164 10 = some (.goto 7, 3, 2, 17, 0) := by decide +kernel
theorem fe_164_13 : am_fetch 164 13 = some (.astore 4, 2, 1, 0, 0) := by decide +kernel
theorem fe_164_15 : am_fetch 164 15 = some (.iconst 1, 1, 0, 0, 0) := by decide +kernel
theorem fe_164_16 : am_fetch 164 16 = some (.ireturn, 1, 8, 0, 0) := by decide +kernel
theorem fe_164_17 : am_fetch 164 17 = some (.iconst 0, 1, 0, 0, 0) := by decide +kernel
theorem fe_164_18 : am_fetch 164 18 = some (.ireturn, 1, 8, 0, 0) := by decide +kernel
theorem fe_165_0 : am_fetch 165 0 = some (.iconst 0, 1, 0, 0, 0) := by decide +kernel
theorem fe_165_1 : am_fetch 165 1 = some (.istore_n 3, 1, 1, 0, 0) := by decide +kernel
theorem fe_165_2 : am_fetch 165 2 = some (.iload_n 1, 1, 1, 0, 0) := by decide +kernel
theorem fe_165_3 : am_fetch 165 3 = some (.istore 4, 2, 1, 0, 0) := by decide +kernel
theorem fe_165_5 : am_fetch 165 5 = some (.iload 4, 2, 1, 0, 0) := by decide +kernel
theorem fe_165_7 : am_fetch 165 7 = some (.bipush 20, 2, 0, 0, 0) := by decide +kernel
theorem fe_165_9 : am_fetch 165 9 = some (.if_icmp .ge 26, 3, 2, 35, 0) := by decide +kernel
theorem fe_165_12 : am_fetch 165 12 = some (.aload_n 0, 1, 1, 0, 0) := by decide +kernel
theorem fe_165_13 : am_fetch 165 13 = some (.iload 4, 2, 1, 0, 0) := by decide +kernel
theorem fe_165_15 : am_fetch 165 15 = some (.iconst 2, 1, 0, 0, 0) := by decide +kernel
theorem fe_165_16 : am_fetch 165 16 = some (.aload_n 0, 1, 1, 0, 0) := by decide +kernel
theorem fe_165_17 : am_fetch 165 17 = some (.iload 4, 2, 1, 0, 0) := by decide +kernel
theorem fe_165_19 : am_fetch 165 19 = some (.iconst 0, 1, 0, 0, 0) := by decide +kernel
theorem fe_165_20 : am_fetch 165 20 = some (.invokevirtual 54, 3, 7, 48, 0) := by decide +kernel
theorem fe_165_23 : am_fetch 165 23 = some (.iadd, 1, 0, 0, 0) := by decide +kernel
theorem fe_165_24 : am_fetch 165 24 = some (.invokevirtual 54, 3, 7, 48, 0) := by decide +kernel
theorem fe_165_27 : am_fetch 165 27 = some (.istore 4, 2, 1, 0, 0) := by decide +kernel
theorem fe_165_29 : am_fetch 165 29 = some (.iinc 3 1, 3, 1, 0, 0) := by decide +kernel
theorem fe_165_32 : am_fetch 165 32 = some (.goto (-27), 3, 2, 5, 0) := by decide +kernel
theorem fe_165_35 : am_fetch 165 35 = some (.iload_n 2, 1, 1, 0, 0) := by decide +kernel
theorem fe_165_36 : am_fetch 165 36 = some (.ifCond .eq 11, 3, 2, 47, 0) := by decide +kernel
theorem fe_165_39 : am_fetch 165 39 = some (.iload 4, 2, 1, 0, 0) := by decide +kernel
theorem fe_165_41 : am_fetch 165 41 = some (.bipush 20, 2, 0, 0, 0) := by decide +kernel
theorem fe_165_43 : am_fetch 165 43 = some (.isub, 1, 0, 0, 0) := by decide +kernel
theorem fe_165_44 : am_fetch 165 44 = some (.goto 4, 3, 2, 48, 0) := by decide +kernel
theorem fe_165_47 : am_fetch 165 47 = some (.iload_n 3, 1, 1, 0, 0) := by decide +kernel
theorem fe_165_48 : am_fetch 165 48 = some (.ireturn, 1, 8, 0, 0) := by decide +kernel
theorem fe_166_0 : am_fetch 166 0 = some (.aload_n 0, 1, 1, 0, 0) := by decide +kernel
theorem fe_166_1 : am_fetch 166 1 = some (.iload_n 1, 1, 1, 0, 0) := by decide +kernel
theorem fe_166_2 : am_fetch 166 2 = some (.ifCond .lt 16, 3, 2, 18, 0) := by decide +kernel
theorem fe_166_5 : am_fetch 166 5 = some (.iload_n 2, 1, 1, 0, 0) := by decide +kernel
theorem fe_166_6 : am_fetch 166 6 = some (.iconst 0, 1, 0, 0, 0) := by decide +kernel
theorem fe_166_7 : am_fetch 166 7 = some (.iconst 4, 1, 0, 0, 0) := by decide +kernel
theorem fe_166_8 : am_fetch 166 8 = some (.invokestatic 36, 3, 7, 26, 0) := by decide +kernel
theorem fe_166_11 : am_fetch 166 11 = some (.ifCond .eq 7, 3, 2, 18, 0) := by decide +kernel
theorem fe_166_14 : am_fetch 166 14 = some (.iconst 0, 1, 0, 0, 0) := by decide +kernel
theorem fe_166_15 : am_fetch 166 15 = some (.goto 4, 3, 2, 19, 0) := by decide +kernel
theorem fe_166_18 : am_fetch 166 18 = some (.iconst 1, 1, 0, 0, 0) := by decide +kernel
theorem fe_166_19 : am_fetch 166 19 = some (.invokevirtual 91, 3, 7, 29, 0) := by decide +kernel
theorem fe_166_22 : am_fetch 166 22 = some (.ifCond .ne 5, 3, 2, 27, 0) := by decide +kernel
theorem fe_166_25 : am_fetch 166 25 = some (.iconst 0, 1, 0, 0, 0) := by decide +kernel
theorem fe_166_26 : am_fetch 166 26 = some (.ireturn, 1, 8, 0, 0) := by decide +kernel
theorem fe_166_27 : am_fetch 166 27 = some (.iload_n 1, 1, 1, 0, 0) := by decide +kernel
theorem fe_166_28 : am_fetch 166 28 = some (.aload_n 0, 1, 1, 0, 0) := by decide +kernel
theorem fe_166_29 : am_fetch 166 29 = some (.getfield 7, 3, 3, 11, 0) := by decide +kernel
theorem fe_166_32 : am_fetch 166 32 = some (.iconst 3, 1, 0, 0, 0) := by decide +kernel
theorem fe_166_33 : am_fetch 166 33 = some (.iaload, 1, 3, 0, 0) := by decide +kernel
theorem fe_166_34 : am_fetch 166 34 = some (.if_icmp .lt 5, 3, 2, 39, 0) := by decide +kernel
theorem fe_166_37 : am_fetch 166 37 = some (.iconst (-1), 1, 0, 0, 0) := by decide +kernel
theorem fe_166_38 : am_fetch 166 38 = some (.ireturn, 1, 8, 0, 0) := by decide +kernel
theorem fe_166_39 : am_fetch 166 39 = some (.iload_n 2, 1, 1, 0, 0) := by decide +kernel
theorem fe_166_40 : am_fetch 166 40 = some (.iconst 3, 1, 0, 0, 0) := by decide +kernel
theorem fe_166_41 : am_fetch 166 41 = some (.if_icmp .ge 12, 3, 2, 53, 0) := by decide +kernel
theorem fe_166_44 : am_fetch 166 44 = some (.aload_n 0, 1, 1, 0, 0) := by decide +kernel
theorem fe_166_45 : am_fetch 166 45 = some (.iload_n 1, 1, 1, 0, 0) := by decide +kernel
theorem fe_166_46 : am_fetch 166 46 = some (.iload_n 2, 1, 1, 0, 0) := by decide +kernel
theorem fe_166_47 : am_fetch 166 47 = some (.invokevirtual 162, 3, 7, 158, 0) := by decide +kernel
theorem fe_166_50 : am_fetch 166 50 = some (.goto 23, 3, 2, 73, 0) := by decide +kernel
theorem fe_166_53 : am_fetch 166 53 = some (.aload_n 0, 1, 1, 0, 0) := by decide +kernel
theorem fe_166_54 : am_fetch 166 54 = some (.aload_n 0, 1, 1, 0, 0) := by decide +kernel
theorem fe_166_55 : am_fetch 166 55 = some (.iload_n 1, 1, 1, 0, 0) := by decide +kernel
theorem fe_166_56 : am_fetch 166 56 = some (.iconst 0, 1, 0, 0, 0) := by decide +kernel
theorem fe_166_57 : am_fetch 166 57 = some (.invokevirtual 162, 3, 7, 158, 0) := by decide +kernel
theorem fe_166_60 : am_fetch 166 60 = some (.iload_n 2, 1, 1, 0, 0) := by decide +kernel
theorem fe_166_61 : am_fetch 166 61 = some (.iconst 4, 1, 0, 0, 0) := by decide +kernel
theorem fe_166_62 : am_fetch 166 62 = some (.if_icmp .ne 7, 3, 2, 69, 0) := by decide +kernel
theorem fe_166_65 : am_fetch 166 65 = some (.iconst 1, 1, 0, 0, 0) := by decide +kernel
theorem fe_166_66 : am_fetch 166 66 = some (.goto 4, 3, 2, 70, 0) := by decide +kernel
theorem fe_166_69 : am_fetch 166 69 = some (.iconst 0, 1, 0, 0, 0) := by decide +kernel
theorem fe_166_70 : am_fetch 166 70 = some (.invokevirtual 168, 3, 7, 165, 0) := by decide +kernel
theorem fe_166_73 : am_fetch 166 73 = some (.ireturn, 1, 8, 0, 0) := by decide +kernel
theorem fe_167_0 : am_fetch 167 0 = some (.iconst 0, 1, 0, 0, 0) := by decide +kernel
theorem fe_167_1 : am_fetch 167 1 = some (.istore_n 2, 1, 1, 0, 0) := by decide +kernel
theorem fe_167_2 : am_fetch 167 2 = some (.iconst 0, 1, 0, 0, 0) := by decide +kernel
theorem fe_167_3 : am_fetch 167 3 = some (.istore_n 3, 1, 1, 0, 0) := by decide +kernel
theorem fe_167_4 : am_fetch 167 4 = some (.iload_n 3, 1, 1, 0, 0) := by decide +kernel
theorem fe_167_5 : am_fetch 167 5 = some (.aload_n 0, 1, 1, 0, 0) := by decide +kernel
theorem fe_167_6 : am_fetch 167 6 = some (.getfield 32, 3, 3, 1, 0) := by decide +kernel
theorem fe_167_9 : am_fetch 167 9 = some (.if_icmp .ge 51, 3, 2, 60, 0) := by decide +kernel
theorem fe_167_12 : am_fetch 167 12 = some (.iload_n 2, 1, 1, 0, 0) := by decide +kernel
theorem fe_167_13 : am_fetch 167 13 = some (.aload_n 0, 1, 1, 0, 0) := by decide +kernel
theorem fe_167_14 : am_fetch 167 14 = some (.iload_n 3, 1, 1, 0, 0) := by decide +kernel
theorem fe_167_15 : am_fetch 167 15 = some (.iconst 0, 1, 0, 0, 0) := by decide +kernel
theorem fe_167_16 : am_fetch 167 16 = some (.invokevirtual 59, 3, 7, 73, 0) := by decide +kernel
theorem fe_167_19 : am_fetch 167 19 = some (.bipush 20, 2, 0, 0, 0) := by decide +kernel
theorem fe_167_21 : am_fetch 167 21 = some (.iload_n 1, 1, 1, 0, 0) := by decide +kernel
theorem fe_167_22 : am_fetch 167 22 = some (.iadd, 1, 0, 0, 0) := by decide +kernel
theorem fe_167_23 : am_fetch 167 23 = some (.if_icmp .ne 7, 3, 2, 30, 0) := by decide +kernel
theorem fe_167_26 : am_fetch 167 26 = some (.iconst 1, 1, 0, 0, 0) := by decide +kernel
theorem fe_167_27 : am_fetch 167 27 = some (.goto 4, 3, 2, 31, 0) := by decide +kernel
theorem fe_167_30 : am_fetch 167 30 = some (.iconst 0, 1, 0, 0, 0) := by decide +kernel
theorem fe_167_31 : am_fetch 167 31 = some (.iadd, 1, 0, 0, 0) := by decide +kernel
theorem fe_167_32 : am_fetch 167 32 = some (.istore_n 2, 1, 1, 0, 0) := by decide +kernel
theorem fe_167_33 : am_fetch 167 33 = some (.iload_n 2, 1, 1, 0, 0) := by decide +kernel
theorem fe_167_34 : am_fetch 167 34 = some (.aload_n 0, 1, 1, 0, 0) := by decide +kernel
theorem fe_167_35 : am_fetch 167 35 = some (.iload_n 3, 1, 1, 0, 0) := by decide +kernel
theorem fe_167_36 : am_fetch 167 36 = some (.iconst 1, 1, 0, 0, 0) := by decide +kernel
theorem fe_167_37 : am_fetch 167 37 = some (.invokevirtual 59, 3, 7, 73, 0) := by decide +kernel
theorem fe_167_40 : am_fetch 167 40 = some (.bipush 20, 2, 0, 0, 0) := by decide +kernel
theorem fe_167_42 : am_fetch 167 42 = some (.iload_n 1, 1, 1, 0, 0) := by decide +kernel
theorem fe_167_43 : am_fetch 167 43 = some (.iadd, 1, 0, 0, 0) := by decide +kernel
theorem fe_167_44 : am_fetch 167 44 = some (.if_icmp .ne 7, 3, 2, 51, 0) := by decide +kernel
theorem fe_167_47 : am_fetch 167 47 = some (.iconst 1, 1, 0, 0, 0) := by decide +kernel
theorem fe_167_48 : am_fetch 167 48 = some (.goto 4, 3, 2, 52, 0) := by decide +kernel
theorem fe_167_51 : am_fetch 167 51 = some (.iconst 0, 1, 0, 0, 0) := by decide +kernel
theorem fe_167_52 : am_fetch 167 52 = some (.iadd, 1, 0, 0, 0) := by decide +kernel
theorem fe_167_53 : am_fetch 167 53 = some (.istore_n 2, 1, 1, 0, 0) := by decide +kernel
theorem fe_167_54 : am_fetch 167 54 = some (.iinc 3 1, 3, 1, 0, 0) := by decide +kernel
theorem fe_167_57 : am_fetch 167 57 = some (.goto (-53), 3, 2, 4, 0) := by decide +kernel
theorem fe_167_60 : am_fetch 167 60 = some (.iload_n 2, 1, 1, 0, 0) := by decide +kernel
theorem fe_167_61 : am_fetch 167 61 = some (.ireturn, 1, 8, 0, 0) := by decide +kernel
theorem fe_168_0 : am_fetch 168 0 = some (.iload_n 1, 1, 1, 0, 0) := by decide +kernel
theorem fe_168_1 : am_fetch 168 1 = some (.invokestatic 153, 3, 7, 91, 0) := by decide +kernel
theorem fe_168_4 : am_fetch 168 4 = some (.ifCond .ne 13, 3, 2, 17, 0) := by decide +kernel
theorem fe_168_7 : am_fetch 168 7 = some (.new 102, 3, 9, 2, 0) := by decide +kernel
theorem fe_168_10 : am_fetch 168 10 = some (.dup, 1, 0, 0, 0) := by decide +kernel
theorem fe_168_17 : am_fetch 168 17 = some (.iload_n 2, 1, 1, 0, 0) := by decide +kernel
theorem fe_168_18 : am_fetch 168 18 = some (.tableswitch 62 0 2 #[26, 38, 50], 26, 2, 0, 0) := by decide +kernel
theorem fe_168_44 : am_fetch 168 44 = some (.aload_n 0, 1, 1, 0, 0) := by decide +kernel
theorem fe_168_45 : am_fetch 168 45 = some (.getfield 12, 3, 3, 10, 0) := by decide +kernel
theorem fe_168_48 : am_fetch 168 48 = some (.getfield 281, 3, 3, 107, 6) := by decide +kernel
theorem fe_168_51 : am_fetch 168 51 = some (.iload_n 1, 1, 1, 0, 0) := by decide +kernel
theorem fe_168_52 : am_fetch 168 52 = some (.invokevirtual 237, 3, 7, 39, 0) := by decide +kernel
theorem fe_168_55 : am_fetch 168 55 = some (.ireturn, 1, 8, 0, 0) := by decide +kernel
theorem fe_168_56 : am_fetch 168 56 = some (.aload_n 0, 1, 1, 0, 0) := by decide +kernel
theorem fe_168_57 : am_fetch 168 57 = some (.getfield 12, 3, 3, 10, 0) := by decide +kernel
theorem fe_168_60 : am_fetch 168 60 = some (.getfield 284, 3, 3, 107, 7) := by decide +kernel
theorem fe_168_63 : am_fetch 168 63 = some (.iload_n 1, 1, 1, 0, 0) := by decide +kernel
theorem fe_168_64 : am_fetch 168 64 = some (.invokevirtual 237, 3, 7, 39, 0) := by decide +kernel
theorem fe_168_67 : am_fetch 168 67 = some (.ireturn, 1, 8, 0, 0) := by decide +kernel
theorem fe_168_68 : am_fetch 168 68 = some (.aload_n 0, 1, 1, 0, 0) := by decide +kernel
theorem fe_168_69 : am_fetch 168 69 = some (.getfield 12, 3, 3, 10, 0) := by decide +kernel
theorem fe_168_72 : am_fetch 168 72 = some (.getfield 18, 3, 3, 107, 8) := by decide +kernel
theorem fe_168_75 : am_fetch 168 75 = some (.iload_n 1, 1, 1, 0, 0) := by decide +kernel
theorem fe_168_76 : am_fetch 168 76 = some (.invokevirtual 287, 3, 7, 167, 0) := by decide +kernel
theorem fe_168_79 : am_fetch 168 79 = some (.ireturn, 1, 8, 0, 0) := by decide +kernel
theorem fe_168_80 : am_fetch 168 80 = some (.new 69, 3, 9, 0, 0) := by decide +kernel
theorem fe_168_83 : am_fetch 168 83 = some (.dup, 1, 0, 0, 0) := by decide +kernel
theorem fe_169_0 : am_fetch 169 0 = some (.aload_n 3, 1, 1, 0, 0) := by decide +kernel
theorem fe_169_1 : am_fetch 169 1 = some (.iconst 0, 1, 0, 0, 0) := by decide +kernel
theorem fe_169_2 : am_fetch 169 2 = some (.aload_n 0, 1, 1, 0, 0) := by decide +kernel
theorem fe_169_3 : am_fetch 169 3 = some (.iload_n 1, 1, 1, 0, 0) := by decide +kernel
theorem fe_169_4 : am_fetch 169 4 = some (.iload_n 2, 1, 1, 0, 0) := by decide +kernel
theorem fe_169_5 : am_fetch 169 5 = some (.invokevirtual 64, 3, 7, 168, 0) := by decide +kernel
theorem fe_169_8 : am_fetch 169 8 = some (.i2l, 1, 0, 0, 0) := by decide +kernel
theorem fe_169_9 : am_fetch 169 9 = some (.lastore, 1, 4, 0, 0) := by decide +kernel
theorem fe_169_10 : am_fetch 169 10 = some (.goto 11, 3, 2, 21, 0) := by decide +kernel
theorem fe_169_13 : am_fetch 169 13 = some (.astore 4, 2, 1, 0, 0) := by decide +kernel
theorem fe_169_15 : am_fetch 169 15 = some (.iconst 1, 1, 0, 0, 0) := by decide +kernel
theorem fe_169_16 : am_fetch 169 16 = some (.ireturn, 1, 8, 0, 0) := by decide +kernel
theorem fe_169_17 : am_fetch 169 17 = some (.astore 4, 2, 1, 0, 0) := by decide +kernel
theorem fe_169_19 : am_fetch 169 19 = some (.iconst 2, 1, 0, 0, 0) := by decide +kernel
theorem fe_169_20 : am_fetch 169 20 = some (.ireturn, 1, 8, 0, 0) := by decide +kernel
theorem fe_169_21 : am_fetch 169 21 = some (.iconst 0, 1, 0, 0, 0) := by decide +kernel
theorem fe_169_22 : am_fetch 169 22 = some (.ireturn, 1, 8, 0, 0) := by decide +kernel
theorem fe_170_0 : am_fetch 170 0 = some (.iconst 0, 1, 0, 0, 0) := by decide +kernel
theorem fe_170_1 : am_fetch 170 1 = some (.istore_n 2, 1, 1, 0, 0) := by decide +kernel
theorem fe_170_2 : am_fetch 170 2 = some (.iconst 0, 1, 0, 0, 0) := by decide +kernel
theorem fe_170_3 : am_fetch 170 3 = some (.istore_n 3, 1, 1, 0, 0) := by decide +kernel
theorem fe_170_4 : am_fetch 170 4 = some (.iload_n 3, 1, 1, 0, 0) := by decide +kernel
theorem fe_170_5 : am_fetch 170 5 = some (.aload_n 0, 1, 1, 0, 0) := by decide +kernel
theorem fe_170_6 : am_fetch 170 6 = some (.getfield 7, 3, 3, 11, 0) := by decide +kernel
theorem fe_170_9 : am_fetch 170 9 = some (.iconst 1, 1, 0, 0, 0) := by decide +kernel
theorem fe_170_10 : am_fetch 170 10 = some (.iaload, 1, 3, 0, 0) := by decide +kernel
theorem fe_170_11 : am_fetch 170 11 = some (.if_icmp .ge 43, 3, 2, 54, 0) := by decide +kernel
theorem fe_170_14 : am_fetch 170 14 = some (.iload_n 2, 1, 1, 0, 0) := by decide +kernel
theorem fe_170_15 : am_fetch 170 15 = some (.aload_n 0, 1, 1, 0, 0) := by decide +kernel
theorem fe_170_16 : am_fetch 170 16 = some (.iload_n 3, 1, 1, 0, 0) := by decide +kernel
theorem fe_170_17 : am_fetch 170 17 = some (.iconst 2, 1, 0, 0, 0) := by decide +kernel
theorem fe_170_18 : am_fetch 170 18 = some (.invokevirtual 54, 3, 7, 48, 0) := by decide +kernel
theorem fe_170_21 : am_fetch 170 21 = some (.iload_n 1, 1, 1, 0, 0) := by decide +kernel
theorem fe_170_22 : am_fetch 170 22 = some (.if_icmp .ne 7, 3, 2, 29, 0) := by decide +kernel
theorem fe_170_25 : am_fetch 170 25 = some (.iconst 1, 1, 0, 0, 0) := by decide +kernel
theorem fe_170_26 : am_fetch 170 26 = some (.goto 4, 3, 2, 30, 0) := by decide +kernel
theorem fe_170_29 : am_fetch 170 29 = some (.iconst 0, 1, 0, 0, 0) := by decide +kernel
theorem fe_170_30 : am_fetch 170 30 = some (.aload_n 0, 1, 1, 0, 0) := by decide +kernel
theorem fe_170_31 : am_fetch 170 31 = some (.iload_n 3, 1, 1, 0, 0) := by decide +kernel
theorem fe_170_32 : am_fetch 170 32 = some (.iconst 3, 1, 0, 0, 0) := by decide +kernel
theorem fe_170_33 : am_fetch 170 33 = some (.invokevirtual 54, 3, 7, 48, 0) := by decide +kernel
theorem fe_170_36 : am_fetch 170 36 = some (.iload_n 1, 1, 1, 0, 0) := by decide +kernel
theorem fe_170_37 : am_fetch 170 37 = some (.if_icmp .ne 7, 3, 2, 44, 0) := by decide +kernel
theorem fe_170_40 : am_fetch 170 40 = some (.iconst 1, 1, 0, 0, 0) := by decide +kernel
theorem fe_170_41 : am_fetch 170 41 = some (.goto 4, 3, 2, 45, 0) := by decide +kernel
theorem fe_170_44 : am_fetch 170 44 = some (.iconst 0, 1, 0, 0, 0) := by decide +kernel
theorem fe_170_45 : am_fetch 170 45 = some (.iadd, 1, 0, 0, 0) := by decide +kernel
theorem fe_170_46 : am_fetch 170 46 = some (.iadd, 1, 0, 0, 0) := by decide +kernel
theorem fe_170_47 : am_fetch 170 47 = some (.istore_n 2, 1, 1, 0, 0) := by decide +kernel
theorem fe_170_48 : am_fetch 170 48 = some (.iinc 3 1, 3, 1, 0, 0) := by decide +kernel
theorem fe_170_51 : am_fetch 170 51 = some (.goto (-47), 3, 2, 4, 0) := by decide +kernel
theorem fe_170_54 : am_fetch 170 54 = some (.iload_n 2, 1, 1, 0, 0) := by decide +kernel
theorem fe_170_55 : am_fetch 170 55 = some (.ireturn, 1, 8, 0, 0) := by decide +kernel
theorem fe_171_0 : am_fetch 171 0 = some (.aload_n 0, 1, 1, 0, 0) := by decide +kernel
theorem fe_171_1 : am_fetch 171 1 = some (.iload_n 1, 1, 1, 0, 0) := by decide +kernel
theorem fe_171_2 : am_fetch 171 2 = some (.invokestatic 44, 3, 7, 45, 0) := by decide +kernel
theorem fe_171_5 : am_fetch 171 5 = some (.ifCond .ne 7, 3, 2, 12, 0) := by decide +kernel
theorem fe_171_8 : am_fetch 171 8 = some (.iconst 1, 1, 0, 0, 0) := by decide +kernel
theorem fe_171_9 : am_fetch 171 9 = some (.goto 17, 3, 2, 26, 0) := by decide +kernel
theorem fe_171_12 : am_fetch 171 12 = some (.iload_n 2, 1, 1, 0, 0) := by decide +kernel
theorem fe_171_13 : am_fetch 171 13 = some (.iconst 0, 1, 0, 0, 0) := by decide +kernel
theorem fe_171_14 : am_fetch 171 14 = some (.iconst 2, 1, 0, 0, 0) := by decide +kernel
theorem fe_171_15 : am_fetch 171 15 = some (.invokestatic 36, 3, 7, 26, 0) := by decide +kernel
theorem fe_171_18 : am_fetch 171 18 = some (.ifCond .ne 7, 3, 2, 25, 0) := by decide +kernel
theorem fe_171_21 : am_fetch 171 21 = some (.iconst 2, 1, 0, 0, 0) := by decide +kernel
theorem fe_171_22 : am_fetch 171 22 = some (.goto 4, 3, 2, 26, 0) := by decide +kernel
theorem fe_171_25 : am_fetch 171 25 = some (.iconst 0, 1, 0, 0, 0) := by decide +kernel
theorem fe_171_26 : am_fetch 171 26 = some (.invokevirtual 91, 3, 7, 29, 0) := by decide +kernel
theorem fe_171_29 : am_fetch 171 29 = some (.ifCond .ne 5, 3, 2, 34, 0) := by decide +kernel
theorem fe_171_32 : am_fetch 171 32 = some (.iconst 0, 1, 0, 0, 0) := by decide +kernel
theorem fe_171_33 : am_fetch 171 33 = some (.ireturn, 1, 8, 0, 0) := by decide +kernel
theorem fe_171_34 : am_fetch 171 34 = some (.iload_n 2, 1, 1, 0, 0) := by decide +kernel
theorem fe_171_35 : am_fetch 171 35 = some (.ifCond .ne 15, 3, 2, 50, 0) := by decide +kernel
theorem fe_171_38 : am_fetch 171 38 = some (.aload_n 0, 1, 1, 0, 0) := by decide +kernel
theorem fe_171_39 : am_fetch 171 39 = some (.getfield 7, 3, 3, 11, 0) := by decide +kernel
theorem fe_171_42 : am_fetch 171 42 = some (.bipush 95, 2, 0, 0, 0) := by decide +kernel
theorem fe_171_44 : am_fetch 171 44 = some (.iload_n 1, 1, 1, 0, 0) := by decide +kernel
theorem fe_171_45 : am_fetch 171 45 = some (.iadd, 1, 0, 0, 0) := by decide +kernel
theorem fe_171_46 : am_fetch 171 46 = some (.iaload, 1, 3, 0, 0) := by decide +kernel
theorem fe_171_47 : am_fetch 171 47 = some (.goto 28, 3, 2, 75, 0) := by decide +kernel
theorem fe_171_50 : am_fetch 171 50 = some (.iload_n 2, 1, 1, 0, 0) := by decide +kernel
theorem fe_171_51 : am_fetch 171 51 = some (.iconst 1, 1, 0, 0, 0) := by decide +kernel
theorem fe_171_52 : am_fetch 171 52 = some (.if_icmp .ne 15, 3, 2, 67, 0) := by decide +kernel
theorem fe_171_55 : am_fetch 171 55 = some (.aload_n 0, 1, 1, 0, 0) := by decide +kernel
theorem fe_171_56 : am_fetch 171 56 = some (.getfield 7, 3, 3, 11, 0) := by decide +kernel
theorem fe_171_59 : am_fetch 171 59 = some (.bipush 100, 2, 0, 0, 0) := by decide +kernel
theorem fe_171_61 : am_fetch 171 61 = some (.iload_n 1, 1, 1, 0, 0) := by decide +kernel
theorem fe_171_62 : am_fetch 171 62 = some (.iadd, 1, 0, 0, 0) := by decide +kernel
theorem fe_171_63 : am_fetch 171 63 = some (.iaload, 1, 3, 0, 0) := by decide +kernel
theorem fe_171_64 : am_fetch 171 64 = some (.goto 11, 3, 2, 75, 0) := by decide +kernel
theorem fe_171_67 : am_fetch 171 67 = some (.aload_n 0, 1, 1, 0, 0) := by decide +kernel
theorem fe_171_68 : am_fetch 171 68 = some (.bipush 20, 2, 0, 0, 0) := by decide +kernel
theorem fe_171_70 : am_fetch 171 70 = some (.iload_n 1, 1, 1, 0, 0) := by decide +kernel
theorem fe_171_71 : am_fetch 171 71 = some (.iadd, 1, 0, 0, 0) := by decide +kernel
theorem fe_171_72 : am_fetch 171 72 = some (.invokevirtual 172, 3, 7, 170, 0) := by decide +kernel
theorem fe_171_75 : am_fetch 171 75 = some (.ireturn, 1, 8, 0, 0) := by decide +kernel
theorem fe_172_0 : am_fetch 172 0 = some (.iload_n 1, 1, 1, 0, 0) := by decide +kernel
theorem fe_172_1 : am_fetch 172 1 = some (.tableswitch 176 0 11 #[63, 71, 82, 90, 101, 109, 121, 133, 141, 149, 160, 168], 63, 2, 0, 0) := by decide +kernel
theorem fe_172_64 : am_fetch 172 64 = some (.aload_n 0, 1, 1, 0, 0) := by decide +kernel
theorem fe_172_65 : am_fetch 172 65 = some (.getfield 12, 3, 3, 10, 0) := by decide +kernel
theorem fe_172_68 : am_fetch 172 68 = some (.getfield 222, 3, 3, 107, 0) := by decide +kernel
theorem fe_172_71 : am_fetch 172 71 = some (.ireturn, 1, 8, 0, 0) := by decide +kernel
theorem fe_172_72 : am_fetch 172 72 = some (.aload_n 0, 1, 1, 0, 0) := by decide +kernel
theorem fe_172_73 : am_fetch 172 73 = some (.getfield 12, 3, 3, 10, 0) := by decide +kernel
theorem fe_172_76 : am_fetch 172 76 = some (.getfield 18, 3, 3, 107, 8) := by decide +kernel
theorem fe_172_79 : am_fetch 172 79 = some (.getfield 292, 3, 3, 101, 0) := by decide +kernel
theorem fe_172_82 : am_fetch 172 82 = some (.ireturn, 1, 8, 0, 0) := by decide +kernel
theorem fe_172_83 : am_fetch 172 83 = some (.aload_n 0, 1, 1, 0, 0) := by decide +kernel
theorem fe_172_84 : am_fetch 172 84 = some (.getfield 12, 3, 3, 10, 0) := by decide +kernel
theorem fe_172_87 : am_fetch 172 87 = some (.getfield 295, 3, 3, 107, 1) := by decide +kernel
theorem fe_172_90 : am_fetch 172 90 = some (.ireturn, 1, 8, 0, 0) := by decide +kernel
theorem fe_172_91 : am_fetch 172 91 = some (.aload_n 0, 1, 1, 0, 0) := by decide +kernel
theorem fe_172_92 : am_fetch 172 92 = some (.getfield 12, 3, 3, 10, 0) := by decide +kernel
theorem fe_172_95 : am_fetch 172 95 = some (.getfield 248, 3, 3, 107, 9) := by decide +kernel
theorem fe_172_98 : am_fetch 172 98 = some (.getfield 264, 3, 3, 100, 0) := by decide +kernel
theorem fe_172_101 : am_fetch 172 101 = some (.ireturn, 1, 8, 0, 0) := by decide +kernel
theorem fe_172_102 : am_fetch 172 102 = some (.aload_n 0, 1, 1, 0, 0) := by decide +kernel
theorem fe_172_103 : am_fetch 172 103 = some (.getfield 12, 3, 3, 10, 0) := by decide +kernel
theorem fe_172_106 : am_fetch 172 106 = some (.getfield 298, 3, 3, 107, 2) := by decide +kernel
theorem fe_172_109 : am_fetch 172 109 = some (.ireturn, 1, 8, 0, 0) := by decide +kernel
theorem fe_172_110 : am_fetch 172 110 = some (.aload_n 0, 1, 1, 0, 0) := by decide +kernel
theorem fe_172_111 : am_fetch 172 111 = some (.getfield 12, 3, 3, 10, 0) := by decide +kernel
theorem fe_172_114 : am_fetch 172 114 = some (.getfield 129, 3, 3, 107, 5) := by decide +kernel
theorem fe_172_117 : am_fetch 172 117 = some (.iconst 0, 1, 0, 0, 0) := by decide +kernel
theorem fe_172_118 : am_fetch 172 118 = some (.invokevirtual 237, 3, 7, 39, 0) := by decide +kernel
theorem fe_172_121 : am_fetch 172 121 = some (.ireturn, 1, 8, 0, 0) := by decide +kernel
theorem fe_172_122 : am_fetch 172 122 = some (.aload_n 0, 1, 1, 0, 0) := by decide +kernel
theorem fe_172_123 : am_fetch 172 123 = some (.getfield 12, 3, 3, 10, 0) := by decide +kernel
theorem fe_172_126 : am_fetch 172 126 = some (.getfield 129, 3, 3, 107, 5) := by decide +kernel
theorem fe_172_129 : am_fetch 172 129 = some (.iconst 1, 1, 0, 0, 0) := by decide +kernel
theorem fe_172_130 : am_fetch 172 130 = some (.invokevirtual 237, 3, 7, 39, 0) := by decide +kernel
theorem fe_172_133 : am_fetch 172 133 = some (.ireturn, 1, 8, 0, 0) := by decide +kernel
theorem fe_172_134 : am_fetch 172 134 = some (.aload_n 0, 1, 1, 0, 0) := by decide +kernel
theorem fe_172_135 : am_fetch 172 135 = some (.getfield 12, 3, 3, 10, 0) := by decide +kernel
theorem fe_172_138 : am_fetch 172 138 = some (.getfield 301, 3, 3, 107, 3) := by decide +kernel
theorem fe_172_141 : am_fetch 172 141 = some (.ireturn, 1, 8, 0, 0) := by decide +kernel
theorem fe_172_142 : am_fetch 172 142 = some (.aload_n 0, 1, 1, 0, 0) := by decide +kernel
theorem fe_172_143 : am_fetch 172 143 = some (.getfield 12, 3, 3, 10, 0) := by decide +kernel
theorem fe_172_146 : am_fetch 172 146 = some (.getfield 304, 3, 3, 107, 4) := by decide +kernel
theorem fe_172_149 : am_fetch 172 149 = some (.ireturn, 1, 8, 0, 0) := by decide +kernel
theorem fe_172_150 : am_fetch 172 150 = some (.aload_n 0, 1, 1, 0, 0) := by decide +kernel
theorem fe_172_151 : am_fetch 172 151 = some (.getfield 12, 3, 3, 10, 0) := by decide +kernel
theorem fe_172_154 : am_fetch 172 154 = some (.getfield 31, 3, 3, 107, 10) := by decide +kernel
theorem fe_172_157 : am_fetch 172 157 = some (.getfield 307, 3, 3, 108, 2) := by decide +kernel
theorem fe_172_160 : am_fetch 172 160 = some (.ireturn, 1, 8, 0, 0) := by decide +kernel
theorem fe_172_161 : am_fetch 172 161 = some (.aload_n 0, 1, 1, 0, 0) := by decide +kernel
theorem fe_172_162 : am_fetch 172 162 = some (.getfield 52, 3, 3, 10, 4) := by decide +kernel
theorem fe_172_165 : am_fetch 172 165 = some (.invokevirtual 204, 3, 7, 139, 0) := by decide +kernel
theorem fe_172_168 : am_fetch 172 168 = some (.ireturn, 1, 8, 0, 0) := by decide +kernel
theorem fe_172_169 : am_fetch 172 169 = some (.aload_n 0, 1, 1, 0, 0) := by decide +kernel
theorem fe_172_170 : am_fetch 172 170 = some (.getfield 45, 3, 3, 10, 3) := by decide +kernel
theorem fe_172_173 : am_fetch 172 173 = some (.getfield 312, 3, 3, 104, 0) := by decide +kernel
theorem fe_172_176 : am_fetch 172 176 = some (.ireturn, 1, 8, 0, 0) := by decide +kernel
theorem fe_172_177 : am_fetch 172 177 = some (.new 69, 3, 9, 0, 0) := by decide +kernel
theorem fe_172_180 : am_fetch 172 180 = some (.dup, 1, 0, 0, 0) := by decide +kernel
theorem fe_173_0 : am_fetch 173 0 = some (.aload_n 2, 1, 1, 0, 0) := by decide +kernel
theorem fe_173_1 : am_fetch 173 1 = some (.iconst 0, 1, 0, 0, 0) := by decide +kernel
theorem fe_173_2 : am_fetch 173 2 = some (.aload_n 0, 1, 1, 0, 0) := by decide +kernel
theorem fe_173_3 : am_fetch 173 3 = some (.iload_n 1, 1, 1, 0, 0) := by decide +kernel
theorem fe_173_4 : am_fetch 173 4 = some (.invokevirtual 67, 3, 7, 172, 0) := by decide +kernel
theorem fe_173_7 : am_fetch 173 7 = some (.i2l, 1, 0, 0, 0) := by decide +kernel
theorem fe_173_8 : am_fetch 173 8 = some (.lastore, 1, 4, 0, 0) := by decide +kernel
theorem fe_173_9 : am_fetch 173 9 = some (.goto 6, 3, 2, 15, 0) := by decide +kernel
theorem fe_173_12 : am_fetch 173 12 = some (.astore_n 3, 1, 1, 0, 0) := by decide +kernel
theorem fe_173_13 : am_fetch 173 13 = some (.iconst 1, 1, 0, 0, 0) := by decide +kernel
theorem fe_173_14 : am_fetch 173 14 = some (.ireturn, 1, 8, 0, 0) := by decide +kernel
theorem fe_173_15 : am_fetch 173 15 = some (.iconst 0, 1, 0, 0, 0) := by decide +kernel
theorem fe_173_16 : am_fetch 173 16 = some (.ireturn, 1, 8, 0, 0) := by decide +kernel
theorem fe_174_0 : am_fetch 174 0 = some (.aload_n 0, 1, 1, 0, 0) := by decide +kernel
theorem fe_174_1 : am_fetch 174 1 = some (.iload_n 1, 1, 1, 0, 0) := by decide +kernel
theorem fe_174_2 : am_fetch 174 2 = some (.iconst 0, 1, 0, 0, 0) := by decide +kernel
theorem fe_174_3 : am_fetch 174 3 = some (.bipush 11, 2, 0, 0, 0) := by decide +kernel
theorem fe_174_5 : am_fetch 174 5 = some (.invokestatic 36, 3, 7, 26, 0) := by decide +kernel
theorem fe_174_8 : am_fetch 174 8 = some (.ifCond .eq 7, 3, 2, 15, 0) := by decide +kernel
theorem fe_174_11 : am_fetch 174 11 = some (.iconst 0, 1, 0, 0, 0) := by decide +kernel
theorem fe_174_12 : am_fetch 174 12 = some (.goto 4, 3, 2, 16, 0) := by decide +kernel
theorem fe_174_15 : am_fetch 174 15 = some (.iconst 1, 1, 0, 0, 0) := by decide +kernel
theorem fe_174_16 : am_fetch 174 16 = some (.invokevirtual 91, 3, 7, 29, 0) := by decide +kernel
theorem fe_174_19 : am_fetch 174 19 = some (.ifCond .ne 5, 3, 2, 24, 0) := by decide +kernel
theorem fe_174_22 : am_fetch 174 22 = some (.iconst 0, 1, 0, 0, 0) := by decide +kernel
theorem fe_174_23 : am_fetch 174 23 = some (.ireturn, 1, 8, 0, 0) := by decide +kernel
theorem fe_174_24 : am_fetch 174 24 = some (.iload_n 1, 1, 1, 0, 0) := by decide +kernel
theorem fe_174_25 : am_fetch 174 25 = some (.bipush 10, 2, 0, 0, 0) := by decide +kernel
theorem fe_174_27 : am_fetch 174 27 = some (.if_icmp .ge 12, 3, 2, 39, 0) := by decide +kernel
theorem fe_174_30 : am_fetch 174 30 = some (.aload_n 0, 1, 1, 0, 0) := by decide +kernel
theorem fe_174_31 : am_fetch 174 31 = some (.getfield 7, 3, 3, 11, 0) := by decide +kernel
theorem fe_174_34 : am_fetch 174 34 = some (.iload_n 1, 1, 1, 0, 0) := by decide +kernel
theorem fe_174_35 : am_fetch 174 35 = some (.iaload, 1, 3, 0, 0) := by decide +kernel
theorem fe_174_36 : am_fetch 174 36 = some (.goto 20, 3, 2, 56, 0) := by decide +kernel
theorem fe_174_39 : am_fetch 174 39 = some (.iload_n 1, 1, 1, 0, 0) := by decide +kernel
theorem fe_174_40 : am_fetch 174 40 = some (.bipush 10, 2, 0, 0, 0) := by decide +kernel
theorem fe_174_42 : am_fetch 174 42 = some (.if_icmp .ne 10, 3, 2, 52, 0) := by decide +kernel
theorem fe_174_45 : am_fetch 174 45 = some (.aload_n 0, 1, 1, 0, 0) := by decide +kernel
theorem fe_174_46 : am_fetch 174 46 = some (.getfield 47, 3, 3, 11, 2) := by decide +kernel
theorem fe_174_49 : am_fetch 174 49 = some (.goto 7, 3, 2, 56, 0) := by decide +kernel
theorem fe_174_52 : am_fetch 174 52 = some (.aload_n 0, 1, 1, 0, 0) := by decide +kernel
theorem fe_174_53 : am_fetch 174 53 = some (.getfield 119, 3, 3, 11, 6) := by decide +kernel
theorem fe_174_56 : am_fetch 174 56 = some (.ireturn, 1, 8, 0, 0) := by decide +kernel
theorem fe_175_0 : am_fetch 175 0 = some (.aload_n 0, 1, 1, 0, 0) := by decide +kernel
theorem fe_175_1 : am_fetch 175 1 = some (.getfield 14, 3, 3, 8, 3) := by decide +kernel
theorem fe_175_4 : am_fetch 175 4 = some (.aload_n 0, 1, 1, 0, 0) := by decide +kernel
theorem fe_175_5 : am_fetch 175 5 = some (.iload_n 1, 1, 1, 0, 0) := by decide +kernel
theorem fe_175_6 : am_fetch 175 6 = some (.invokevirtual 40, 3, 7, 71, 0) := by decide +kernel
theorem fe_175_9 : am_fetch 175 9 = some (.invokevirtual 48, 3, 7, 39, 0) := by decide +kernel
theorem fe_175_12 : am_fetch 175 12 = some (.ireturn, 1, 8, 0, 0) := by decide +kernel
theorem fe_176_0 : am_fetch 176 0 = some (.aload_n 0, 1, 1, 0, 0) := by decide +kernel
theorem fe_176_1 : am_fetch 176 1 = some (.getfield 20, 3, 3, 8, 4) := by decide +kernel
theorem fe_176_4 : am_fetch 176 4 = some (.aload_n 0, 1, 1, 0, 0) := by decide +kernel
theorem fe_176_5 : am_fetch 176 5 = some (.iload_n 1, 1, 1, 0, 0) := by decide +kernel
theorem fe_176_6 : am_fetch 176 6 = some (.invokevirtual 40, 3, 7, 71, 0) := by decide +kernel
theorem fe_176_9 : am_fetch 176 9 = some (.invokevirtual 48, 3, 7, 39, 0) := by decide +kernel
theorem fe_176_12 : am_fetch 176 12 = some (.ireturn, 1, 8, 0, 0) := by decide +kernel
theorem fe_177_0 : am_fetch 177 0 = some (.aload_n 0, 1, 1, 0, 0) := by decide +kernel
theorem fe_177_1 : am_fetch 177 1 = some (.getfield 23, 3, 3, 8, 5) := by decide +kernel
theorem fe_177_4 : am_fetch 177 4 = some (.aload_n 0, 1, 1, 0, 0) := by decide +kernel
theorem fe_177_5 : am_fetch 177 5 = some (.iload_n 1, 1, 1, 0, 0) := by decide +kernel
theorem fe_177_6 : am_fetch 177 6 = some (.invokevirtual 40, 3, 7, 71, 0) := by decide +kernel
theorem fe_177_9 : am_fetch 177 9 = some (.invokevirtual 48, 3, 7, 39, 0) := by decide +kernel
theorem fe_177_12 : am_fetch 177 12 = some (.ireturn, 1, 8, 0, 0) := by decide +kernel
theorem fe_178_0 : am_fetch 178 0 = some (.iload_n 1, 1, 1, 0, 0) := by decide +kernel
theorem fe_178_1 : am_fetch 178 1 = some (.ifCond .lt 12, 3, 2, 13, 0) := by decide +kernel
theorem fe_178_4 : am_fetch 178 4 = some (.iload_n 2, 1, 1, 0, 0) := by decide +kernel
theorem fe_178_5 : am_fetch 178 5 = some (.ifCond .lt 8, 3, 2, 13, 0) := by decide +kernel
theorem fe_178_8 : am_fetch 178 8 = some (.iload_n 2, 1, 1, 0, 0) := by decide +kernel
theorem fe_178_9 : am_fetch 178 9 = some (.iconst 2, 1, 0, 0, 0) := by decide +kernel
theorem fe_178_10 : am_fetch 178 10 = some (.if_icmp .le 14, 3, 2, 24, 0) := by decide +kernel
theorem fe_178_13 : am_fetch 178 13 = some (.new 69, 3, 9, 0, 0) := by decide +kernel
theorem fe_178_16 : am_fetch 178 16 = some (.dup, 1, 0, 0, 0) := by decide +kernel
theorem fe_178_24 : am_fetch 178 24 = some (.iload_n 1, 1, 1, 0, 0) := by decide +kernel
theorem fe_178_25 : am_fetch 178 25 = some (.aload_n 0, 1, 1, 0, 0) := by decide +kernel
theorem fe_178_26 : am_fetch 178 26 = some (.getfield 12, 3, 3, 10, 0) := by decide +kernel
theorem fe_178_29 : am_fetch 178 29 = some (.getfield 31, 3, 3, 107, 10) := by decide +kernel
theorem fe_178_32 : am_fetch 178 32 = some (.getfield 319, 3, 3, 108, 1) := by decide +kernel
theorem fe_178_35 : am_fetch 178 35 = some (.if_icmp .lt 5, 3, 2, 40, 0) := by decide +kernel
theorem fe_178_38 : am_fetch 178 38 = some (.iconst (-1), 1, 0, 0, 0) := by decide +kernel
theorem fe_178_39 : am_fetch 178 39 = some (.ireturn, 1, 8, 0, 0) := by decide +kernel
theorem fe_178_40 : am_fetch 178 40 = some (.aload_n 0, 1, 1, 0, 0) := by decide +kernel
theorem fe_178_41 : am_fetch 178 41 = some (.getfield 12, 3, 3, 10, 0) := by decide +kernel
theorem fe_178_44 : am_fetch 178 44 = some (.getfield 31, 3, 3, 107, 10) := by decide +kernel
theorem fe_178_47 : am_fetch 178 47 = some (.getfield 319, 3, 3, 108, 1) := by decide +kernel
theorem fe_178_50 : am_fetch 178 50 = some (.iconst 1, 1, 0, 0, 0) := by decide +kernel
theorem fe_178_51 : am_fetch 178 51 = some (.isub, 1, 0, 0, 0) := by decide +kernel
theorem fe_178_52 : am_fetch 178 52 = some (.iload_n 1, 1, 1, 0, 0) := by decide +kernel
theorem fe_178_53 : am_fetch 178 53 = some (.isub, 1, 0, 0, 0) := by decide +kernel
theorem fe_178_54 : am_fetch 178 54 = some (.istore_n 3, 1, 1, 0, 0) := by decide +kernel
theorem fe_178_55 : am_fetch 178 55 = some (.iload_n 2, 1, 1, 0, 0) := by decide +kernel
theorem fe_178_56 : am_fetch 178 56 = some (.lookupswitch 52 #[(0, 28), (1, 40)], 28, 2, 0, 0) := by decide +kernel
theorem fe_178_84 : am_fetch 178 84 = some (.aload_n 0, 1, 1, 0, 0) := by decide +kernel
theorem fe_178_85 : am_fetch 178 85 = some (.getfield 12, 3, 3, 10, 0) := by decide +kernel
theorem fe_178_88 : am_fetch 178 88 = some (.getfield 31, 3, 3, 107, 10) := by decide +kernel
theorem fe_178_91 : am_fetch 178 91 = some (.iload_n 3, 1, 1, 0, 0) := by decide +kernel
theorem fe_178_92 : am_fetch 178 92 = some (.invokevirtual 322, 3, 7, 175, 0) := by decide +kernel
theorem fe_178_95 : am_fetch 178 95 = some (.ireturn, 1, 8, 0, 0) := by decide +kernel
theorem fe_178_96 : am_fetch 178 96 = some (.aload_n 0, 1, 1, 0, 0) := by decide +kernel
theorem fe_178_97 : am_fetch 178 97 = some (.getfield 12, 3, 3, 10, 0) := by decide +kernel
theorem fe_178_100 : am_fetch 178 100 = some (.getfield 31, 3, 3, 107, 10) := by decide +kernel
theorem fe_178_103 : am_fetch 178 103 = some (.iload_n 3, 1, 1, 0, 0) := by decide +kernel
theorem fe_178_104 : am_fetch 178 104 = some (.invokevirtual 325, 3, 7, 176, 0) := by decide +kernel
theorem fe_178_107 : am_fetch 178 107 = some (.ireturn, 1, 8, 0, 0) := by decide +kernel
theorem fe_178_108 : am_fetch 178 108 = some (.aload_n 0, 1, 1, 0, 0) := by decide +kernel
theorem fe_178_109 : am_fetch 178 109 = some (.getfield 12, 3, 3, 10, 0) := by decide +kernel
theorem fe_178_112 : am_fetch 178 112 = some (.getfield 31, 3, 3, 107, 10) := by decide +kernel
theorem fe_178_115 : am_fetch 178 115 = some (.iload_n 3, 1, 1, 0, 0) := by decide +kernel
theorem fe_178_116 : am_fetch 178 116 = some (.invokevirtual 328, 3, 7, 177, 0) := by decide +kernel
theorem fe_178_119 : am_fetch 178 119 = some (.ireturn, 1, 8, 0, 0) := by decide +kernel
theorem fe_179_0 : am_fetch 179 0 = some (.aload_n 3, 1, 1, 0, 0) := by decide +kernel
theorem fe_179_1 : am_fetch 179 1 = some (.iconst 0, 1, 0, 0, 0) := by decide +kernel
theorem fe_179_2 : am_fetch 179 2 = some (.aload_n 0, 1, 1, 0, 0) := by decide +kernel
theorem fe_179_3 : am_fetch 179 3 = some (.iload_n 1, 1, 1, 0, 0) := by decide +kernel
theorem fe_179_4 : am_fetch 179 4 = some (.iload_n 2, 1, 1, 0, 0) := by decide +kernel
theorem fe_179_5 : am_fetch 179 5 = some (.invokevirtual 70, 3, 7, 178, 0) := by decide +kernel
theorem fe_179_8 : am_fetch 179 8 = some (.i2l, 1, 0, 0, 0) := by decide +kernel
theorem fe_179_9 : am_fetch 179 9 = some (.lastore, 1, 4, 0, 0) := by decide +kernel
theorem fe_179_10 : am_fetch 179 10 = some (.goto 7, 3, 2, 17, 0) := by decide +kernel
theorem fe_179_13 : am_fetch 179 13 = some (.astore 4, 2, 1, 0, 0) := by decide +kernel
theorem fe_179_15 : am_fetch 179 15 = some (.iconst 1, 1, 0, 0, 0) := by decide +kernel
theorem fe_179_16 : am_fetch 179 16 = some (.ireturn, 1, 8, 0, 0) := by decide +kernel
theorem fe_179_17 : am_fetch 179 17 = some (.iconst 0, 1, 0, 0, 0) := by decide +kernel
theorem fe_179_18 : am_fetch 179 18 = some (.ireturn, 1, 8, 0, 0) := by decide +kernel
theorem fe_180_0 : am_fetch 180 0 = some (.aload_n 0, 1, 1, 0, 0) := by decide +kernel
theorem fe_180_1 : am_fetch 180 1 = some (.getfield 7, 3, 3, 11, 0) := by decide +kernel
theorem fe_180_4 : am_fetch 180 4 = some (.sipush 225, 3, 0, 0, 0) := by decide +kernel
theorem fe_180_7 : am_fetch 180 7 = some (.iconst 3, 1, 0, 0, 0) := by decide +kernel
theorem fe_180_8 : am_fetch 180 8 = some (.iload_n 1, 1, 1, 0, 0) := by decide +kernel
theorem fe_180_9 : am_fetch 180 9 = some (.imul, 1, 0, 0, 0) := by decide +kernel
theorem fe_180_10 : am_fetch 180 10 = some (.iadd, 1, 0, 0, 0) := by decide +kernel
theorem fe_180_11 : am_fetch 180 11 = some (.iload_n 2, 1, 1, 0, 0) := by decide +kernel
theorem fe_180_12 : am_fetch 180 12 = some (.iadd, 1, 0, 0, 0) := by decide +kernel
theorem fe_180_13 : am_fetch 180 13 = some (.iaload, 1, 3, 0, 0) := by decide +kernel
theorem fe_180_14 : am_fetch 180 14 = some (.ireturn, 1, 8, 0, 0) := by decide +kernel
theorem fe_181_0 : am_fetch 181 0 = some (.aload_n 0, 1, 1, 0, 0) := by decide +kernel
theorem fe_181_1 : am_fetch 181 1 = some (.iload_n 1, 1, 1, 0, 0) := by decide +kernel
theorem fe_181_2 : am_fetch 181 2 = some (.ifCond .lt 16, 3, 2, 18, 0) := by decide +kernel
theorem fe_181_5 : am_fetch 181 5 = some (.iload_n 2, 1, 1, 0, 0) := by decide +kernel
theorem fe_181_6 : am_fetch 181 6 = some (.iconst 0, 1, 0, 0, 0) := by decide +kernel
theorem fe_181_7 : am_fetch 181 7 = some (.iconst 2, 1, 0, 0, 0) := by decide +kernel
theorem fe_181_8 : am_fetch 181 8 = some (.invokestatic 36, 3, 7, 26, 0) := by decide +kernel
theorem fe_181_11 : am_fetch 181 11 = some (.ifCond .eq 7, 3, 2, 18, 0) := by decide +kernel
theorem fe_181_14 : am_fetch 181 14 = some (.iconst 0, 1, 0, 0, 0) := by decide +kernel
theorem fe_181_15 : am_fetch 181 15 = some (.goto 4, 3, 2, 19, 0) := by decide +kernel
theorem fe_181_18 : am_fetch 181 18 = some (.iconst 1, 1, 0, 0, 0) := by decide +kernel
theorem fe_181_19 : am_fetch 181 19 = some (.invokevirtual 91, 3, 7, 29, 0) := by decide +kernel
theorem fe_181_22 : am_fetch 181 22 = some (.ifCond .ne 5, 3, 2, 27, 0) := by decide +kernel
theorem fe_181_25 : am_fetch 181 25 = some (.iconst 0, 1, 0, 0, 0) := by decide +kernel
theorem fe_181_26 : am_fetch 181 26 = some (.ireturn, 1, 8, 0, 0) := by decide +kernel
theorem fe_181_27 : am_fetch 181 27 = some (.iload_n 1, 1, 1, 0, 0) := by decide +kernel
theorem fe_181_28 : am_fetch 181 28 = some (.aload_n 0, 1, 1, 0, 0) := by decide +kernel
theorem fe_181_29 : am_fetch 181 29 = some (.getfield 7, 3, 3, 11, 0) := by decide +kernel
theorem fe_181_32 : am_fetch 181 32 = some (.bipush 10, 2, 0, 0, 0) := by decide +kernel
theorem fe_181_34 : am_fetch 181 34 = some (.iaload, 1, 3, 0, 0) := by decide +kernel
theorem fe_181_35 : am_fetch 181 35 = some (.if_icmp .ge 22, 3, 2, 57, 0) := by decide +kernel
theorem fe_181_38 : am_fetch 181 38 = some (.aload_n 0, 1, 1, 0, 0) := by decide +kernel
theorem fe_181_39 : am_fetch 181 39 = some (.aload_n 0, 1, 1, 0, 0) := by decide +kernel
theorem fe_181_40 : am_fetch 181 40 = some (.getfield 7, 3, 3, 11, 0) := by decide +kernel
theorem fe_181_43 : am_fetch 181 43 = some (.bipush 10, 2, 0, 0, 0) := by decide +kernel
theorem fe_181_45 : am_fetch 181 45 = some (.iaload, 1, 3, 0, 0) := by decide +kernel
theorem fe_181_46 : am_fetch 181 46 = some (.iconst 1, 1, 0, 0, 0) := by decide +kernel
theorem fe_181_47 : am_fetch 181 47 = some (.isub, 1, 0, 0, 0) := by decide +kernel
theorem fe_181_48 : am_fetch 181 48 = some (.iload_n 1, 1, 1, 0, 0) := by decide +kernel
theorem fe_181_49 : am_fetch 181 49 = some (.isub, 1, 0, 0, 0) := by decide +kernel
theorem fe_181_50 : am_fetch 181 50 = some (.iload_n 2, 1, 1, 0, 0) := by decide +kernel
theorem fe_181_51 : am_fetch 181 51 = some (.invokevirtual 175, 3, 7, 180, 0) := by decide +kernel
theorem fe_181_54 : am_fetch 181 54 = some (.goto 4, 3, 2, 58, 0) := by decide +kernel
theorem fe_181_57 : am_fetch 181 57 = some (.iconst (-1), 1, 0, 0, 0) := by decide +kernel
theorem fe_181_58 : am_fetch 181 58 = some (.ireturn, 1, 8, 0, 0) := by decide +kernel
theorem fe_182_0 : am_fetch 182 0 = some (.iconst 0, 1, 0, 0, 0) := by decide +kernel
theorem fe_182_1 : am_fetch 182 1 = some (.istore_n 2, 1, 1, 0, 0) := by decide +kernel
theorem fe_182_2 : am_fetch 182 2 = some (.iconst 0, 1, 0, 0, 0) := by decide +kernel
theorem fe_182_3 : am_fetch 182 3 = some (.istore_n 3, 1, 1, 0, 0) := by decide +kernel
theorem fe_182_4 : am_fetch 182 4 = some (.iload_n 3, 1, 1, 0, 0) := by decide +kernel
theorem fe_182_5 : am_fetch 182 5 = some (.aload_n 0, 1, 1, 0, 0) := by decide +kernel
theorem fe_182_6 : am_fetch 182 6 = some (.getfield 23, 3, 3, 3, 0) := by decide +kernel
theorem fe_182_9 : am_fetch 182 9 = some (.getfield 27, 3, 3, 108, 1) := by decide +kernel
theorem fe_182_12 : am_fetch 182 12 = some (.if_icmp .ge 34, 3, 2, 46, 0) := by decide +kernel
theorem fe_182_15 : am_fetch 182 15 = some (.aload_n 0, 1, 1, 0, 0) := by decide +kernel
theorem fe_182_16 : am_fetch 182 16 = some (.getfield 23, 3, 3, 3, 0) := by decide +kernel
theorem fe_182_19 : am_fetch 182 19 = some (.iload_n 3, 1, 1, 0, 0) := by decide +kernel
theorem fe_182_20 : am_fetch 182 20 = some (.invokevirtual 33, 3, 7, 175, 0) := by decide +kernel
theorem fe_182_23 : am_fetch 182 23 = some (.iload_n 1, 1, 1, 0, 0) := by decide +kernel
theorem fe_182_24 : am_fetch 182 24 = some (.if_icmp .ne 16, 3, 2, 40, 0) := by decide +kernel
theorem fe_182_27 : am_fetch 182 27 = some (.iload_n 2, 1, 1, 0, 0) := by decide +kernel
theorem fe_182_28 : am_fetch 182 28 = some (.iconst 1, 1, 0, 0, 0) := by decide +kernel
theorem fe_182_29 : am_fetch 182 29 = some (.aload_n 0, 1, 1, 0, 0) := by decide +kernel
theorem fe_182_30 : am_fetch 182 30 = some (.getfield 23, 3, 3, 3, 0) := by decide +kernel
theorem fe_182_33 : am_fetch 182 33 = some (.iload_n 3, 1, 1, 0, 0) := by decide +kernel
theorem fe_182_34 : am_fetch 182 34 = some (.invokevirtual 37, 3, 7, 177, 0) := by decide +kernel
theorem fe_182_37 : am_fetch 182 37 = some (.ishl, 1, 0, 0, 0) := by decide +kernel
theorem fe_182_38 : am_fetch 182 38 = some (.ior, 1, 0, 0, 0) := by decide +kernel
theorem fe_182_39 : am_fetch 182 39 = some (.istore_n 2, 1, 1, 0, 0) := by decide +kernel
theorem fe_182_40 : am_fetch 182 40 = some (.iinc 3 1, 3, 1, 0, 0) := by decide +kernel
theorem fe_182_43 : am_fetch 182 43 = some (.goto (-39), 3, 2, 4, 0) := by decide +kernel
theorem fe_182_46 : am_fetch 182 46 = some (.iload_n 2, 1, 1, 0, 0) := by decide +kernel
theorem fe_182_47 : am_fetch 182 47 = some (.ireturn, 1, 8, 0, 0) := by decide +kernel
theorem fe_183_0 : am_fetch 183 0 = some (.iload_n 1, 1, 1, 0, 0) := by decide +kernel
theorem fe_183_1 : am_fetch 183 1 = some (.ifCond .ge 14, 3, 2, 15, 0) := by decide +kernel
theorem fe_183_4 : am_fetch 183 4 = some (.new 69, 3, 9, 0, 0) := by decide +kernel
theorem fe_183_7 : am_fetch 183 7 = some (.dup, 1, 0, 0, 0) := by decide +kernel
theorem fe_183_15 : am_fetch 183 15 = some (.aload_n 0, 1, 1, 0, 0) := by decide +kernel
theorem fe_183_16 : am_fetch 183 16 = some (.getfield 38, 3, 3, 10, 2) := by decide +kernel
theorem fe_183_19 : am_fetch 183 19 = some (.iload_n 1, 1, 1, 0, 0) := by decide +kernel
theorem fe_183_20 : am_fetch 183 20 = some (.invokevirtual 333, 3, 7, 182, 0) := by decide +kernel
theorem fe_183_23 : am_fetch 183 23 = some (.ireturn, 1, 8, 0, 0) := by decide +kernel
theorem fe_184_0 : am_fetch 184 0 = some (.aload_n 2, 1, 1, 0, 0) := by decide +kernel
theorem fe_184_1 : am_fetch 184 1 = some (.iconst 0, 1, 0, 0, 0) := by decide +kernel
theorem fe_184_2 : am_fetch 184 2 = some (.aload_n 0, 1, 1, 0, 0) := by decide +kernel
theorem fe_184_3 : am_fetch 184 3 = some (.iload_n 1, 1, 1, 0, 0) := by decide +kernel
theorem fe_184_4 : am_fetch 184 4 = some (.invokevirtual 73, 3, 7, 183, 0) := by decide +kernel
theorem fe_184_7 : am_fetch 184 7 = some (.i2l, 1, 0, 0, 0) := by decide +kernel
theorem fe_184_8 : am_fetch 184 8 = some (.lastore, 1, 4, 0, 0) := by decide +kernel
theorem fe_184_9 : am_fetch 184 9 = some (.goto 6, 3, 2, 15, 0) := by decide +kernel
theorem fe_184_12 : am_fetch 184 12 = some (.astore_n 3, 1, 1, 0, 0) := by decide +kernel
theorem fe_184_13 : am_fetch 184 13 = some (.iconst 1, 1, 0, 0, 0) := by decide +kernel
theorem fe_184_14 : am_fetch 184 14 = some (.ireturn, 1, 8, 0, 0) := by decide +kernel
theorem fe_184_15 : am_fetch 184 15 = some (.iconst 0, 1, 0, 0, 0) := by decide +kernel
theorem fe_184_16 : am_fetch 184 16 = some (.ireturn, 1, 8, 0, 0) := by decide +kernel
theorem fe_185_0 : am_fetch 185 0 = some (.iconst 0, 1, 0, 0, 0) := by decide +kernel
theorem fe_185_1 : am_fetch 185 1 = some (.istore_n 2, 1, 1, 0, 0) := by decide +kernel
theorem fe_185_2 : am_fetch 185 2 = some (.iconst 0, 1, 0, 0, 0) := by decide +kernel
theorem fe_185_3 : am_fetch 185 3 = some (.istore_n 3, 1, 1, 0, 0) := by decide +kernel
theorem fe_185_4 : am_fetch 185 4 = some (.iload_n 3, 1, 1, 0, 0) := by decide +kernel
theorem fe_185_5 : am_fetch 185 5 = some (.aload_n 0, 1, 1, 0, 0) := by decide +kernel
theorem fe_185_6 : am_fetch 185 6 = some (.getfield 7, 3, 3, 11, 0) := by decide +kernel
theorem fe_185_9 : am_fetch 185 9 = some (.bipush 10, 2, 0, 0, 0) := by decide +kernel
theorem fe_185_11 : am_fetch 185 11 = some (.iaload, 1, 3, 0, 0) := by decide +kernel
theorem fe_185_12 : am_fetch 185 12 = some (.if_icmp .ge 34, 3, 2, 46, 0) := by decide +kernel
theorem fe_185_15 : am_fetch 185 15 = some (.iload_n 2, 1, 1, 0, 0) := by decide +kernel
theorem fe_185_16 : am_fetch 185 16 = some (.aload_n 0, 1, 1, 0, 0) := by decide +kernel
theorem fe_185_17 : am_fetch 185 17 = some (.iload_n 3, 1, 1, 0, 0) := by decide +kernel
theorem fe_185_18 : am_fetch 185 18 = some (.iconst 0, 1, 0, 0, 0) := by decide +kernel
theorem fe_185_19 : am_fetch 185 19 = some (.invokevirtual 175, 3, 7, 180, 0) := by decide +kernel
theorem fe_185_22 : am_fetch 185 22 = some (.iload_n 1, 1, 1, 0, 0) := by decide +kernel
theorem fe_185_23 : am_fetch 185 23 = some (.if_icmp .ne 14, 3, 2, 37, 0) := by decide +kernel
theorem fe_185_26 : am_fetch 185 26 = some (.iconst 1, 1, 0, 0, 0) := by decide +kernel
theorem fe_185_27 : am_fetch 185 27 = some (.aload_n 0, 1, 1, 0, 0) := by decide +kernel
theorem fe_185_28 : am_fetch 185 28 = some (.iload_n 3, 1, 1, 0, 0) := by decide +kernel
theorem fe_185_29 : am_fetch 185 29 = some (.iconst 2, 1, 0, 0, 0) := by decide +kernel
theorem fe_185_30 : am_fetch 185 30 = some (.invokevirtual 175, 3, 7, 180, 0) := by decide +kernel
theorem fe_185_33 : am_fetch 185 33 = some (.ishl, 1, 0, 0, 0) := by decide +kernel
theorem fe_185_34 : am_fetch 185 34 = some (.goto 4, 3, 2, 38, 0) := by decide +kernel
theorem fe_185_37 : am_fetch 185 37 = some (.iconst 0, 1, 0, 0, 0) := by decide +kernel
theorem fe_185_38 : am_fetch 185 38 = some (.ior, 1, 0, 0, 0) := by decide +kernel
theorem fe_185_39 : am_fetch 185 39 = some (.istore_n 2, 1, 1, 0, 0) := by decide +kernel
theorem fe_185_40 : am_fetch 185 40 = some (.iinc 3 1, 3, 1, 0, 0) := by decide +kernel
theorem fe_185_43 : am_fetch 185 43 = some (.goto (-39), 3, 2, 4, 0) := by decide +kernel
theorem fe_185_46 : am_fetch 185 46 = some (.iload_n 2, 1, 1, 0, 0) := by decide +kernel
theorem fe_185_47 : am_fetch 185 47 = some (.ireturn, 1, 8, 0, 0) := by decide +kernel
theorem fe_186_0 : am_fetch 186 0 = some (.aload_n 0, 1, 1, 0, 0) := by decide +kernel
theorem fe_186_1 : am_fetch 186 1 = some (.iload_n 1, 1, 1, 0, 0) := by decide +kernel
theorem fe_186_2 : am_fetch 186 2 = some (.ifCond .ge 7, 3, 2, 9, 0) := by decide +kernel
theorem fe_186_5 : am_fetch 186 5 = some (.iconst 1, 1, 0, 0, 0) := by decide +kernel
theorem fe_186_6 : am_fetch 186 6 = some (.goto 4, 3, 2, 10, 0) := by decide +kernel
theorem fe_186_9 : am_fetch 186 9 = some (.iconst 0, 1, 0, 0, 0) := by decide +kernel
theorem fe_186_10 : am_fetch 186 10 = some (.invokevirtual 91, 3, 7, 29, 0) := by decide +kernel
theorem fe_186_13 : am_fetch 186 13 = some (.ifCond .eq 11, 3, 2, 24, 0) := by decide +kernel
theorem fe_186_16 : am_fetch 186 16 = some (.aload_n 0, 1, 1, 0, 0) := by decide +kernel
theorem fe_186_17 : am_fetch 186 17 = some (.iload_n 1, 1, 1, 0, 0) := by decide +kernel
theorem fe_186_18 : am_fetch 186 18 = some (.invokevirtual 178, 3, 7, 185, 0) := by decide +kernel
theorem fe_186_21 : am_fetch 186 21 = some (.goto 4, 3, 2, 25, 0) := by decide +kernel
theorem fe_186_24 : am_fetch 186 24 = some (.iconst 0, 1, 0, 0, 0) := by decide +kernel
theorem fe_186_25 : am_fetch 186 25 = some (.ireturn, 1, 8, 0, 0) := by decide +kernel
theorem fe_187_0 : am_fetch 187 0 = some (.iconst 0, 1, 0, 0, 0) := by decide +kernel
theorem fe_187_1 : am_fetch 187 1 = some (.istore_n 1, 1, 1, 0, 0) := by decide +kernel
theorem fe_187_2 : am_fetch 187 2 = some (.iload_n 1, 1, 1, 0, 0) := by decide +kernel
theorem fe_187_3 : am_fetch 187 3 = some (.aload_n 0, 1, 1, 0, 0) := by decide +kernel
theorem fe_187_4 : am_fetch 187 4 = some (.getfield 13, 3, 3, 6, 0) := by decide +kernel
theorem fe_187_7 : am_fetch 187 7 = some (.arraylength, 1, 3, 0, 0) := by decide +kernel
theorem fe_187_8 : am_fetch 187 8 = some (.if_icmp .ge 16, 3, 2, 24, 0) := by decide +kernel
theorem fe_187_11 : am_fetch 187 11 = some (.aload_n 0, 1, 1, 0, 0) := by decide +kernel
theorem fe_187_12 : am_fetch 187 12 = some (.getfield 13, 3, 3, 6, 0) := by decide +kernel
theorem fe_187_15 : am_fetch 187 15 = some (.iload_n 1, 1, 1, 0, 0) := by decide +kernel
theorem fe_187_16 : am_fetch 187 16 = some (.iconst 0, 1, 0, 0, 0) := by decide +kernel
theorem fe_187_17 : am_fetch 187 17 = some (.iastore, 1, 4, 0, 0) := by decide +kernel
theorem fe_187_18 : am_fetch 187 18 = some (.iinc 1 1, 3, 1, 0, 0) := by decide +kernel
theorem fe_187_21 : am_fetch 187 21 = some (.goto (-19), 3, 2, 2, 0) := by decide +kernel
theorem fe_187_24 : am_fetch 187 24 = some (.return_, 1, 8, 0, 0) := by decide +kernel
theorem fe_188_0 : am_fetch 188 0 = some (.aload_n 0, 1, 1, 0, 0) := by decide +kernel
theorem fe_188_1 : am_fetch 188 1 = some (.getfield 14, 3, 3, 3, 1) := by decide +kernel
theorem fe_188_4 : am_fetch 188 4 = some (.invokevirtual 40, 3, 7, 187, 0) := by decide +kernel
theorem fe_188_7 : am_fetch 188 7 = some (.iconst 0, 1, 0, 0, 0) := by decide +kernel
theorem fe_188_8 : am_fetch 188 8 = some (.istore_n 1, 1, 1, 0, 0) := by decide +kernel
theorem fe_188_9 : am_fetch 188 9 = some (.iload_n 1, 1, 1, 0, 0) := by decide +kernel
theorem fe_188_10 : am_fetch 188 10 = some (.aload_n 0, 1, 1, 0, 0) := by decide +kernel
theorem fe_188_11 : am_fetch 188 11 = some (.getfield 23, 3, 3, 3, 0) := by decide +kernel
theorem fe_188_14 : am_fetch 188 14 = some (.getfield 27, 3, 3, 108, 1) := by decide +kernel
theorem fe_188_17 : am_fetch 188 17 = some (.if_icmp .ge 25, 3, 2, 42, 0) := by decide +kernel
theorem fe_188_20 : am_fetch 188 20 = some (.aload_n 0, 1, 1, 0, 0) := by decide +kernel
theorem fe_188_21 : am_fetch 188 21 = some (.getfield 14, 3, 3, 3, 1) := by decide +kernel
theorem fe_188_24 : am_fetch 188 24 = some (.aload_n 0, 1, 1, 0, 0) := by decide +kernel
theorem fe_188_25 : am_fetch 188 25 = some (.getfield 23, 3, 3, 3, 0) := by decide +kernel
theorem fe_188_28 : am_fetch 188 28 = some (.iload_n 1, 1, 1, 0, 0) := by decide +kernel
theorem fe_188_29 : am_fetch 188 29 = some (.invokevirtual 37, 3, 7, 177, 0) := by decide +kernel
theorem fe_188_32 : am_fetch 188 32 = some (.iconst 1, 1, 0, 0, 0) := by decide +kernel
theorem fe_188_33 : am_fetch 188 33 = some (.invokevirtual 43, 3, 7, 55, 0) := by decide +kernel
theorem fe_188_36 : am_fetch 188 36 = some (.iinc 1 1, 3, 1, 0, 0) := by decide +kernel
theorem fe_188_39 : am_fetch 188 39 = some (.goto (-30), 3, 2, 9, 0) := by decide +kernel
theorem fe_188_42 : am_fetch 188 42 = some (.return_, 1, 8, 0, 0) := by decide +kernel
theorem fe_189_0 : am_fetch 189 0 = some (.aload_n 0, 1, 1, 0, 0) := by decide +kernel
theorem fe_189_1 : am_fetch 189 1 = some (.invokevirtual 47, 3, 7, 188, 0) := by decide +kernel
theorem fe_189_4 : am_fetch 189 4 = some (.iconst 0, 1, 0, 0, 0) := by decide +kernel
theorem fe_189_5 : am_fetch 189 5 = some (.istore_n 1, 1, 1, 0, 0) := by decide +kernel
theorem fe_189_6 : am_fetch 189 6 = some (.iconst 0, 1, 0, 0, 0) := by decide +kernel
theorem fe_189_7 : am_fetch 189 7 = some (.istore_n 2, 1, 1, 0, 0) := by decide +kernel
theorem fe_189_8 : am_fetch 189 8 = some (.iload_n 2, 1, 1, 0, 0) := by decide +kernel
theorem fe_189_9 : am_fetch 189 9 = some (.bipush 31, 2, 0, 0, 0) := by decide +kernel
theorem fe_189_11 : am_fetch 189 11 = some (.if_icmp .ge 28, 3, 2, 39, 0) := by decide +kernel
theorem fe_189_14 : am_fetch 189 14 = some (.iload_n 1, 1, 1, 0, 0) := by decide +kernel
theorem fe_189_15 : am_fetch 189 15 = some (.aload_n 0, 1, 1, 0, 0) := by decide +kernel
theorem fe_189_16 : am_fetch 189 16 = some (.getfield 14, 3, 3, 3, 1) := by decide +kernel
theorem fe_189_19 : am_fetch 189 19 = some (.iload_n 2, 1, 1, 0, 0) := by decide +kernel
theorem fe_189_20 : am_fetch 189 20 = some (.invokevirtual 50, 3, 7, 39, 0) := by decide +kernel
theorem fe_189_23 : am_fetch 189 23 = some (.ifCond .le 7, 3, 2, 30, 0) := by decide +kernel
theorem fe_189_26 : am_fetch 189 26 = some (.iconst 1, 1, 0, 0, 0) := by decide +kernel
theorem fe_189_27 : am_fetch 189 27 = some (.goto 4, 3, 2, 31, 0) := by decide +kernel
theorem fe_189_30 : am_fetch 189 30 = some (.iconst 0, 1, 0, 0, 0) := by decide +kernel
theorem fe_189_31 : am_fetch 189 31 = some (.iadd, 1, 0, 0, 0) := by decide +kernel
theorem fe_189_32 : am_fetch 189 32 = some (.istore_n 1, 1, 1, 0, 0) := by decide +kernel
theorem fe_189_33 : am_fetch 189 33 = some (.iinc 2 1, 3, 1, 0, 0) := by decide +kernel
theorem fe_189_36 : am_fetch 189 36 = some (.goto (-28), 3, 2, 8, 0) := by decide +kernel
theorem fe_189_39 : am_fetch 189 39 = some (.iload_n 1, 1, 1, 0, 0) := by decide +kernel
theorem fe_189_40 : am_fetch 189 40 = some (.ireturn, 1, 8, 0, 0) := by decide +kernel
theorem fe_190_0 : am_fetch 190 0 = some (.aload_n 0, 1, 1, 0, 0) := by decide +kernel
theorem fe_190_1 : am_fetch 190 1 = some (.getfield 23, 3, 3, 3, 0) := by decide +kernel
theorem fe_190_4 : am_fetch 190 4 = some (.getfield 27, 3, 3, 108, 1) := by decide +kernel
theorem fe_190_7 : am_fetch 190 7 = some (.ifCond .ne 5, 3, 2, 12, 0) := by decide +kernel
theorem fe_190_10 : am_fetch 190 10 = some (.iconst (-1), 1, 0, 0, 0) := by decide +kernel
theorem fe_190_11 : am_fetch 190 11 = some (.ireturn, 1, 8, 0, 0) := by decide +kernel
theorem fe_190_12 : am_fetch 190 12 = some (.aload_n 0, 1, 1, 0, 0) := by decide +kernel
theorem fe_190_13 : am_fetch 190 13 = some (.invokevirtual 47, 3, 7, 188, 0) := by decide +kernel
theorem fe_190_16 : am_fetch 190 16 = some (.iconst 0, 1, 0, 0, 0) := by decide +kernel
theorem fe_190_17 : am_fetch 190 17 = some (.istore_n 1, 1, 1, 0, 0) := by decide +kernel
theorem fe_190_18 : am_fetch 190 18 = some (.iconst 1, 1, 0, 0, 0) := by decide +kernel
theorem fe_190_19 : am_fetch 190 19 = some (.istore_n 2, 1, 1, 0, 0) := by decide +kernel
theorem fe_190_20 : am_fetch 190 20 = some (.iload_n 2, 1, 1, 0, 0) := by decide +kernel
theorem fe_190_21 : am_fetch 190 21 = some (.bipush 31, 2, 0, 0, 0) := by decide +kernel
theorem fe_190_23 : am_fetch 190 23 = some (.if_icmp .ge 30, 3, 2, 53, 0) := by decide +kernel
theorem fe_190_26 : am_fetch 190 26 = some (.aload_n 0, 1, 1, 0, 0) := by decide +kernel
theorem fe_190_27 : am_fetch 190 27 = some (.getfield 14, 3, 3, 3, 1) := by decide +kernel
theorem fe_190_30 : am_fetch 190 30 = some (.iload_n 2, 1, 1, 0, 0) := by decide +kernel
theorem fe_190_31 : am_fetch 190 31 = some (.invokevirtual 50, 3, 7, 39, 0) := by decide +kernel
theorem fe_190_34 : am_fetch 190 34 = some (.aload_n 0, 1, 1, 0, 0) := by decide +kernel
theorem fe_190_35 : am_fetch 190 35 = some (.getfield 14, 3, 3, 3, 1) := by decide +kernel
theorem fe_190_38 : am_fetch 190 38 = some (.iload_n 1, 1, 1, 0, 0) := by decide +kernel
theorem fe_190_39 : am_fetch 190 39 = some (.invokevirtual 50, 3, 7, 39, 0) := by decide +kernel
theorem fe_190_42 : am_fetch 190 42 = some (.if_icmp .le 5, 3, 2, 47, 0) := by decide +kernel
theorem fe_190_45 : am_fetch 190 45 = some (.iload_n 2, 1, 1, 0, 0) := by decide +kernel
theorem fe_190_46 : am_fetch 190 46 = some (.istore_n 1, 1, 1, 0, 0) := by decide +kernel
theorem fe_190_47 : am_fetch 190 47 = some (.iinc 2 1, 3, 1, 0, 0) := by decide +kernel
theorem fe_190_50 : am_fetch 190 50 = some (.goto (-30), 3, 2, 20, 0) := by decide +kernel
theorem fe_190_53 : am_fetch 190 53 = some (.iload_n 1, 1, 1, 0, 0) := by decide +kernel
theorem fe_190_54 : am_fetch 190 54 = some (.ireturn, 1, 8, 0, 0) := by decide +kernel
theorem fe_191_0 : am_fetch 191 0 = some (.aload_n 0, 1, 1, 0, 0) := by decide +kernel
theorem fe_191_1 : am_fetch 191 1 = some (.iconst 0, 1, 0, 0, 0) := by decide +kernel
theorem fe_191_2 : am_fetch 191 2 = some (.putfield 53, 3, 4, 3, 3) := by decide +kernel
theorem fe_191_5 : am_fetch 191 5 = some (.iconst 0, 1, 0, 0, 0) := by decide +kernel
theorem fe_191_6 : am_fetch 191 6 = some (.istore_n 1, 1, 1, 0, 0) := by decide +kernel
theorem fe_191_7 : am_fetch 191 7 = some (.iconst 0, 1, 0, 0, 0) := by decide +kernel
theorem fe_191_8 : am_fetch 191 8 = some (.istore_n 2, 1, 1, 0, 0) := by decide +kernel
theorem fe_191_9 : am_fetch 191 9 = some (.iload_n 2, 1, 1, 0, 0) := by decide +kernel
theorem fe_191_10 : am_fetch 191 10 = some (.aload_n 0, 1, 1, 0, 0) := by decide +kernel
theorem fe_191_11 : am_fetch 191 11 = some (.getfield 23, 3, 3, 3, 0) := by decide +kernel
theorem fe_191_14 : am_fetch 191 14 = some (.getfield 27, 3, 3, 108, 1) := by decide +kernel
theorem fe_191_17 : am_fetch 191 17 = some (.if_icmp .ge 80, 3, 2, 97, 0) := by decide +kernel
theorem fe_191_20 : am_fetch 191 20 = some (.iload_n 1, 1, 1, 0, 0) := by decide +kernel
theorem fe_191_21 : am_fetch 191 21 = some (.iconst 1, 1, 0, 0, 0) := by decide +kernel
theorem fe_191_22 : am_fetch 191 22 = some (.aload_n 0, 1, 1, 0, 0) := by decide +kernel
theorem fe_191_23 : am_fetch 191 23 = some (.getfield 23, 3, 3, 3, 0) := by decide +kernel
theorem fe_191_26 : am_fetch 191 26 = some (.iload_n 2, 1, 1, 0, 0) := by decide +kernel
theorem fe_191_27 : am_fetch 191 27 = some (.invokevirtual 37, 3, 7, 177, 0) := by decide +kernel
theorem fe_191_30 : am_fetch 191 30 = some (.ishl, 1, 0, 0, 0) := by decide +kernel
theorem fe_191_31 : am_fetch 191 31 = some (.ior, 1, 0, 0, 0) := by decide +kernel
theorem fe_191_32 : am_fetch 191 32 = some (.istore_n 1, 1, 1, 0, 0) := by decide +kernel
theorem fe_191_33 : am_fetch 191 33 = some (.iload_n 2, 1, 1, 0, 0) := by decide +kernel
theorem fe_191_34 : am_fetch 191 34 = some (.aload_n 0, 1, 1, 0, 0) := by decide +kernel
theorem fe_191_35 : am_fetch 191 35 = some (.getfield 23, 3, 3, 3, 0) := by decide +kernel
theorem fe_191_38 : am_fetch 191 38 = some (.getfield 27, 3, 3, 108, 1) := by decide +kernel
theorem fe_191_41 : am_fetch 191 41 = some (.iconst 1, 1, 0, 0, 0) := by decide +kernel
theorem fe_191_42 : am_fetch 191 42 = some (.isub, 1, 0, 0, 0) := by decide +kernel
theorem fe_191_43 : am_fetch 191 43 = some (.if_icmp .eq 24, 3, 2, 67, 0) := by decide +kernel
theorem fe_191_46 : am_fetch 191 46 = some (.aload_n 0, 1, 1, 0, 0) := by decide +kernel
theorem fe_191_47 : am_fetch 191 47 = some (.getfield 23, 3, 3, 3, 0) := by decide +kernel
theorem fe_191_50 : am_fetch 191 50 = some (.iload_n 2, 1, 1, 0, 0) := by decide +kernel
theorem fe_191_51 : am_fetch 191 51 = some (.iconst 1, 1, 0, 0, 0) := by decide +kernel
theorem fe_191_52 : am_fetch 191 52 = some (.iadd, 1, 0, 0, 0) := by decide +kernel
theorem fe_191_53 : am_fetch 191 53 = some (.invokevirtual 33, 3, 7, 175, 0) := by decide +kernel
theorem fe_191_56 : am_fetch 191 56 = some (.aload_n 0, 1, 1, 0, 0) := by decide +kernel
theorem fe_191_57 : am_fetch 191 57 = some (.getfield 23, 3, 3, 3, 0) := by decide +kernel
theorem fe_191_60 : am_fetch 191 60 = some (.iload_n 2, 1, 1, 0, 0) := by decide +kernel
theorem fe_191_61 : am_fetch 191 61 = some (.invokevirtual 33, 3, 7, 175, 0) := by decide +kernel
theorem fe_191_64 : am_fetch 191 64 = some (.if_icmp .eq 27, 3, 2, 91, 0) := by decide +kernel
theorem fe_191_67 : am_fetch 191 67 = some (.aload_n 0, 1, 1, 0, 0) := by decide +kernel
theorem fe_191_68 : am_fetch 191 68 = some (.getfield 20, 3, 3, 3, 2) := by decide +kernel
theorem fe_191_71 : am_fetch 191 71 = some (.aload_n 0, 1, 1, 0, 0) := by decide +kernel
theorem fe_191_72 : am_fetch 191 72 = some (.getfield 53, 3, 3, 3, 3) := by decide +kernel
theorem fe_191_75 : am_fetch 191 75 = some (.iload_n 1, 1, 1, 0, 0) := by decide +kernel
theorem fe_191_76 : am_fetch 191 76 = some (.invokevirtual 56, 3, 7, 4, 0) := by decide +kernel
theorem fe_191_79 : am_fetch 191 79 = some (.aload_n 0, 1, 1, 0, 0) := by decide +kernel
theorem fe_191_80 : am_fetch 191 80 = some (.dup, 1, 0, 0, 0) := by decide +kernel
theorem fe_191_81 : am_fetch 191 81 = some (.getfield 53, 3, 3, 3, 3) := by decide +kernel
theorem fe_191_84 : am_fetch 191 84 = some (.iconst 1, 1, 0, 0, 0) := by decide +kernel
theorem fe_191_85 : am_fetch 191 85 = some (.iadd, 1, 0, 0, 0) := by decide +kernel
theorem fe_191_86 : am_fetch 191 86 = some (.putfield 53, 3, 4, 3, 3) := by decide +kernel
theorem fe_191_89 : am_fetch 191 89 = some (.iconst 0, 1, 0, 0, 0) := by decide +kernel
theorem fe_191_90 : am_fetch 191 90 = some (.istore_n 1, 1, 1, 0, 0) := by decide +kernel
theorem fe_191_91 : am_fetch 191 91 = some (.iinc 2 1, 3, 1, 0, 0) := by decide +kernel
theorem fe_191_94 : am_fetch 191 94 = some (.goto (-85), 3, 2, 9, 0) := by decide +kernel
theorem fe_191_97 : am_fetch 191 97 = some (.return_, 1, 8, 0, 0) := by decide +kernel
theorem fe_192_0 : am_fetch 192 0 = some (.iconst 0, 1, 0, 0, 0) := by decide +kernel
theorem fe_192_1 : am_fetch 192 1 = some (.istore_n 2, 1, 1, 0, 0) := by decide +kernel
theorem fe_192_2 : am_fetch 192 2 = some (.iload_n 2, 1, 1, 0, 0) := by decide +kernel
theorem fe_192_3 : am_fetch 192 3 = some (.iload_n 1, 1, 1, 0, 0) := by decide +kernel
theorem fe_192_4 : am_fetch 192 4 = some (.if_icmp .ge 30, 3, 2, 34, 0) := by decide +kernel
theorem fe_192_7 : am_fetch 192 7 = some (.aload_n 0, 1, 1, 0, 0) := by decide +kernel
theorem fe_192_8 : am_fetch 192 8 = some (.getfield 20, 3, 3, 3, 2) := by decide +kernel
theorem fe_192_11 : am_fetch 192 11 = some (.iload_n 2, 1, 1, 0, 0) := by decide +kernel
theorem fe_192_12 : am_fetch 192 12 = some (.invokevirtual 50, 3, 7, 39, 0) := by decide +kernel
theorem fe_192_15 : am_fetch 192 15 = some (.aload_n 0, 1, 1, 0, 0) := by decide +kernel
theorem fe_192_16 : am_fetch 192 16 = some (.getfield 20, 3, 3, 3, 2) := by decide +kernel
theorem fe_192_19 : am_fetch 192 19 = some (.iload_n 1, 1, 1, 0, 0) := by decide +kernel
theorem fe_192_20 : am_fetch 192 20 = some (.invokevirtual 50, 3, 7, 39, 0) := by decide +kernel
theorem fe_192_23 : am_fetch 192 23 = some (.if_icmp .ne 5, 3, 2, 28, 0) := by decide +kernel
theorem fe_192_26 : am_fetch 192 26 = some (.iconst 0, 1, 0, 0, 0) := by decide +kernel
theorem fe_192_27 : am_fetch 192 27 = some (.ireturn, 1, 8, 0, 0) := by decide +kernel
theorem fe_192_28 : am_fetch 192 28 = some (.iinc 2 1, 3, 1, 0, 0) := by decide +kernel
theorem fe_192_31 : am_fetch 192 31 = some (.goto (-29), 3, 2, 2, 0) := by decide +kernel
theorem fe_192_34 : am_fetch 192 34 = some (.iconst 1, 1, 0, 0, 0) := by decide +kernel
theorem fe_192_35 : am_fetch 192 35 = some (.ireturn, 1, 8, 0, 0) := by decide +kernel
theorem fe_193_0 : am_fetch 193 0 = some (.aload_n 0, 1, 1, 0, 0) := by decide +kernel
theorem fe_193_1 : am_fetch 193 1 = some (.invokevirtual 59, 3, 7, 191, 0) := by decide +kernel
theorem fe_193_4 : am_fetch 193 4 = some (.iconst 0, 1, 0, 0, 0) := by decide +kernel
theorem fe_193_5 : am_fetch 193 5 = some (.istore_n 1, 1, 1, 0, 0) := by decide +kernel
theorem fe_193_6 : am_fetch 193 6 = some (.iconst 0, 1, 0, 0, 0) := by decide +kernel
theorem fe_193_7 : am_fetch 193 7 = some (.istore_n 2, 1, 1, 0, 0) := by decide +kernel
theorem fe_193_8 : am_fetch 193 8 = some (.iload_n 2, 1, 1, 0, 0) := by decide +kernel
theorem fe_193_9 : am_fetch 193 9 = some (.aload_n 0, 1, 1, 0, 0) := by decide +kernel
theorem fe_193_10 : am_fetch 193 10 = some (.getfield 53, 3, 3, 3, 3) := by decide +kernel
theorem fe_193_13 : am_fetch 193 13 = some (.if_icmp .ge 25, 3, 2, 38, 0) := by decide +kernel
theorem fe_193_16 : am_fetch 193 16 = some (.iload_n 1, 1, 1, 0, 0) := by decide +kernel
theorem fe_193_17 : am_fetch 193 17 = some (.aload_n 0, 1, 1, 0, 0) := by decide +kernel
theorem fe_193_18 : am_fetch 193 18 = some (.iload_n 2, 1, 1, 0, 0) := by decide +kernel
theorem fe_193_19 : am_fetch 193 19 = some (.invokevirtual 62, 3, 7, 192, 0) := by decide +kernel
theorem fe_193_22 : am_fetch 193 22 = some (.ifCond .eq 7, 3, 2, 29, 0) := by decide +kernel
theorem fe_193_25 : am_fetch 193 25 = some (.iconst 1, 1, 0, 0, 0) := by decide +kernel
theorem fe_193_26 : am_fetch 193 26 = some (.goto 4, 3, 2, 30, 0) := by decide +kernel
theorem fe_193_29 : am_fetch 193 29 = some (.iconst 0, 1, 0, 0, 0) := by decide +kernel
theorem fe_193_30 : am_fetch 193 30 = some (.iadd, 1, 0, 0, 0) := by decide +kernel
theorem fe_193_31 : am_fetch 193 31 = some (.istore_n 1, 1, 1, 0, 0) := by decide +kernel
theorem fe_193_32 : am_fetch 193 32 = some (.iinc 2 1, 3, 1, 0, 0) := by decide +kernel
theorem fe_193_35 : am_fetch 193 35 = some (.goto (-27), 3, 2, 8, 0) := by decide +kernel
theorem fe_193_38 : am_fetch 193 38 = some (.iload_n 1, 1, 1, 0, 0) := by decide +kernel
theorem fe_193_39 : am_fetch 193 39 = some (.ireturn, 1, 8, 0, 0) := by decide +kernel
theorem fe_194_0 : am_fetch 194 0 = some (.iload_n 0, 1, 1, 0, 0) := by decide +kernel
theorem fe_194_1 : am_fetch 194 1 = some (.iload_n 0, 1, 1, 0, 0) := by decide +kernel
theorem fe_194_2 : am_fetch 194 2 = some (.iconst 1, 1, 0, 0, 0) := by decide +kernel
theorem fe_194_3 : am_fetch 194 3 = some (.iushr, 1, 0, 0, 0) := by decide +kernel
theorem fe_194_4 : am_fetch 194 4 = some (.ldc_w 265, 3, 6, 5, 1431655765) := by decide +kernel
theorem fe_194_7 : am_fetch 194 7 = some (.iand, 1, 0, 0, 0) := by decide +kernel
theorem fe_194_8 : am_fetch 194 8 = some (.isub, 1, 0, 0, 0) := by decide +kernel
theorem fe_194_9 : am_fetch 194 9 = some (.istore_n 0, 1, 1, 0, 0) := by decide +kernel
theorem fe_194_10 : am_fetch 194 10 = some (.iload_n 0, 1, 1, 0, 0) := by decide +kernel
theorem fe_194_11 : am_fetch 194 11 = some (.ldc_w 266, 3, 6, 5, 858993459) := by decide +kernel
theorem fe_194_14 : am_fetch 194 14 = some (.iand, 1, 0, 0, 0) := by decide +kernel
theorem fe_194_15 : am_fetch 194 15 = some (.iload_n 0, 1, 1, 0, 0) := by decide +kernel
theorem fe_194_16 : am_fetch 194 16 = some (.iconst 2, 1, 0, 0, 0) := by decide +kernel
theorem fe_194_17 : am_fetch 194 17 = some (.iushr, 1, 0, 0, 0) := by decide +kernel
theorem fe_194_18 : am_fetch 194 18 = some (.ldc_w 266, 3, 6, 5, 858993459) := by decide +kernel
theorem fe_194_21 : am_fetch 194 21 = some (.iand, 1, 0, 0, 0) := by decide +kernel
theorem fe_194_22 : am_fetch 194 22 = some (.iadd, 1, 0, 0, 0) := by decide +kernel
theorem fe_194_23 : am_fetch 194 23 = some (.istore_n 0, 1, 1, 0, 0) := by decide +kernel
theorem fe_194_24 : am_fetch 194 24 = some (.iload_n 0, 1, 1, 0, 0) := by decide +kernel
theorem fe_194_25 : am_fetch 194 25 = some (.iload_n 0, 1, 1, 0, 0) := by decide +kernel
theorem fe_194_26 : am_fetch 194 26 = some (.iconst 4, 1, 0, 0, 0) := by decide +kernel
theorem fe_194_27 : am_fetch 194 27 = some (.iushr, 1, 0, 0, 0) := by decide +kernel
theorem fe_194_28 : am_fetch 194 28 = some (.iadd, 1, 0, 0, 0) := by decide +kernel
theorem fe_194_29 : am_fetch 194 29 = some (.ldc_w 267, 3, 6, 5, 252645135) := by decide +kernel
theorem fe_194_32 : am_fetch 194 32 = some (.iand, 1, 0, 0, 0) := by decide +kernel
theorem fe_194_33 : am_fetch 194 33 = some (.istore_n 0, 1, 1, 0, 0) := by decide +kernel
theorem fe_194_34 : am_fetch 194 34 = some (.iload_n 0, 1, 1, 0, 0) := by decide +kernel
theorem fe_194_35 : am_fetch 194 35 = some (.iload_n 0, 1, 1, 0, 0) := by decide +kernel
theorem fe_194_36 : am_fetch 194 36 = some (.bipush 8, 2, 0, 0, 0) := by decide +kernel
theorem fe_194_38 : am_fetch 194 38 = some (.iushr, 1, 0, 0, 0) := by decide +kernel
theorem fe_194_39 : am_fetch 194 39 = some (.iadd, 1, 0, 0, 0) := by decide +kernel
theorem fe_194_40 : am_fetch 194 40 = some (.istore_n 0, 1, 1, 0, 0) := by decide +kernel
theorem fe_194_41 : am_fetch 194 41 = some (.iload_n 0, 1, 1, 0, 0) := by decide +kernel
theorem fe_194_42 : am_fetch 194 42 = some (.iload_n 0, 1, 1, 0, 0) := by decide +kernel
theorem fe_194_43 : am_fetch 194 43 = some (.bipush 16, 2, 0, 0, 0) := by decide +kernel
theorem fe_194_45 : am_fetch 194 45 = some (.iushr, 1, 0, 0, 0) := by decide +kernel
theorem fe_194_46 : am_fetch 194 46 = some (.iadd, 1, 0, 0, 0) := by decide +kernel
theorem fe_194_47 : am_fetch 194 47 = some (.istore_n 0, 1, 1, 0, 0) := by decide +kernel
theorem fe_194_48 : am_fetch 194 48 = some (.iload_n 0, 1, 1, 0, 0) := by decide +kernel
theorem fe_194_49 : am_fetch 194 49 = some (.bipush 63, 2, 0, 0, 0) := by decide +kernel
theorem fe_194_51 : am_fetch 194 51 = some (.iand, 1, 0, 0, 0) := by decide +kernel
theorem fe_194_52 : am_fetch 194 52 = some (.ireturn, 1, 8, 0, 0) := by decide +kernel
theorem fe_195_0 : am_fetch 195 0 = some (.aload_n 0, 1, 1, 0, 0) := by decide +kernel
theorem fe_195_1 : am_fetch 195 1 = some (.invokevirtual 59, 3, 7, 191, 0) := by decide +kernel
theorem fe_195_4 : am_fetch 195 4 = some (.iconst 0, 1, 0, 0, 0) := by decide +kernel
theorem fe_195_5 : am_fetch 195 5 = some (.istore_n 1, 1, 1, 0, 0) := by decide +kernel
theorem fe_195_6 : am_fetch 195 6 = some (.iconst 0, 1, 0, 0, 0) := by decide +kernel
theorem fe_195_7 : am_fetch 195 7 = some (.istore_n 2, 1, 1, 0, 0) := by decide +kernel
theorem fe_195_8 : am_fetch 195 8 = some (.iload_n 2, 1, 1, 0, 0) := by decide +kernel
theorem fe_195_9 : am_fetch 195 9 = some (.aload_n 0, 1, 1, 0, 0) := by decide +kernel
theorem fe_195_10 : am_fetch 195 10 = some (.getfield 53, 3, 3, 3, 3) := by decide +kernel
theorem fe_195_13 : am_fetch 195 13 = some (.if_icmp .ge 25, 3, 2, 38, 0) := by decide +kernel
theorem fe_195_16 : am_fetch 195 16 = some (.iload_n 1, 1, 1, 0, 0) := by decide +kernel
theorem fe_195_17 : am_fetch 195 17 = some (.aload_n 0, 1, 1, 0, 0) := by decide +kernel
theorem fe_195_18 : am_fetch 195 18 = some (.getfield 20, 3, 3, 3, 2) := by decide +kernel
theorem fe_195_21 : am_fetch 195 21 = some (.iload_n 2, 1, 1, 0, 0) := by decide +kernel
theorem fe_195_22 : am_fetch 195 22 = some (.invokevirtual 50, 3, 7, 39, 0) := by decide +kernel
theorem fe_195_25 : am_fetch 195 25 = some (.invokestatic 66, 3, 7, 194, 0) := by decide +kernel
theorem fe_195_28 : am_fetch 195 28 = some (.invokestatic 71, 3, 6, 2, 0) := by decide +kernel
theorem fe_195_31 : am_fetch 195 31 = some (.istore_n 1, 1, 1, 0, 0) := by decide +kernel
theorem fe_195_32 : am_fetch 195 32 = some (.iinc 2 1, 3, 1, 0, 0) := by decide +kernel
theorem fe_195_35 : am_fetch 195 35 = some (.goto (-27), 3, 2, 8, 0) := by decide +kernel
theorem fe_195_38 : am_fetch 195 38 = some (.iload_n 1, 1, 1, 0, 0) := by decide +kernel
theorem fe_195_39 : am_fetch 195 39 = some (.ireturn, 1, 8, 0, 0) := by decide +kernel
theorem fe_196_0 : am_fetch 196 0 = some (.iconst 0, 1, 0, 0, 0) := by decide +kernel
theorem fe_196_1 : am_fetch 196 1 = some (.istore_n 2, 1, 1, 0, 0) := by decide +kernel
theorem fe_196_2 : am_fetch 196 2 = some (.iconst 1, 1, 0, 0, 0) := by decide +kernel
theorem fe_196_3 : am_fetch 196 3 = some (.istore_n 3, 1, 1, 0, 0) := by decide +kernel
theorem fe_196_4 : am_fetch 196 4 = some (.iload_n 3, 1, 1, 0, 0) := by decide +kernel
theorem fe_196_5 : am_fetch 196 5 = some (.aload_n 0, 1, 1, 0, 0) := by decide +kernel
theorem fe_196_6 : am_fetch 196 6 = some (.getfield 23, 3, 3, 3, 0) := by decide +kernel
theorem fe_196_9 : am_fetch 196 9 = some (.getfield 27, 3, 3, 108, 1) := by decide +kernel
theorem fe_196_12 : am_fetch 196 12 = some (.if_icmp .ge 45, 3, 2, 57, 0) := by decide +kernel
theorem fe_196_15 : am_fetch 196 15 = some (.aload_n 0, 1, 1, 0, 0) := by decide +kernel
theorem fe_196_16 : am_fetch 196 16 = some (.getfield 23, 3, 3, 3, 0) := by decide +kernel
theorem fe_196_19 : am_fetch 196 19 = some (.iload_n 3, 1, 1, 0, 0) := by decide +kernel
theorem fe_196_20 : am_fetch 196 20 = some (.invokevirtual 37, 3, 7, 177, 0) := by decide +kernel
theorem fe_196_23 : am_fetch 196 23 = some (.aload_n 0, 1, 1, 0, 0) := by decide +kernel
theorem fe_196_24 : am_fetch 196 24 = some (.getfield 23, 3, 3, 3, 0) := by decide +kernel
theorem fe_196_27 : am_fetch 196 27 = some (.iload_n 3, 1, 1, 0, 0) := by decide +kernel
theorem fe_196_28 : am_fetch 196 28 = some (.iconst 1, 1, 0, 0, 0) := by decide +kernel
theorem fe_196_29 : am_fetch 196 29 = some (.isub, 1, 0, 0, 0) := by decide +kernel
theorem fe_196_30 : am_fetch 196 30 = some (.invokevirtual 37, 3, 7, 177, 0) := by decide +kernel
theorem fe_196_33 : am_fetch 196 33 = some (.isub, 1, 0, 0, 0) := by decide +kernel
theorem fe_196_34 : am_fetch 196 34 = some (.istore 4, 2, 1, 0, 0) := by decide +kernel
theorem fe_196_36 : am_fetch 196 36 = some (.iload_n 2, 1, 1, 0, 0) := by decide +kernel
theorem fe_196_37 : am_fetch 196 37 = some (.iload 4, 2, 1, 0, 0) := by decide +kernel
theorem fe_196_39 : am_fetch 196 39 = some (.iload_n 1, 1, 1, 0, 0) := by decide +kernel
theorem fe_196_40 : am_fetch 196 40 = some (.imul, 1, 0, 0, 0) := by decide +kernel
theorem fe_196_41 : am_fetch 196 41 = some (.ifCond .le 7, 3, 2, 48, 0) := by decide +kernel
theorem fe_196_44 : am_fetch 196 44 = some (.iconst 1, 1, 0, 0, 0) := by decide +kernel
theorem fe_196_45 : am_fetch 196 45 = some (.goto 4, 3, 2, 49, 0) := by decide +kernel
theorem fe_196_48 : am_fetch 196 48 = some (.iconst 0, 1, 0, 0, 0) := by decide +kernel
theorem fe_196_49 : am_fetch 196 49 = some (.iadd, 1, 0, 0, 0) := by decide +kernel
theorem fe_196_50 : am_fetch 196 50 = some (.istore_n 2, 1, 1, 0, 0) := by decide +kernel
theorem fe_196_51 : am_fetch 196 51 = some (.iinc 3 1, 3, 1, 0, 0) := by decide +kernel
theorem fe_196_54 : am_fetch 196 54 = some (.goto (-50), 3, 2, 4, 0) := by decide +kernel
theorem fe_196_57 : am_fetch 196 57 = some (.iload_n 2, 1, 1, 0, 0) := by decide +kernel
theorem fe_196_58 : am_fetch 196 58 = some (.ireturn, 1, 8, 0, 0) := by decide +kernel
theorem fe_197_0 : am_fetch 197 0 = some (.iload_n 1, 1, 1, 0, 0) := by decide +kernel
theorem fe_197_1 : am_fetch 197 1 = some (.tableswitch 104 0 6 #[43, 54, 62, 70, 78, 86, 95], 43, 2, 0, 0) := by decide +kernel
theorem fe_197_44 : am_fetch 197 44 = some (.aload_n 0, 1, 1, 0, 0) := by decide +kernel
theorem fe_197_45 : am_fetch 197 45 = some (.getfield 12, 3, 3, 10, 0) := by decide +kernel
theorem fe_197_48 : am_fetch 197 48 = some (.getfield 31, 3, 3, 107, 10) := by decide +kernel
theorem fe_197_51 : am_fetch 197 51 = some (.getfield 319, 3, 3, 108, 1) := by decide +kernel
theorem fe_197_54 : am_fetch 197 54 = some (.ireturn, 1, 8, 0, 0) := by decide +kernel
theorem fe_197_55 : am_fetch 197 55 = some (.aload_n 0, 1, 1, 0, 0) := by decide +kernel
theorem fe_197_56 : am_fetch 197 56 = some (.getfield 38, 3, 3, 10, 2) := by decide +kernel
theorem fe_197_59 : am_fetch 197 59 = some (.invokevirtual 336, 3, 7, 189, 0) := by decide +kernel
theorem fe_197_62 : am_fetch 197 62 = some (.ireturn, 1, 8, 0, 0) := by decide +kernel
theorem fe_197_63 : am_fetch 197 63 = some (.aload_n 0, 1, 1, 0, 0) := by decide +kernel
theorem fe_197_64 : am_fetch 197 64 = some (.getfield 38, 3, 3, 10, 2) := by decide +kernel
theorem fe_197_67 : am_fetch 197 67 = some (.invokevirtual 339, 3, 7, 190, 0) := by decide +kernel
theorem fe_197_70 : am_fetch 197 70 = some (.ireturn, 1, 8, 0, 0) := by decide +kernel
theorem fe_197_71 : am_fetch 197 71 = some (.aload_n 0, 1, 1, 0, 0) := by decide +kernel
theorem fe_197_72 : am_fetch 197 72 = some (.getfield 38, 3, 3, 10, 2) := by decide +kernel
theorem fe_197_75 : am_fetch 197 75 = some (.invokevirtual 342, 3, 7, 193, 0) := by decide +kernel
theorem fe_197_78 : am_fetch 197 78 = some (.ireturn, 1, 8, 0, 0) := by decide +kernel
theorem fe_197_79 : am_fetch 197 79 = some (.aload_n 0, 1, 1, 0, 0) := by decide +kernel
theorem fe_197_80 : am_fetch 197 80 = some (.getfield 38, 3, 3, 10, 2) := by decide +kernel
theorem fe_197_83 : am_fetch 197 83 = some (.invokevirtual 345, 3, 7, 195, 0) := by decide +kernel
theorem fe_197_86 : am_fetch 197 86 = some (.ireturn, 1, 8, 0, 0) := by decide +kernel
theorem fe_197_87 : am_fetch 197 87 = some (.aload_n 0, 1, 1, 0, 0) := by decide +kernel
theorem fe_197_88 : am_fetch 197 88 = some (.getfield 38, 3, 3, 10, 2) := by decide +kernel
theorem fe_197_91 : am_fetch 197 91 = some (.iconst 1, 1, 0, 0, 0) := by decide +kernel
theorem fe_197_92 : am_fetch 197 92 = some (.invokevirtual 348, 3, 7, 196, 0) := by decide +kernel
theorem fe_197_95 : am_fetch 197 95 = some (.ireturn, 1, 8, 0, 0) := by decide +kernel
theorem fe_197_96 : am_fetch 197 96 = some (.aload_n 0, 1, 1, 0, 0) := by decide +kernel
theorem fe_197_97 : am_fetch 197 97 = some (.getfield 38, 3, 3, 10, 2) := by decide +kernel
theorem fe_197_100 : am_fetch 197 100 = some (.iconst (-1), 1, 0, 0, 0) := by decide +kernel
theorem fe_197_101 : am_fetch 197 101 = some (.invokevirtual 348, 3, 7, 196, 0) := by decide +kernel
theorem fe_197_104 : am_fetch 197 104 = some (.ireturn, 1, 8, 0, 0) := by decide +kernel
theorem fe_197_105 : am_fetch 197 105 = some (.new 69, 3, 9, 0, 0) := by decide +kernel
theorem fe_197_108 : am_fetch 197 108 = some (.dup, 1, 0, 0, 0) := by decide +kernel
theorem fe_198_0 : am_fetch 198 0 = some (.aload_n 2, 1, 1, 0, 0) := by decide +kernel
theorem fe_198_1 : am_fetch 198 1 = some (.iconst 0, 1, 0, 0, 0) := by decide +kernel
theorem fe_198_2 : am_fetch 198 2 = some (.aload_n 0, 1, 1, 0, 0) := by decide +kernel
theorem fe_198_3 : am_fetch 198 3 = some (.iload_n 1, 1, 1, 0, 0) := by decide +kernel
theorem fe_198_4 : am_fetch 198 4 = some (.invokevirtual 76, 3, 7, 197, 0) := by decide +kernel
theorem fe_198_7 : am_fetch 198 7 = some (.i2l, 1, 0, 0, 0) := by decide +kernel
theorem fe_198_8 : am_fetch 198 8 = some (.lastore, 1, 4, 0, 0) := by decide +kernel
theorem fe_198_9 : am_fetch 198 9 = some (.goto 6, 3, 2, 15, 0) := by decide +kernel
theorem fe_198_12 : am_fetch 198 12 = some (.astore_n 3, 1, 1, 0, 0) := by decide +kernel
theorem fe_198_13 : am_fetch 198 13 = some (.iconst 1, 1, 0, 0, 0) := by decide +kernel
theorem fe_198_14 : am_fetch 198 14 = some (.ireturn, 1, 8, 0, 0) := by decide +kernel
theorem fe_198_15 : am_fetch 198 15 = some (.iconst 0, 1, 0, 0, 0) := by decide +kernel
theorem fe_198_16 : am_fetch 198 16 = some (.ireturn, 1, 8, 0, 0) := by decide +kernel
theorem fe_199_0 : am_fetch 199 0 = some (.iconst 0, 1, 0, 0, 0) := by decide +kernel
theorem fe_199_1 : am_fetch 199 1 = some (.istore_n 2, 1, 1, 0, 0) := by decide +kernel
theorem fe_199_2 : am_fetch 199 2 = some (.iconst 0, 1, 0, 0, 0) := by decide +kernel
theorem fe_199_3 : am_fetch 199 3 = some (.istore_n 3, 1, 1, 0, 0) := by decide +kernel
theorem fe_199_4 : am_fetch 199 4 = some (.iload_n 3, 1, 1, 0, 0) := by decide +kernel
theorem fe_199_5 : am_fetch 199 5 = some (.aload_n 0, 1, 1, 0, 0) := by decide +kernel
theorem fe_199_6 : am_fetch 199 6 = some (.getfield 7, 3, 3, 11, 0) := by decide +kernel
theorem fe_199_9 : am_fetch 199 9 = some (.bipush 10, 2, 0, 0, 0) := by decide +kernel
theorem fe_199_11 : am_fetch 199 11 = some (.iaload, 1, 3, 0, 0) := by decide +kernel
theorem fe_199_12 : am_fetch 199 12 = some (.if_icmp .ge 27, 3, 2, 39, 0) := by decide +kernel
theorem fe_199_15 : am_fetch 199 15 = some (.iload_n 2, 1, 1, 0, 0) := by decide +kernel
theorem fe_199_16 : am_fetch 199 16 = some (.aload_n 0, 1, 1, 0, 0) := by decide +kernel
theorem fe_199_17 : am_fetch 199 17 = some (.iload_n 3, 1, 1, 0, 0) := by decide +kernel
theorem fe_199_18 : am_fetch 199 18 = some (.iconst 2, 1, 0, 0, 0) := by decide +kernel
theorem fe_199_19 : am_fetch 199 19 = some (.invokevirtual 175, 3, 7, 180, 0) := by decide +kernel
theorem fe_199_22 : am_fetch 199 22 = some (.iload_n 1, 1, 1, 0, 0) := by decide +kernel
theorem fe_199_23 : am_fetch 199 23 = some (.if_icmp .ne 7, 3, 2, 30, 0) := by decide +kernel
theorem fe_199_26 : am_fetch 199 26 = some (.iconst 1, 1, 0, 0, 0) := by decide +kernel
theorem fe_199_27 : am_fetch 199 27 = some (.goto 4, 3, 2, 31, 0) := by decide +kernel
theorem fe_199_30 : am_fetch 199 30 = some (.iconst 0, 1, 0, 0, 0) := by decide +kernel
theorem fe_199_31 : am_fetch 199 31 = some (.iadd, 1, 0, 0, 0) := by decide +kernel
theorem fe_199_32 : am_fetch 199 32 = some (.istore_n 2, 1, 1, 0, 0) := by decide +kernel
theorem fe_199_33 : am_fetch 199 33 = some (.iinc 3 1, 3, 1, 0, 0) := by decide +kernel
theorem fe_199_36 : am_fetch 199 36 = some (.goto (-32), 3, 2, 4, 0) := by decide +kernel
theorem fe_199_39 : am_fetch 199 39 = some (.iload_n 2, 1, 1, 0, 0) := by decide +kernel
theorem fe_199_40 : am_fetch 199 40 = some (.ireturn, 1, 8, 0, 0) := by decide +kernel
theorem fe_200_0 : am_fetch 200 0 = some (.iconst 0, 1, 0, 0, 0) := by decide +kernel
theorem fe_200_1 : am_fetch 200 1 = some (.istore_n 1, 1, 1, 0, 0) := by decide +kernel
theorem fe_200_2 : am_fetch 200 2 = some (.iconst 0, 1, 0, 0, 0) := by decide +kernel
theorem fe_200_3 : am_fetch 200 3 = some (.istore_n 2, 1, 1, 0, 0) := by decide +kernel
theorem fe_200_4 : am_fetch 200 4 = some (.iload_n 2, 1, 1, 0, 0) := by decide +kernel
theorem fe_200_5 : am_fetch 200 5 = some (.bipush 31, 2, 0, 0, 0) := by decide +kernel
theorem fe_200_7 : am_fetch 200 7 = some (.if_icmp .ge 25, 3, 2, 32, 0) := by decide +kernel
theorem fe_200_10 : am_fetch 200 10 = some (.iload_n 1, 1, 1, 0, 0) := by decide +kernel
theorem fe_200_11 : am_fetch 200 11 = some (.aload_n 0, 1, 1, 0, 0) := by decide +kernel
theorem fe_200_12 : am_fetch 200 12 = some (.iload_n 2, 1, 1, 0, 0) := by decide +kernel
theorem fe_200_13 : am_fetch 200 13 = some (.invokevirtual 181, 3, 7, 199, 0) := by decide +kernel
theorem fe_200_16 : am_fetch 200 16 = some (.ifCond .le 7, 3, 2, 23, 0) := by decide +kernel
theorem fe_200_19 : am_fetch 200 19 = some (.iconst 1, 1, 0, 0, 0) := by decide +kernel
theorem fe_200_20 : am_fetch 200 20 = some (.goto 4, 3, 2, 24, 0) := by decide +kernel
theorem fe_200_23 : am_fetch 200 23 = some (.iconst 0, 1, 0, 0, 0) := by decide +kernel
theorem fe_200_24 : am_fetch 200 24 = some (.iadd, 1, 0, 0, 0) := by decide +kernel
theorem fe_200_25 : am_fetch 200 25 = some (.istore_n 1, 1, 1, 0, 0) := by decide +kernel
theorem fe_200_26 : am_fetch 200 26 = some (.iinc 2 1, 3, 1, 0, 0) := by decide +kernel
theorem fe_200_29 : am_fetch 200 29 = some (.goto (-25), 3, 2, 4, 0) := by decide +kernel
theorem fe_200_32 : am_fetch 200 32 = some (.iload_n 1, 1, 1, 0, 0) := by decide +kernel
theorem fe_200_33 : am_fetch 200 33 = some (.ireturn, 1, 8, 0, 0) := by decide +kernel
theorem fe_201_0 : am_fetch 201 0 = some (.iconst 0, 1, 0, 0, 0) := by decide +kernel
theorem fe_201_1 : am_fetch 201 1 = some (.istore_n 1, 1, 1, 0, 0) := by decide +kernel
theorem fe_201_2 : am_fetch 201 2 = some (.iconst 1, 1, 0, 0, 0) := by decide +kernel
theorem fe_201_3 : am_fetch 201 3 = some (.istore_n 2, 1, 1, 0, 0) := by decide +kernel
theorem fe_201_4 : am_fetch 201 4 = some (.iload_n 2, 1, 1, 0, 0) := by decide +kernel
theorem fe_201_5 : am_fetch 201 5 = some (.bipush 31, 2, 0, 0, 0) := by decide +kernel
theorem fe_201_7 : am_fetch 201 7 = some (.if_icmp .ge 28, 3, 2, 35, 0) := by decide +kernel
theorem fe_201_10 : am_fetch 201 10 = some (.aload_n 0, 1, 1, 0, 0) := by decide +kernel
theorem fe_201_11 : am_fetch 201 11 = some (.iload_n 2, 1, 1, 0, 0) := by decide +kernel
theorem fe_201_12 : am_fetch 201 12 = some (.invokevirtual 181, 3, 7, 199, 0) := by decide +kernel
theorem fe_201_15 : am_fetch 201 15 = some (.aload_n 0, 1, 1, 0, 0) := by decide +kernel
theorem fe_201_16 : am_fetch 201 16 = some (.iload_n 1, 1, 1, 0, 0) := by decide +kernel
theorem fe_201_17 : am_fetch 201 17 = some (.invokevirtual 181, 3, 7, 199, 0) := by decide +kernel
theorem fe_201_20 : am_fetch 201 20 = some (.if_icmp .le 7, 3, 2, 27, 0) := by decide +kernel
theorem fe_201_23 : am_fetch 201 23 = some (.iload_n 2, 1, 1, 0, 0) := by decide +kernel
theorem fe_201_24 : am_fetch 201 24 = some (.goto 4, 3, 2, 28, 0) := by decide +kernel
theorem fe_201_27 : am_fetch 201 27 = some (.iload_n 1, 1, 1, 0, 0) := by decide +kernel
theorem fe_201_28 : am_fetch 201 28 = some (.istore_n 1, 1, 1, 0, 0) := by decide +kernel
theorem fe_201_29 : am_fetch 201 29 = some (.iinc 2 1, 3, 1, 0, 0) := by decide +kernel
theorem fe_201_32 : am_fetch 201 32 = some (.goto (-28), 3, 2, 4, 0) := by decide +kernel
theorem fe_201_35 : am_fetch 201 35 = some (.aload_n 0, 1, 1, 0, 0) := by decide +kernel
theorem fe_201_36 : am_fetch 201 36 = some (.getfield 7, 3, 3, 11, 0) := by decide +kernel
theorem fe_201_39 : am_fetch 201 39 = some (.bipush 10, 2, 0, 0, 0) := by decide +kernel
theorem fe_201_41 : am_fetch 201 41 = some (.iaload, 1, 3, 0, 0) := by decide +kernel
theorem fe_201_42 : am_fetch 201 42 = some (.ifCond .ne 7, 3, 2, 49, 0) := by decide +kernel
theorem fe_201_45 : am_fetch 201 45 = some (.iconst (-1), 1, 0, 0, 0) := by decide +kernel
theorem fe_201_46 : am_fetch 201 46 = some (.goto 4, 3, 2, 50, 0) := by decide +kernel
theorem fe_201_49 : am_fetch 201 49 = some (.iload_n 1, 1, 1, 0, 0) := by decide +kernel
theorem fe_201_50 : am_fetch 201 50 = some (.ireturn, 1, 8, 0, 0) := by decide +kernel
theorem fe_202_0 : am_fetch 202 0 = some (.aload_n 0, 1, 1, 0, 0) := by decide +kernel
theorem fe_202_1 : am_fetch 202 1 = some (.aload_n 0, 1, 1, 0, 0) := by decide +kernel
theorem fe_202_2 : am_fetch 202 2 = some (.iload_n 1, 1, 1, 0, 0) := by decide +kernel
theorem fe_202_3 : am_fetch 202 3 = some (.iconst 0, 1, 0, 0, 0) := by decide +kernel
theorem fe_202_4 : am_fetch 202 4 = some (.invokevirtual 175, 3, 7, 180, 0) := by decide +kernel
theorem fe_202_7 : am_fetch 202 7 = some (.invokevirtual 178, 3, 7, 185, 0) := by decide +kernel
theorem fe_202_10 : am_fetch 202 10 = some (.istore_n 2, 1, 1, 0, 0) := by decide +kernel
theorem fe_202_11 : am_fetch 202 11 = some (.iconst 1, 1, 0, 0, 0) := by decide +kernel
theorem fe_202_12 : am_fetch 202 12 = some (.istore_n 3, 1, 1, 0, 0) := by decide +kernel
theorem fe_202_13 : am_fetch 202 13 = some (.iconst 0, 1, 0, 0, 0) := by decide +kernel
theorem fe_202_14 : am_fetch 202 14 = some (.istore 4, 2, 1, 0, 0) := by decide +kernel
theorem fe_202_16 : am_fetch 202 16 = some (.iload 4, 2, 1, 0, 0) := by decide +kernel
theorem fe_202_18 : am_fetch 202 18 = some (.iload_n 1, 1, 1, 0, 0) := by decide +kernel
theorem fe_202_19 : am_fetch 202 19 = some (.if_icmp .ge 34, 3, 2, 53, 0) := by decide +kernel
theorem fe_202_22 : am_fetch 202 22 = some (.iload_n 3, 1, 1, 0, 0) := by decide +kernel
theorem fe_202_23 : am_fetch 202 23 = some (.ifCond .eq 22, 3, 2, 45, 0) := by decide +kernel
theorem fe_202_26 : am_fetch 202 26 = some (.aload_n 0, 1, 1, 0, 0) := by decide +kernel
theorem fe_202_27 : am_fetch 202 27 = some (.aload_n 0, 1, 1, 0, 0) := by decide +kernel
theorem fe_202_28 : am_fetch 202 28 = some (.iload 4, 2, 1, 0, 0) := by decide +kernel
theorem fe_202_30 : am_fetch 202 30 = some (.iconst 0, 1, 0, 0, 0) := by decide +kernel
theorem fe_202_31 : am_fetch 202 31 = some (.invokevirtual 175, 3, 7, 180, 0) := by decide +kernel
theorem fe_202_34 : am_fetch 202 34 = some (.invokevirtual 178, 3, 7, 185, 0) := by decide +kernel
theorem fe_202_37 : am_fetch 202 37 = some (.iload_n 2, 1, 1, 0, 0) := by decide +kernel
theorem fe_202_38 : am_fetch 202 38 = some (.if_icmp .eq 7, 3, 2, 45, 0) := by decide +kernel
theorem fe_202_41 : am_fetch 202 41 = some (.iconst 1, 1, 0, 0, 0) := by decide +kernel
theorem fe_202_42 : am_fetch 202 42 = some (.goto 4, 3, 2, 46, 0) := by decide +kernel
theorem fe_202_45 : am_fetch 202 45 = some (.iconst 0, 1, 0, 0, 0) := by decide +kernel
theorem fe_202_46 : am_fetch 202 46 = some (.istore_n 3, 1, 1, 0, 0) := by decide +kernel
theorem fe_202_47 : am_fetch 202 47 = some (.iinc 4 1, 3, 1, 0, 0) := by decide +kernel
theorem fe_202_50 : am_fetch 202 50 = some (.goto (-34), 3, 2, 16, 0) := by decide +kernel
theorem fe_202_53 : am_fetch 202 53 = some (.iload_n 3, 1, 1, 0, 0) := by decide +kernel
theorem fe_202_54 : am_fetch 202 54 = some (.ireturn, 1, 8, 0, 0) := by decide +kernel
theorem fe_203_0 : am_fetch 203 0 = some (.iconst 0, 1, 0, 0, 0) := by decide +kernel
theorem fe_203_1 : am_fetch 203 1 = some (.istore_n 1, 1, 1, 0, 0) := by decide +kernel
theorem fe_203_2 : am_fetch 203 2 = some (.iconst 0, 1, 0, 0, 0) := by decide +kernel
theorem fe_203_3 : am_fetch 203 3 = some (.istore_n 2, 1, 1, 0, 0) := by decide +kernel
theorem fe_203_4 : am_fetch 203 4 = some (.iload_n 2, 1, 1, 0, 0) := by decide +kernel
theorem fe_203_5 : am_fetch 203 5 = some (.aload_n 0, 1, 1, 0, 0) := by decide +kernel
theorem fe_203_6 : am_fetch 203 6 = some (.getfield 7, 3, 3, 11, 0) := by decide +kernel
theorem fe_203_9 : am_fetch 203 9 = some (.bipush 10, 2, 0, 0, 0) := by decide +kernel
theorem fe_203_11 : am_fetch 203 11 = some (.iaload, 1, 3, 0, 0) := by decide +kernel
theorem fe_203_12 : am_fetch 203 12 = some (.if_icmp .ge 25, 3, 2, 37, 0) := by decide +kernel
theorem fe_203_15 : am_fetch 203 15 = some (.iload_n 1, 1, 1, 0, 0) := by decide +kernel
theorem fe_203_16 : am_fetch 203 16 = some (.aload_n 0, 1, 1, 0, 0) := by decide +kernel
theorem fe_203_17 : am_fetch 203 17 = some (.iload_n 2, 1, 1, 0, 0) := by decide +kernel
theorem fe_203_18 : am_fetch 203 18 = some (.invokevirtual 184, 3, 7, 202, 0) := by decide +kernel
theorem fe_203_21 : am_fetch 203 21 = some (.ifCond .eq 7, 3, 2, 28, 0) := by decide +kernel
theorem fe_203_24 : am_fetch 203 24 = some (.iconst 1, 1, 0, 0, 0) := by decide +kernel
theorem fe_203_25 : am_fetch 203 25 = some (.goto 4, 3, 2, 29, 0) := by decide +kernel
theorem fe_203_28 : am_fetch 203 28 = some (.iconst 0, 1, 0, 0, 0) := by decide +kernel
theorem fe_203_29 : am_fetch 203 29 = some (.iadd, 1, 0, 0, 0) := by decide +kernel
theorem fe_203_30 : am_fetch 203 30 = some (.istore_n 1, 1, 1, 0, 0) := by decide +kernel
theorem fe_203_31 : am_fetch 203 31 = some (.iinc 2 1, 3, 1, 0, 0) := by decide +kernel
theorem fe_203_34 : am_fetch 203 34 = some (.goto (-30), 3, 2, 4, 0) := by decide +kernel
theorem fe_203_37 : am_fetch 203 37 = some (.iload_n 1, 1, 1, 0, 0) := by decide +kernel
theorem fe_203_38 : am_fetch 203 38 = some (.ireturn, 1, 8, 0, 0) := by decide +kernel
theorem fe_204_0 : am_fetch 204 0 = some (.iconst 0, 1, 0, 0, 0) := by decide +kernel
theorem fe_204_1 : am_fetch 204 1 = some (.istore_n 1, 1, 1, 0, 0) := by decide +kernel
theorem fe_204_2 : am_fetch 204 2 = some (.iconst 0, 1, 0, 0, 0) := by decide +kernel
theorem fe_204_3 : am_fetch 204 3 = some (.istore_n 2, 1, 1, 0, 0) := by decide +kernel
theorem fe_204_4 : am_fetch 204 4 = some (.iload_n 2, 1, 1, 0, 0) := by decide +kernel
theorem fe_204_5 : am_fetch 204 5 = some (.aload_n 0, 1, 1, 0, 0) := by decide +kernel
theorem fe_204_6 : am_fetch 204 6 = some (.getfield 7, 3, 3, 11, 0) := by decide +kernel
theorem fe_204_9 : am_fetch 204 9 = some (.bipush 10, 2, 0, 0, 0) := by decide +kernel
theorem fe_204_11 : am_fetch 204 11 = some (.iaload, 1, 3, 0, 0) := by decide +kernel
theorem fe_204_12 : am_fetch 204 12 = some (.if_icmp .ge 54, 3, 2, 66, 0) := by decide +kernel
theorem fe_204_15 : am_fetch 204 15 = some (.iconst 0, 1, 0, 0, 0) := by decide +kernel
theorem fe_204_16 : am_fetch 204 16 = some (.istore_n 3, 1, 1, 0, 0) := by decide +kernel
theorem fe_204_17 : am_fetch 204 17 = some (.aload_n 0, 1, 1, 0, 0) := by decide +kernel
theorem fe_204_18 : am_fetch 204 18 = some (.aload_n 0, 1, 1, 0, 0) := by decide +kernel
theorem fe_204_19 : am_fetch 204 19 = some (.iload_n 2, 1, 1, 0, 0) := by decide +kernel
theorem fe_204_20 : am_fetch 204 20 = some (.iconst 0, 1, 0, 0, 0) := by decide +kernel
theorem fe_204_21 : am_fetch 204 21 = some (.invokevirtual 175, 3, 7, 180, 0) := by decide +kernel
theorem fe_204_24 : am_fetch 204 24 = some (.invokevirtual 178, 3, 7, 185, 0) := by decide +kernel
theorem fe_204_27 : am_fetch 204 27 = some (.istore 4, 2, 1, 0, 0) := by decide +kernel
theorem fe_204_29 : am_fetch 204 29 = some (.iload 4, 2, 1, 0, 0) := by decide +kernel
theorem fe_204_31 : am_fetch 204 31 = some (.ifCond .eq 18, 3, 2, 49, 0) := by decide +kernel
theorem fe_204_34 : am_fetch 204 34 = some (.iinc 3 1, 3, 1, 0, 0) := by decide +kernel
theorem fe_204_37 : am_fetch 204 37 = some (.iload 4, 2, 1, 0, 0) := by decide +kernel
theorem fe_204_39 : am_fetch 204 39 = some (.iload 4, 2, 1, 0, 0) := by decide +kernel
theorem fe_204_41 : am_fetch 204 41 = some (.iconst 1, 1, 0, 0, 0) := by decide +kernel
theorem fe_204_42 : am_fetch 204 42 = some (.isub, 1, 0, 0, 0) := by decide +kernel
theorem fe_204_43 : am_fetch 204 43 = some (.iand, 1, 0, 0, 0) := by decide +kernel
theorem fe_204_44 : am_fetch 204 44 = some (.istore 4, 2, 1, 0, 0) := by decide +kernel
theorem fe_204_46 : am_fetch 204 46 = some (.goto (-17), 3, 2, 29, 0) := by decide +kernel
theorem fe_204_49 : am_fetch 204 49 = some (.iload_n 3, 1, 1, 0, 0) := by decide +kernel
theorem fe_204_50 : am_fetch 204 50 = some (.iload_n 1, 1, 1, 0, 0) := by decide +kernel
theorem fe_204_51 : am_fetch 204 51 = some (.if_icmp .le 7, 3, 2, 58, 0) := by decide +kernel
theorem fe_204_54 : am_fetch 204 54 = some (.iload_n 3, 1, 1, 0, 0) := by decide +kernel
theorem fe_204_55 : am_fetch 204 55 = some (.goto 4, 3, 2, 59, 0) := by decide +kernel
theorem fe_204_58 : am_fetch 204 58 = some (.iload_n 1, 1, 1, 0, 0) := by decide +kernel
theorem fe_204_59 : am_fetch 204 59 = some (.istore_n 1, 1, 1, 0, 0) := by decide +kernel
theorem fe_204_60 : am_fetch 204 60 = some (.iinc 2 1, 3, 1, 0, 0) := by decide +kernel
theorem fe_204_63 : am_fetch 204 63 = some (.goto (-59), 3, 2, 4, 0) := by decide +kernel
theorem fe_204_66 : am_fetch 204 66 = some (.iload_n 1, 1, 1, 0, 0) := by decide +kernel
theorem fe_204_67 : am_fetch 204 67 = some (.ireturn, 1, 8, 0, 0) := by decide +kernel
theorem fe_205_0 : am_fetch 205 0 = some (.iconst 0, 1, 0, 0, 0) := by decide +kernel
theorem fe_205_1 : am_fetch 205 1 = some (.istore_n 2, 1, 1, 0, 0) := by decide +kernel
theorem fe_205_2 : am_fetch 205 2 = some (.iconst 1, 1, 0, 0, 0) := by decide +kernel
theorem fe_205_3 : am_fetch 205 3 = some (.istore_n 3, 1, 1, 0, 0) := by decide +kernel
theorem fe_205_4 : am_fetch 205 4 = some (.iload_n 3, 1, 1, 0, 0) := by decide +kernel
theorem fe_205_5 : am_fetch 205 5 = some (.aload_n 0, 1, 1, 0, 0) := by decide +kernel
theorem fe_205_6 : am_fetch 205 6 = some (.getfield 7, 3, 3, 11, 0) := by decide +kernel
theorem fe_205_9 : am_fetch 205 9 = some (.bipush 10, 2, 0, 0, 0) := by decide +kernel
theorem fe_205_11 : am_fetch 205 11 = some (.iaload, 1, 3, 0, 0) := by decide +kernel
theorem fe_205_12 : am_fetch 205 12 = some (.if_icmp .ge 51, 3, 2, 63, 0) := by decide +kernel
theorem fe_205_15 : am_fetch 205 15 = some (.aload_n 0, 1, 1, 0, 0) := by decide +kernel
theorem fe_205_16 : am_fetch 205 16 = some (.iload_n 3, 1, 1, 0, 0) := by decide +kernel
theorem fe_205_17 : am_fetch 205 17 = some (.iconst 2, 1, 0, 0, 0) := by decide +kernel
theorem fe_205_18 : am_fetch 205 18 = some (.invokevirtual 175, 3, 7, 180, 0) := by decide +kernel
theorem fe_205_21 : am_fetch 205 21 = some (.aload_n 0, 1, 1, 0, 0) := by decide +kernel
theorem fe_205_22 : am_fetch 205 22 = some (.iload_n 3, 1, 1, 0, 0) := by decide +kernel
theorem fe_205_23 : am_fetch 205 23 = some (.iconst 1, 1, 0, 0, 0) := by decide +kernel
theorem fe_205_24 : am_fetch 205 24 = some (.isub, 1, 0, 0, 0) := by decide +kernel
theorem fe_205_25 : am_fetch 205 25 = some (.iconst 2, 1, 0, 0, 0) := by decide +kernel
theorem fe_205_26 : am_fetch 205 26 = some (.invokevirtual 175, 3, 7, 180, 0) := by decide +kernel
theorem fe_205_29 : am_fetch 205 29 = some (.isub, 1, 0, 0, 0) := by decide +kernel
theorem fe_205_30 : am_fetch 205 30 = some (.istore 4, 2, 1, 0, 0) := by decide +kernel
theorem fe_205_32 : am_fetch 205 32 = some (.iload_n 2, 1, 1, 0, 0) := by decide +kernel
theorem fe_205_33 : am_fetch 205 33 = some (.iload_n 1, 1, 1, 0, 0) := by decide +kernel
theorem fe_205_34 : am_fetch 205 34 = some (.ifCond .eq 11, 3, 2, 45, 0) := by decide +kernel
theorem fe_205_37 : am_fetch 205 37 = some (.iload 4, 2, 1, 0, 0) := by decide +kernel
theorem fe_205_39 : am_fetch 205 39 = some (.ifCond .le 15, 3, 2, 54, 0) := by decide +kernel
theorem fe_205_42 : am_fetch 205 42 = some (.goto 8, 3, 2, 50, 0) := by decide +kernel
theorem fe_205_45 : am_fetch 205 45 = some (.iload 4, 2, 1, 0, 0) := by decide +kernel
theorem fe_205_47 : am_fetch 205 47 = some (.ifCond .ge 7, 3, 2, 54, 0) := by decide +kernel
theorem fe_205_50 : am_fetch 205 50 = some (.iconst 1, 1, 0, 0, 0) := by decide +kernel
theorem fe_205_51 : am_fetch 205 51 = some (.goto 4, 3, 2, 55, 0) := by decide +kernel
theorem fe_205_54 : am_fetch 205 54 = some (.iconst 0, 1, 0, 0, 0) := by decide +kernel
theorem fe_205_55 : am_fetch 205 55 = some (.iadd, 1, 0, 0, 0) := by decide +kernel
theorem fe_205_56 : am_fetch 205 56 = some (.istore_n 2, 1, 1, 0, 0) := by decide +kernel
theorem fe_205_57 : am_fetch 205 57 = some (.iinc 3 1, 3, 1, 0, 0) := by decide +kernel
theorem fe_205_60 : am_fetch 205 60 = some (.goto (-56), 3, 2, 4, 0) := by decide +kernel
theorem fe_205_63 : am_fetch 205 63 = some (.iload_n 2, 1, 1, 0, 0) := by decide +kernel
theorem fe_205_64 : am_fetch 205 64 = some (.ireturn, 1, 8, 0, 0) := by decide +kernel
theorem fe_206_0 : am_fetch 206 0 = some (.aload_n 0, 1, 1, 0, 0) := by decide +kernel
theorem fe_206_1 : am_fetch 206 1 = some (.iload_n 1, 1, 1, 0, 0) := by decide +kernel
theorem fe_206_2 : am_fetch 206 2 = some (.iconst 0, 1, 0, 0, 0) := by decide +kernel
theorem fe_206_3 : am_fetch 206 3 = some (.bipush 6, 2, 0, 0, 0) := by decide +kernel
theorem fe_206_5 : am_fetch 206 5 = some (.invokestatic 36, 3, 7, 26, 0) := by decide +kernel
theorem fe_206_8 : am_fetch 206 8 = some (.ifCond .eq 7, 3, 2, 15, 0) := by decide +kernel
theorem fe_206_11 : am_fetch 206 11 = some (.iconst 0, 1, 0, 0, 0) := by decide +kernel
theorem fe_206_12 : am_fetch 206 12 = some (.goto 4, 3, 2, 16, 0) := by decide +kernel
theorem fe_206_15 : am_fetch 206 15 = some (.iconst 1, 1, 0, 0, 0) := by decide +kernel
theorem fe_206_16 : am_fetch 206 16 = some (.invokevirtual 91, 3, 7, 29, 0) := by decide +kernel
theorem fe_206_19 : am_fetch 206 19 = some (.ifCond .ne 5, 3, 2, 24, 0) := by decide +kernel
theorem fe_206_22 : am_fetch 206 22 = some (.iconst 0, 1, 0, 0, 0) := by decide +kernel
theorem fe_206_23 : am_fetch 206 23 = some (.ireturn, 1, 8, 0, 0) := by decide +kernel
theorem fe_206_24 : am_fetch 206 24 = some (.iload_n 1, 1, 1, 0, 0) := by decide +kernel
theorem fe_206_25 : am_fetch 206 25 = some (.tableswitch 63 0 4 #[35, 43, 48, 53, 58], 35, 2, 0, 0) := by decide +kernel
theorem fe_206_60 : am_fetch 206 60 = some (.aload_n 0, 1, 1, 0, 0) := by decide +kernel
theorem fe_206_61 : am_fetch 206 61 = some (.getfield 7, 3, 3, 11, 0) := by decide +kernel
theorem fe_206_64 : am_fetch 206 64 = some (.bipush 10, 2, 0, 0, 0) := by decide +kernel
theorem fe_206_66 : am_fetch 206 66 = some (.iaload, 1, 3, 0, 0) := by decide +kernel
theorem fe_206_67 : am_fetch 206 67 = some (.ireturn, 1, 8, 0, 0) := by decide +kernel
theorem fe_206_68 : am_fetch 206 68 = some (.aload_n 0, 1, 1, 0, 0) := by decide +kernel
theorem fe_206_69 : am_fetch 206 69 = some (.invokevirtual 187, 3, 7, 200, 0) := by decide +kernel
theorem fe_206_72 : am_fetch 206 72 = some (.ireturn, 1, 8, 0, 0) := by decide +kernel
theorem fe_206_73 : am_fetch 206 73 = some (.aload_n 0, 1, 1, 0, 0) := by decide +kernel
theorem fe_206_74 : am_fetch 206 74 = some (.invokevirtual 190, 3, 7, 201, 0) := by decide +kernel
theorem fe_206_77 : am_fetch 206 77 = some (.ireturn, 1, 8, 0, 0) := by decide +kernel
theorem fe_206_78 : am_fetch 206 78 = some (.aload_n 0, 1, 1, 0, 0) := by decide +kernel
theorem fe_206_79 : am_fetch 206 79 = some (.invokevirtual 193, 3, 7, 203, 0) := by decide +kernel
theorem fe_206_82 : am_fetch 206 82 = some (.ireturn, 1, 8, 0, 0) := by decide +kernel
theorem fe_206_83 : am_fetch 206 83 = some (.aload_n 0, 1, 1, 0, 0) := by decide +kernel
theorem fe_206_84 : am_fetch 206 84 = some (.invokevirtual 196, 3, 7, 204, 0) := by decide +kernel
theorem fe_206_87 : am_fetch 206 87 = some (.ireturn, 1, 8, 0, 0) := by decide +kernel
theorem fe_206_88 : am_fetch 206 88 = some (.aload_n 0, 1, 1, 0, 0) := by decide +kernel
theorem fe_206_89 : am_fetch 206 89 = some (.iload_n 1, 1, 1, 0, 0) := by decide +kernel
theorem fe_206_90 : am_fetch 206 90 = some (.iconst 5, 1, 0, 0, 0) := by decide +kernel
theorem fe_206_91 : am_fetch 206 91 = some (.if_icmp .ne 7, 3, 2, 98, 0) := by decide +kernel
theorem fe_206_94 : am_fetch 206 94 = some (.iconst 1, 1, 0, 0, 0) := by decide +kernel
theorem fe_206_95 : am_fetch 206 95 = some (.goto 4, 3, 2, 99, 0) := by decide +kernel
theorem fe_206_98 : am_fetch 206 98 = some (.iconst 0, 1, 0, 0, 0) := by decide +kernel
theorem fe_206_99 : am_fetch 206 99 = some (.invokevirtual 199, 3, 7, 205, 0) := by decide +kernel
theorem fe_206_102 : am_fetch 206 102 = some (.ireturn, 1, 8, 0, 0) := by decide +kernel
theorem fe_207_0 : am_fetch 207 0 = some (.iconst 0, 1, 0, 0, 0) := by decide +kernel
theorem fe_207_1 : am_fetch 207 1 = some (.istore_n 1, 1, 1, 0, 0) := by decide +kernel
theorem fe_207_2 : am_fetch 207 2 = some (.iconst 0, 1, 0, 0, 0) := by decide +kernel
theorem fe_207_3 : am_fetch 207 3 = some (.istore_n 2, 1, 1, 0, 0) := by decide +kernel
theorem fe_207_4 : am_fetch 207 4 = some (.iload_n 2, 1, 1, 0, 0) := by decide +kernel
theorem fe_207_5 : am_fetch 207 5 = some (.aload_n 0, 1, 1, 0, 0) := by decide +kernel
theorem fe_207_6 : am_fetch 207 6 = some (.getfield 23, 3, 3, 3, 0) := by decide +kernel
theorem fe_207_9 : am_fetch 207 9 = some (.getfield 27, 3, 3, 108, 1) := by decide +kernel
theorem fe_207_12 : am_fetch 207 12 = some (.if_icmp .ge 20, 3, 2, 32, 0) := by decide +kernel
theorem fe_207_15 : am_fetch 207 15 = some (.iload_n 1, 1, 1, 0, 0) := by decide +kernel
theorem fe_207_16 : am_fetch 207 16 = some (.aload_n 0, 1, 1, 0, 0) := by decide +kernel
theorem fe_207_17 : am_fetch 207 17 = some (.getfield 23, 3, 3, 3, 0) := by decide +kernel
theorem fe_207_20 : am_fetch 207 20 = some (.iload_n 2, 1, 1, 0, 0) := by decide +kernel
theorem fe_207_21 : am_fetch 207 21 = some (.invokevirtual 37, 3, 7, 177, 0) := by decide +kernel
theorem fe_207_24 : am_fetch 207 24 = some (.iadd, 1, 0, 0, 0) := by decide +kernel
theorem fe_207_25 : am_fetch 207 25 = some (.istore_n 1, 1, 1, 0, 0) := by decide +kernel
theorem fe_207_26 : am_fetch 207 26 = some (.iinc 2 1, 3, 1, 0, 0) := by decide +kernel
theorem fe_207_29 : am_fetch 207 29 = some (.goto (-25), 3, 2, 4, 0) := by decide +kernel
theorem fe_207_32 : am_fetch 207 32 = some (.iload_n 1, 1, 1, 0, 0) := by decide +kernel
theorem fe_207_33 : am_fetch 207 33 = some (.ireturn, 1, 8, 0, 0) := by decide +kernel
theorem fe_208_0 : am_fetch 208 0 = some (.aload_n 0, 1, 1, 0, 0) := by decide +kernel
theorem fe_208_1 : am_fetch 208 1 = some (.getfield 12, 3, 3, 10, 0) := by decide +kernel
theorem fe_208_4 : am_fetch 208 4 = some (.getfield 31, 3, 3, 107, 10) := by decide +kernel
theorem fe_208_7 : am_fetch 208 7 = some (.getfield 319, 3, 3, 108, 1) := by decide +kernel
theorem fe_208_10 : am_fetch 208 10 = some (.istore_n 1, 1, 1, 0, 0) := by decide +kernel
theorem fe_208_11 : am_fetch 208 11 = some (.iload_n 1, 1, 1, 0, 0) := by decide +kernel
theorem fe_208_12 : am_fetch 208 12 = some (.ifCond .le 17, 3, 2, 29, 0) := by decide +kernel
theorem fe_208_15 : am_fetch 208 15 = some (.aload_n 0, 1, 1, 0, 0) := by decide +kernel
theorem fe_208_16 : am_fetch 208 16 = some (.getfield 38, 3, 3, 10, 2) := by decide +kernel
theorem fe_208_19 : am_fetch 208 19 = some (.invokevirtual 353, 3, 7, 207, 0) := by decide +kernel
theorem fe_208_22 : am_fetch 208 22 = some (.i2f, 1, 0, 0, 0) := by decide +kernel
theorem fe_208_23 : am_fetch 208 23 = some (.iload_n 1, 1, 1, 0, 0) := by decide +kernel
theorem fe_208_24 : am_fetch 208 24 = some (.i2f, 1, 0, 0, 0) := by decide +kernel
theorem fe_208_25 : am_fetch 208 25 = some (.fdiv, 1, 0, 0, 0) := by decide +kernel
theorem fe_208_26 : am_fetch 208 26 = some (.goto 4, 3, 2, 30, 0) := by decide +kernel
theorem fe_208_29 : am_fetch 208 29 = some (.fconst 0, 1, 0, 0, 0) := by decide +kernel
theorem fe_208_30 : am_fetch 208 30 = some (.freturn, 1, 8, 0, 0) := by decide +kernel
theorem fe_209_0 : am_fetch 209 0 = some (.aload_n 0, 1, 1, 0, 0) := by decide +kernel
theorem fe_209_1 : am_fetch 209 1 = some (.iconst 0, 1, 0, 0, 0) := by decide +kernel
theorem fe_209_2 : am_fetch 209 2 = some (.putfield 32, 3, 4, 11, 7) := by decide +kernel
theorem fe_209_5 : am_fetch 209 5 = some (.iconst 0, 1, 0, 0, 0) := by decide +kernel
theorem fe_209_6 : am_fetch 209 6 = some (.istore_n 1, 1, 1, 0, 0) := by decide +kernel
theorem fe_209_7 : am_fetch 209 7 = some (.iconst 0, 1, 0, 0, 0) := by decide +kernel
theorem fe_209_8 : am_fetch 209 8 = some (.istore_n 2, 1, 1, 0, 0) := by decide +kernel
theorem fe_209_9 : am_fetch 209 9 = some (.iload_n 2, 1, 1, 0, 0) := by decide +kernel
theorem fe_209_10 : am_fetch 209 10 = some (.aload_n 0, 1, 1, 0, 0) := by decide +kernel
theorem fe_209_11 : am_fetch 209 11 = some (.getfield 7, 3, 3, 11, 0) := by decide +kernel
theorem fe_209_14 : am_fetch 209 14 = some (.bipush 10, 2, 0, 0, 0) := by decide +kernel
theorem fe_209_16 : am_fetch 209 16 = some (.iaload, 1, 3, 0, 0) := by decide +kernel
theorem fe_209_17 : am_fetch 209 17 = some (.if_icmp .ge 18, 3, 2, 35, 0) := by decide +kernel
theorem fe_209_20 : am_fetch 209 20 = some (.iload_n 1, 1, 1, 0, 0) := by decide +kernel
theorem fe_209_21 : am_fetch 209 21 = some (.aload_n 0, 1, 1, 0, 0) := by decide +kernel
theorem fe_209_22 : am_fetch 209 22 = some (.iload_n 2, 1, 1, 0, 0) := by decide +kernel
theorem fe_209_23 : am_fetch 209 23 = some (.iconst 2, 1, 0, 0, 0) := by decide +kernel
theorem fe_209_24 : am_fetch 209 24 = some (.invokevirtual 175, 3, 7, 180, 0) := by decide +kernel
theorem fe_209_27 : am_fetch 209 27 = some (.iadd, 1, 0, 0, 0) := by decide +kernel
theorem fe_209_28 : am_fetch 209 28 = some (.istore_n 1, 1, 1, 0, 0) := by decide +kernel
theorem fe_209_29 : am_fetch 209 29 = some (.iinc 2 1, 3, 1, 0, 0) := by decide +kernel
theorem fe_209_32 : am_fetch 209 32 = some (.goto (-23), 3, 2, 9, 0) := by decide +kernel
theorem fe_209_35 : am_fetch 209 35 = some (.aload_n 0, 1, 1, 0, 0) := by decide +kernel
theorem fe_209_36 : am_fetch 209 36 = some (.getfield 7, 3, 3, 11, 0) := by decide +kernel
theorem fe_209_39 : am_fetch 209 39 = some (.bipush 10, 2, 0, 0, 0) := by decide +kernel
theorem fe_209_41 : am_fetch 209 41 = some (.iaload, 1, 3, 0, 0) := by decide +kernel
theorem fe_209_42 : am_fetch 209 42 = some (.ifCond .ne 7, 3, 2, 49, 0) := by decide +kernel
theorem fe_209_45 : am_fetch 209 45 = some (.fconst 0, 1, 0, 0, 0) := by decide +kernel
theorem fe_209_46 : am_fetch 209 46 = some (.goto 14, 3, 2, 60, 0) := by decide +kernel
theorem fe_209_49 : am_fetch 209 49 = some (.iload_n 1, 1, 1, 0, 0) := by decide +kernel
theorem fe_209_50 : am_fetch 209 50 = some (.i2f, 1, 0, 0, 0) := by decide +kernel
theorem fe_209_51 : am_fetch 209 51 = some (.aload_n 0, 1, 1, 0, 0) := by decide +kernel
theorem fe_209_52 : am_fetch 209 52 = some (.getfield 7, 3, 3, 11, 0) := by decide +kernel
theorem fe_209_55 : am_fetch 209 55 = some (.bipush 10, 2, 0, 0, 0) := by decide +kernel
theorem fe_209_57 : am_fetch 209 57 = some (.iaload, 1, 3, 0, 0) := by decide +kernel
theorem fe_209_58 : am_fetch 209 58 = some (.i2f, 1, 0, 0, 0) := by decide +kernel
theorem fe_209_59 : am_fetch 209 59 = some (.fdiv, 1, 0, 0, 0) := by decide +kernel
theorem fe_209_60 : am_fetch 209 60 = some (.freturn, 1, 8, 0, 0) := by decide +kernel
theorem fe_210_0 : am_fetch 210 0 = some (.iload_n 0, 1, 1, 0, 0) := by decide +kernel
theorem fe_210_1 : am_fetch 210 1 = some (.ifCond .lt 14, 3, 2, 15, 0) := by decide +kernel
theorem fe_210_4 : am_fetch 210 4 = some (.iload_n 0, 1, 1, 0, 0) := by decide +kernel
theorem fe_210_5 : am_fetch 210 5 = some (.sipush 1000, 3, 0, 0, 0) := by decide +kernel
theorem fe_210_8 : am_fetch 210 8 = some (.if_icmp .gt 7, 3, 2, 15, 0) := by decide +kernel
theorem fe_210_11 : am_fetch 210 11 = some (.iconst 1, 1, 0, 0, 0) := by decide +kernel
theorem fe_210_12 : am_fetch 210 12 = some (.goto 4, 3, 2, 16, 0) := by decide +kernel
theorem fe_210_15 : am_fetch 210 15 = some (.iconst 0, 1, 0, 0, 0) := by decide +kernel
theorem fe_210_16 : am_fetch 210 16 = some (.ireturn, 1, 8, 0, 0) := by decide +kernel
theorem fe_211_0 : am_fetch 211 0 = some (.aload_n 0, 1, 1, 0, 0) := by decide +kernel
theorem fe_211_1 : am_fetch 211 1 = some (.getfield 14, 3, 3, 5, 1) := by decide +kernel
theorem fe_211_4 : am_fetch 211 4 = some (.aload_n 0, 1, 1, 0, 0) := by decide +kernel
theorem fe_211_5 : am_fetch 211 5 = some (.getfield 26, 3, 3, 5, 0) := by decide +kernel
theorem fe_211_8 : am_fetch 211 8 = some (.getfield 30, 3, 3, 101, 1) := by decide +kernel
theorem fe_211_11 : am_fetch 211 11 = some (.invokevirtual 33, 3, 7, 16, 0) := by decide +kernel
theorem fe_211_14 : am_fetch 211 14 = some (.aload_n 0, 1, 1, 0, 0) := by decide +kernel
theorem fe_211_15 : am_fetch 211 15 = some (.getfield 20, 3, 3, 5, 2) := by decide +kernel
theorem fe_211_18 : am_fetch 211 18 = some (.invokevirtual 37, 3, 7, 187, 0) := by decide +kernel
theorem fe_211_21 : am_fetch 211 21 = some (.return_, 1, 8, 0, 0) := by decide +kernel
theorem fe_212_0 : am_fetch 212 0 = some (.iconst 0, 1, 0, 0, 0) := by decide +kernel
theorem fe_212_1 : am_fetch 212 1 = some (.istore_n 1, 1, 1, 0, 0) := by decide +kernel
theorem fe_212_2 : am_fetch 212 2 = some (.iconst 0, 1, 0, 0, 0) := by decide +kernel
theorem fe_212_3 : am_fetch 212 3 = some (.istore_n 2, 1, 1, 0, 0) := by decide +kernel
theorem fe_212_4 : am_fetch 212 4 = some (.iload_n 2, 1, 1, 0, 0) := by decide +kernel
theorem fe_212_5 : am_fetch 212 5 = some (.bipush 12, 2, 0, 0, 0) := by decide +kernel
theorem fe_212_7 : am_fetch 212 7 = some (.if_icmp .ge 59, 3, 2, 66, 0) := by decide +kernel
theorem fe_212_10 : am_fetch 212 10 = some (.aload_n 0, 1, 1, 0, 0) := by decide +kernel
theorem fe_212_11 : am_fetch 212 11 = some (.getfield 26, 3, 3, 5, 0) := by decide +kernel
theorem fe_212_14 : am_fetch 212 14 = some (.iload_n 1, 1, 1, 0, 0) := by decide +kernel
theorem fe_212_15 : am_fetch 212 15 = some (.invokevirtual 40, 3, 7, 36, 0) := by decide +kernel
theorem fe_212_18 : am_fetch 212 18 = some (.ifCond .eq 48, 3, 2, 66, 0) := by decide +kernel
theorem fe_212_21 : am_fetch 212 21 = some (.aload_n 0, 1, 1, 0, 0) := by decide +kernel
theorem fe_212_22 : am_fetch 212 22 = some (.getfield 20, 3, 3, 5, 2) := by decide +kernel
theorem fe_212_25 : am_fetch 212 25 = some (.iload_n 1, 1, 1, 0, 0) := by decide +kernel
theorem fe_212_26 : am_fetch 212 26 = some (.iconst 1, 1, 0, 0, 0) := by decide +kernel
theorem fe_212_27 : am_fetch 212 27 = some (.invokevirtual 44, 3, 7, 55, 0) := by decide +kernel
theorem fe_212_30 : am_fetch 212 30 = some (.aload_n 0, 1, 1, 0, 0) := by decide +kernel
theorem fe_212_31 : am_fetch 212 31 = some (.getfield 14, 3, 3, 5, 1) := by decide +kernel
theorem fe_212_34 : am_fetch 212 34 = some (.iload_n 1, 1, 1, 0, 0) := by decide +kernel
theorem fe_212_35 : am_fetch 212 35 = some (.invokevirtual 48, 3, 7, 39, 0) := by decide +kernel
theorem fe_212_38 : am_fetch 212 38 = some (.istore_n 3, 1, 1, 0, 0) := by decide +kernel
theorem fe_212_39 : am_fetch 212 39 = some (.aload_n 0, 1, 1, 0, 0) := by decide +kernel
theorem fe_212_40 : am_fetch 212 40 = some (.getfield 14, 3, 3, 5, 1) := by decide +kernel
theorem fe_212_43 : am_fetch 212 43 = some (.iload_n 1, 1, 1, 0, 0) := by decide +kernel
theorem fe_212_44 : am_fetch 212 44 = some (.iconst 1, 1, 0, 0, 0) := by decide +kernel
theorem fe_212_45 : am_fetch 212 45 = some (.iload_n 3, 1, 1, 0, 0) := by decide +kernel
theorem fe_212_46 : am_fetch 212 46 = some (.isub, 1, 0, 0, 0) := by decide +kernel
theorem fe_212_47 : am_fetch 212 47 = some (.invokevirtual 52, 3, 7, 4, 0) := by decide +kernel
theorem fe_212_50 : am_fetch 212 50 = some (.aload_n 0, 1, 1, 0, 0) := by decide +kernel
theorem fe_212_51 : am_fetch 212 51 = some (.getfield 26, 3, 3, 5, 0) := by decide +kernel
theorem fe_212_54 : am_fetch 212 54 = some (.iload_n 1, 1, 1, 0, 0) := by decide +kernel
theorem fe_212_55 : am_fetch 212 55 = some (.iload_n 3, 1, 1, 0, 0) := by decide +kernel
theorem fe_212_56 : am_fetch 212 56 = some (.invokevirtual 55, 3, 7, 73, 0) := by decide +kernel
theorem fe_212_59 : am_fetch 212 59 = some (.istore_n 1, 1, 1, 0, 0) := by decide +kernel
theorem fe_212_60 : am_fetch 212 60 = some (.iinc 2 1, 3, 1, 0, 0) := by decide +kernel
theorem fe_212_63 : am_fetch 212 63 = some (.goto (-59), 3, 2, 4, 0) := by decide +kernel
theorem fe_212_66 : am_fetch 212 66 = some (.aload_n 0, 1, 1, 0, 0) := by decide +kernel
theorem fe_212_67 : am_fetch 212 67 = some (.getfield 20, 3, 3, 5, 2) := by decide +kernel
theorem fe_212_70 : am_fetch 212 70 = some (.iload_n 1, 1, 1, 0, 0) := by decide +kernel
theorem fe_212_71 : am_fetch 212 71 = some (.iconst 1, 1, 0, 0, 0) := by decide +kernel
theorem fe_212_72 : am_fetch 212 72 = some (.invokevirtual 44, 3, 7, 55, 0) := by decide +kernel
theorem fe_212_75 : am_fetch 212 75 = some (.iload_n 1, 1, 1, 0, 0) := by decide +kernel
theorem fe_212_76 : am_fetch 212 76 = some (.bipush 20, 2, 0, 0, 0) := by decide +kernel
theorem fe_212_78 : am_fetch 212 78 = some (.isub, 1, 0, 0, 0) := by decide +kernel
theorem fe_212_79 : am_fetch 212 79 = some (.ireturn, 1, 8, 0, 0) := by decide +kernel
theorem fe_213_0 : am_fetch 213 0 = some (.aload_n 0, 1, 1, 0, 0) := by decide +kernel
theorem fe_213_1 : am_fetch 213 1 = some (.getfield 26, 3, 3, 5, 0) := by decide +kernel
theorem fe_213_4 : am_fetch 213 4 = some (.iconst 0, 1, 0, 0, 0) := by decide +kernel
theorem fe_213_5 : am_fetch 213 5 = some (.invokevirtual 40, 3, 7, 36, 0) := by decide +kernel
theorem fe_213_8 : am_fetch 213 8 = some (.ifCond .ne 5, 3, 2, 13, 0) := by decide +kernel
theorem fe_213_11 : am_fetch 213 11 = some (.iconst 0, 1, 0, 0, 0) := by decide +kernel
theorem fe_213_12 : am_fetch 213 12 = some (.ireturn, 1, 8, 0, 0) := by decide +kernel
theorem fe_213_13 : am_fetch 213 13 = some (.aload_n 0, 1, 1, 0, 0) := by decide +kernel
theorem fe_213_14 : am_fetch 213 14 = some (.invokevirtual 59, 3, 7, 211, 0) := by decide +kernel
theorem fe_213_17 : am_fetch 213 17 = some (.iconst 0, 1, 0, 0, 0) := by decide +kernel
theorem fe_213_18 : am_fetch 213 18 = some (.istore_n 3, 1, 1, 0, 0) := by decide +kernel
theorem fe_213_19 : am_fetch 213 19 = some (.iload_n 3, 1, 1, 0, 0) := by decide +kernel
theorem fe_213_20 : am_fetch 213 20 = some (.iload_n 1, 1, 1, 0, 0) := by decide +kernel
theorem fe_213_21 : am_fetch 213 21 = some (.if_icmp .ge 14, 3, 2, 35, 0) := by decide +kernel
theorem fe_213_24 : am_fetch 213 24 = some (.aload_n 0, 1, 1, 0, 0) := by decide +kernel
theorem fe_213_25 : am_fetch 213 25 = some (.invokevirtual 62, 3, 7, 212, 0) := by decide +kernel
theorem fe_213_28 : am_fetch 213 28 = some (.pop, 1, 0, 0, 0) := by decide +kernel
theorem fe_213_29 : am_fetch 213 29 = some (.iinc 3 1, 3, 1, 0, 0) := by decide +kernel
theorem fe_213_32 : am_fetch 213 32 = some (.goto (-13), 3, 2, 19, 0) := by decide +kernel
theorem fe_213_35 : am_fetch 213 35 = some (.aload_n 0, 1, 1, 0, 0) := by decide +kernel
theorem fe_213_36 : am_fetch 213 36 = some (.getfield 20, 3, 3, 5, 2) := by decide +kernel
theorem fe_213_39 : am_fetch 213 39 = some (.iload_n 2, 1, 1, 0, 0) := by decide +kernel
theorem fe_213_40 : am_fetch 213 40 = some (.invokevirtual 48, 3, 7, 39, 0) := by decide +kernel
theorem fe_213_43 : am_fetch 213 43 = some (.ireturn, 1, 8, 0, 0) := by decide +kernel
theorem fe_214_0 : am_fetch 214 0 = some (.aload_n 0, 1, 1, 0, 0) := by decide +kernel
theorem fe_214_1 : am_fetch 214 1 = some (.getfield 20, 3, 3, 5, 2) := by decide +kernel
theorem fe_214_4 : am_fetch 214 4 = some (.invokevirtual 37, 3, 7, 187, 0) := by decide +kernel
theorem fe_214_7 : am_fetch 214 7 = some (.aload_n 0, 1, 1, 0, 0) := by decide +kernel
theorem fe_214_8 : am_fetch 214 8 = some (.getfield 20, 3, 3, 5, 2) := by decide +kernel
theorem fe_214_11 : am_fetch 214 11 = some (.iconst 0, 1, 0, 0, 0) := by decide +kernel
theorem fe_214_12 : am_fetch 214 12 = some (.iload_n 1, 1, 1, 0, 0) := by decide +kernel
theorem fe_214_13 : am_fetch 214 13 = some (.invokevirtual 52, 3, 7, 4, 0) := by decide +kernel
theorem fe_214_16 : am_fetch 214 16 = some (.iconst 0, 1, 0, 0, 0) := by decide +kernel
theorem fe_214_17 : am_fetch 214 17 = some (.istore_n 3, 1, 1, 0, 0) := by decide +kernel
theorem fe_214_18 : am_fetch 214 18 = some (.iload_n 3, 1, 1, 0, 0) := by decide +kernel
theorem fe_214_19 : am_fetch 214 19 = some (.aload_n 0, 1, 1, 0, 0) := by decide +kernel
theorem fe_214_20 : am_fetch 214 20 = some (.getfield 26, 3, 3, 5, 0) := by decide +kernel
theorem fe_214_23 : am_fetch 214 23 = some (.getfield 66, 3, 3, 101, 0) := by decide +kernel
theorem fe_214_26 : am_fetch 214 26 = some (.if_icmp .ge 78, 3, 2, 104, 0) := by decide +kernel
theorem fe_214_29 : am_fetch 214 29 = some (.aload_n 0, 1, 1, 0, 0) := by decide +kernel
theorem fe_214_30 : am_fetch 214 30 = some (.getfield 26, 3, 3, 5, 0) := by decide +kernel
theorem fe_214_33 : am_fetch 214 33 = some (.getfield 30, 3, 3, 101, 1) := by decide +kernel
theorem fe_214_36 : am_fetch 214 36 = some (.iload_n 3, 1, 1, 0, 0) := by decide +kernel
theorem fe_214_37 : am_fetch 214 37 = some (.invokevirtual 48, 3, 7, 39, 0) := by decide +kernel
theorem fe_214_40 : am_fetch 214 40 = some (.istore 4, 2, 1, 0, 0) := by decide +kernel
theorem fe_214_42 : am_fetch 214 42 = some (.aload_n 0, 1, 1, 0, 0) := by decide +kernel
theorem fe_214_43 : am_fetch 214 43 = some (.getfield 20, 3, 3, 5, 2) := by decide +kernel
theorem fe_214_46 : am_fetch 214 46 = some (.iload_n 3, 1, 1, 0, 0) := by decide +kernel
theorem fe_214_47 : am_fetch 214 47 = some (.invokevirtual 48, 3, 7, 39, 0) := by decide +kernel
theorem fe_214_50 : am_fetch 214 50 = some (.istore 5, 2, 1, 0, 0) := by decide +kernel
theorem fe_214_52 : am_fetch 214 52 = some (.aload_n 0, 1, 1, 0, 0) := by decide +kernel
theorem fe_214_53 : am_fetch 214 53 = some (.getfield 20, 3, 3, 5, 2) := by decide +kernel
theorem fe_214_56 : am_fetch 214 56 = some (.aload_n 0, 1, 1, 0, 0) := by decide +kernel
theorem fe_214_57 : am_fetch 214 57 = some (.getfield 26, 3, 3, 5, 0) := by decide +kernel
theorem fe_214_60 : am_fetch 214 60 = some (.iload_n 3, 1, 1, 0, 0) := by decide +kernel
theorem fe_214_61 : am_fetch 214 61 = some (.iload 4, 2, 1, 0, 0) := by decide +kernel
theorem fe_214_63 : am_fetch 214 63 = some (.invokevirtual 55, 3, 7, 73, 0) := by decide +kernel
theorem fe_214_66 : am_fetch 214 66 = some (.iload 5, 2, 1, 0, 0) := by decide +kernel
theorem fe_214_68 : am_fetch 214 68 = some (.iconst 1, 1, 0, 0, 0) := by decide +kernel
theorem fe_214_69 : am_fetch 214 69 = some (.iadd, 1, 0, 0, 0) := by decide +kernel
theorem fe_214_70 : am_fetch 214 70 = some (.iconst 2, 1, 0, 0, 0) := by decide +kernel
theorem fe_214_71 : am_fetch 214 71 = some (.idiv, 1, 0, 0, 0) := by decide +kernel
theorem fe_214_72 : am_fetch 214 72 = some (.invokevirtual 44, 3, 7, 55, 0) := by decide +kernel
theorem fe_214_75 : am_fetch 214 75 = some (.aload_n 0, 1, 1, 0, 0) := by decide +kernel
theorem fe_214_76 : am_fetch 214 76 = some (.getfield 20, 3, 3, 5, 2) := by decide +kernel
theorem fe_214_79 : am_fetch 214 79 = some (.aload_n 0, 1, 1, 0, 0) := by decide +kernel
theorem fe_214_80 : am_fetch 214 80 = some (.getfield 26, 3, 3, 5, 0) := by decide +kernel
theorem fe_214_83 : am_fetch 214 83 = some (.iload_n 3, 1, 1, 0, 0) := by decide +kernel
theorem fe_214_84 : am_fetch 214 84 = some (.iconst 1, 1, 0, 0, 0) := by decide +kernel
theorem fe_214_85 : am_fetch 214 85 = some (.iload 4, 2, 1, 0, 0) := by decide +kernel
theorem fe_214_87 : am_fetch 214 87 = some (.isub, 1, 0, 0, 0) := by decide +kernel
theorem fe_214_88 : am_fetch 214 88 = some (.invokevirtual 55, 3, 7, 73, 0) := by decide +kernel
theorem fe_214_91 : am_fetch 214 91 = some (.iload 5, 2, 1, 0, 0) := by decide +kernel
theorem fe_214_93 : am_fetch 214 93 = some (.iconst 2, 1, 0, 0, 0) := by decide +kernel
theorem fe_214_94 : am_fetch 214 94 = some (.idiv, 1, 0, 0, 0) := by decide +kernel
theorem fe_214_95 : am_fetch 214 95 = some (.invokevirtual 44, 3, 7, 55, 0) := by decide +kernel
theorem fe_214_98 : am_fetch 214 98 = some (.iinc 3 1, 3, 1, 0, 0) := by decide +kernel
theorem fe_214_101 : am_fetch 214 101 = some (.goto (-83), 3, 2, 18, 0) := by decide +kernel
theorem fe_214_104 : am_fetch 214 104 = some (.aload_n 0, 1, 1, 0, 0) := by decide +kernel
theorem fe_214_105 : am_fetch 214 105 = some (.getfield 20, 3, 3, 5, 2) := by decide +kernel
theorem fe_214_108 : am_fetch 214 108 = some (.iload_n 2, 1, 1, 0, 0) := by decide +kernel
theorem fe_214_109 : am_fetch 214 109 = some (.invokevirtual 48, 3, 7, 39, 0) := by decide +kernel
theorem fe_214_112 : am_fetch 214 112 = some (.ireturn, 1, 8, 0, 0) := by decide +kernel
theorem fe_215_0 : am_fetch 215 0 = some (.aload_n 0, 1, 1, 0, 0) := by decide +kernel
theorem fe_215_1 : am_fetch 215 1 = some (.getfield 12, 3, 3, 10, 0) := by decide +kernel
theorem fe_215_4 : am_fetch 215 4 = some (.getfield 18, 3, 3, 107, 8) := by decide +kernel
theorem fe_215_7 : am_fetch 215 7 = some (.iload_n 2, 1, 1, 0, 0) := by decide +kernel
theorem fe_215_8 : am_fetch 215 8 = some (.invokevirtual 99, 3, 7, 38, 0) := by decide +kernel
theorem fe_215_11 : am_fetch 215 11 = some (.ifCond .ne 14, 3, 2, 25, 0) := by decide +kernel
theorem fe_215_14 : am_fetch 215 14 = some (.new 102, 3, 9, 2, 0) := by decide +kernel
theorem fe_215_17 : am_fetch 215 17 = some (.dup, 1, 0, 0, 0) := by decide +kernel
theorem fe_215_25 : am_fetch 215 25 = some (.iload_n 1, 1, 1, 0, 0) := by decide +kernel
theorem fe_215_26 : am_fetch 215 26 = some (.invokestatic 358, 3, 7, 210, 0) := by decide +kernel
theorem fe_215_29 : am_fetch 215 29 = some (.ifCond .eq 12, 3, 2, 41, 0) := by decide +kernel
theorem fe_215_32 : am_fetch 215 32 = some (.iload_n 3, 1, 1, 0, 0) := by decide +kernel
theorem fe_215_33 : am_fetch 215 33 = some (.ifCond .eq 19, 3, 2, 52, 0) := by decide +kernel
theorem fe_215_36 : am_fetch 215 36 = some (.iload_n 3, 1, 1, 0, 0) := by decide +kernel
theorem fe_215_37 : am_fetch 215 37 = some (.iconst 1, 1, 0, 0, 0) := by decide +kernel
theorem fe_215_38 : am_fetch 215 38 = some (.if_icmp .eq 14, 3, 2, 52, 0) := by decide +kernel
theorem fe_215_41 : am_fetch 215 41 = some (.new 69, 3, 9, 0, 0) := by decide +kernel
theorem fe_215_44 : am_fetch 215 44 = some (.dup, 1, 0, 0, 0) := by decide +kernel
theorem fe_215_52 : am_fetch 215 52 = some (.iload_n 3, 1, 1, 0, 0) := by decide +kernel
theorem fe_215_53 : am_fetch 215 53 = some (.ifCond .ne 15, 3, 2, 68, 0) := by decide +kernel
theorem fe_215_56 : am_fetch 215 56 = some (.aload_n 0, 1, 1, 0, 0) := by decide +kernel
theorem fe_215_57 : am_fetch 215 57 = some (.getfield 25, 3, 3, 10, 1) := by decide +kernel
theorem fe_215_60 : am_fetch 215 60 = some (.iload_n 1, 1, 1, 0, 0) := by decide +kernel
theorem fe_215_61 : am_fetch 215 61 = some (.iload_n 2, 1, 1, 0, 0) := by decide +kernel
theorem fe_215_62 : am_fetch 215 62 = some (.invokevirtual 363, 3, 7, 213, 0) := by decide +kernel
theorem fe_215_65 : am_fetch 215 65 = some (.goto 12, 3, 2, 77, 0) := by decide +kernel
theorem fe_215_68 : am_fetch 215 68 = some (.aload_n 0, 1, 1, 0, 0) := by decide +kernel
theorem fe_215_69 : am_fetch 215 69 = some (.getfield 25, 3, 3, 10, 1) := by decide +kernel
theorem fe_215_72 : am_fetch 215 72 = some (.iload_n 1, 1, 1, 0, 0) := by decide +kernel
theorem fe_215_73 : am_fetch 215 73 = some (.iload_n 2, 1, 1, 0, 0) := by decide +kernel
theorem fe_215_74 : am_fetch 215 74 = some (.invokevirtual 366, 3, 7, 214, 0) := by decide +kernel
theorem fe_215_77 : am_fetch 215 77 = some (.ireturn, 1, 8, 0, 0) := by decide +kernel
theorem fe_216_0 : am_fetch 216 0 = some (.aload 4, 2, 1, 0, 0) := by decide +kernel
theorem fe_216_2 : am_fetch 216 2 = some (.iconst 0, 1, 0, 0, 0) := by decide +kernel
theorem fe_216_3 : am_fetch 216 3 = some (.aload_n 0, 1, 1, 0, 0) := by decide +kernel
theorem fe_216_4 : am_fetch 216 4 = some (.iload_n 1, 1, 1, 0, 0) := by decide +kernel
theorem fe_216_5 : am_fetch 216 5 = some (.iload_n 2, 1, 1, 0, 0) := by decide +kernel
theorem fe_216_6 : am_fetch 216 6 = some (.iload_n 3, 1, 1, 0, 0) := by decide +kernel
theorem fe_216_7 : am_fetch 216 7 = some (.invokevirtual 79, 3, 7, 215, 0) := by decide +kernel
theorem fe_216_10 : am_fetch 216 10 = some (.i2l, 1, 0, 0, 0) := by decide +kernel
theorem fe_216_11 : am_fetch 216 11 = some (.lastore, 1, 4, 0, 0) := by decide +kernel
theorem fe_216_12 : am_fetch 216 12 = some (.goto 11, 3, 2, 23, 0) := by decide +kernel
theorem fe_216_15 : am_fetch 216 15 = some (.astore 5, 2, 1, 0, 0) := by decide +kernel
theorem fe_216_17 : am_fetch 216 17 = some (.iconst 1, 1, 0, 0, 0) := by decide +kernel
theorem fe_216_18 : am_fetch 216 18 = some (.ireturn, 1, 8, 0, 0) := by decide +kernel
theorem fe_216_19 : am_fetch 216 19 = some (.astore 5, 2, 1, 0, 0) := by decide +kernel
theorem fe_216_21 : am_fetch 216 21 = some (.iconst 2, 1, 0, 0, 0) := by decide +kernel
theorem fe_216_22 : am_fetch 216 22 = some (.ireturn, 1, 8, 0, 0) := by decide +kernel
theorem fe_216_23 : am_fetch 216 23 = some (.iconst 0, 1, 0, 0, 0) := by decide +kernel
theorem fe_216_24 : am_fetch 216 24 = some (.ireturn, 1, 8, 0, 0) := by decide +kernel
theorem fe_217_0 : am_fetch 217 0 = some (.iload_n 0, 1, 1, 0, 0) := by decide +kernel
theorem fe_217_1 : am_fetch 217 1 = some (.iconst 0, 1, 0, 0, 0) := by decide +kernel
theorem fe_217_2 : am_fetch 217 2 = some (.sipush 1000, 3, 0, 0, 0) := by decide +kernel
theorem fe_217_5 : am_fetch 217 5 = some (.invokestatic 36, 3, 7, 26, 0) := by decide +kernel
theorem fe_217_8 : am_fetch 217 8 = some (.ireturn, 1, 8, 0, 0) := by decide +kernel
theorem fe_218_0 : am_fetch 218 0 = some (.iconst 0, 1, 0, 0, 0) := by decide +kernel
theorem fe_218_1 : am_fetch 218 1 = some (.istore_n 2, 1, 1, 0, 0) := by decide +kernel
theorem fe_218_2 : am_fetch 218 2 = some (.iload_n 2, 1, 1, 0, 0) := by decide +kernel
theorem fe_218_3 : am_fetch 218 3 = some (.bipush 25, 2, 0, 0, 0) := by decide +kernel
theorem fe_218_5 : am_fetch 218 5 = some (.if_icmp .ge 16, 3, 2, 21, 0) := by decide +kernel
theorem fe_218_8 : am_fetch 218 8 = some (.aload_n 0, 1, 1, 0, 0) := by decide +kernel
theorem fe_218_9 : am_fetch 218 9 = some (.getfield 26, 3, 3, 11, 8) := by decide +kernel
theorem fe_218_12 : am_fetch 218 12 = some (.iload_n 2, 1, 1, 0, 0) := by decide +kernel
theorem fe_218_13 : am_fetch 218 13 = some (.iconst 0, 1, 0, 0, 0) := by decide +kernel
theorem fe_218_14 : am_fetch 218 14 = some (.iastore, 1, 4, 0, 0) := by decide +kernel
theorem fe_218_15 : am_fetch 218 15 = some (.iinc 2 1, 3, 1, 0, 0) := by decide +kernel
theorem fe_218_18 : am_fetch 218 18 = some (.goto (-16), 3, 2, 2, 0) := by decide +kernel
theorem fe_218_21 : am_fetch 218 21 = some (.aload_n 0, 1, 1, 0, 0) := by decide +kernel
theorem fe_218_22 : am_fetch 218 22 = some (.getfield 7, 3, 3, 11, 0) := by decide +kernel
theorem fe_218_25 : am_fetch 218 25 = some (.iconst 1, 1, 0, 0, 0) := by decide +kernel
theorem fe_218_26 : am_fetch 218 26 = some (.iaload, 1, 3, 0, 0) := by decide +kernel
theorem fe_218_27 : am_fetch 218 27 = some (.ifCond .le 10, 3, 2, 37, 0) := by decide +kernel
theorem fe_218_30 : am_fetch 218 30 = some (.aload_n 0, 1, 1, 0, 0) := by decide +kernel
theorem fe_218_31 : am_fetch 218 31 = some (.getfield 26, 3, 3, 11, 8) := by decide +kernel
theorem fe_218_34 : am_fetch 218 34 = some (.iconst 0, 1, 0, 0, 0) := by decide +kernel
theorem fe_218_35 : am_fetch 218 35 = some (.iload_n 1, 1, 1, 0, 0) := by decide +kernel
theorem fe_218_36 : am_fetch 218 36 = some (.iastore, 1, 4, 0, 0) := by decide +kernel
theorem fe_218_37 : am_fetch 218 37 = some (.iconst 0, 1, 0, 0, 0) := by decide +kernel
theorem fe_218_38 : am_fetch 218 38 = some (.istore_n 2, 1, 1, 0, 0) := by decide +kernel
theorem fe_218_39 : am_fetch 218 39 = some (.iload_n 2, 1, 1, 0, 0) := by decide +kernel
theorem fe_218_40 : am_fetch 218 40 = some (.aload_n 0, 1, 1, 0, 0) := by decide +kernel
theorem fe_218_41 : am_fetch 218 41 = some (.getfield 7, 3, 3, 11, 0) := by decide +kernel
theorem fe_218_44 : am_fetch 218 44 = some (.iconst 1, 1, 0, 0, 0) := by decide +kernel
theorem fe_218_45 : am_fetch 218 45 = some (.iaload, 1, 3, 0, 0) := by decide +kernel
theorem fe_218_46 : am_fetch 218 46 = some (.if_icmp .ge 69, 3, 2, 115, 0) := by decide +kernel
theorem fe_218_49 : am_fetch 218 49 = some (.aload_n 0, 1, 1, 0, 0) := by decide +kernel
theorem fe_218_50 : am_fetch 218 50 = some (.getfield 26, 3, 3, 11, 8) := by decide +kernel
theorem fe_218_53 : am_fetch 218 53 = some (.aload_n 0, 1, 1, 0, 0) := by decide +kernel
theorem fe_218_54 : am_fetch 218 54 = some (.iload_n 2, 1, 1, 0, 0) := by decide +kernel
theorem fe_218_55 : am_fetch 218 55 = some (.iconst 2, 1, 0, 0, 0) := by decide +kernel
theorem fe_218_56 : am_fetch 218 56 = some (.aload_n 0, 1, 1, 0, 0) := by decide +kernel
theorem fe_218_57 : am_fetch 218 57 = some (.iload_n 2, 1, 1, 0, 0) := by decide +kernel
theorem fe_218_58 : am_fetch 218 58 = some (.iconst 0, 1, 0, 0, 0) := by decide +kernel
theorem fe_218_59 : am_fetch 218 59 = some (.invokevirtual 54, 3, 7, 48, 0) := by decide +kernel
theorem fe_218_62 : am_fetch 218 62 = some (.iadd, 1, 0, 0, 0) := by decide +kernel
theorem fe_218_63 : am_fetch 218 63 = some (.invokevirtual 54, 3, 7, 48, 0) := by decide +kernel
theorem fe_218_66 : am_fetch 218 66 = some (.dup2, 1, 0, 0, 0) := by decide +kernel
theorem fe_218_67 : am_fetch 218 67 = some (.iaload, 1, 3, 0, 0) := by decide +kernel
theorem fe_218_68 : am_fetch 218 68 = some (.aload_n 0, 1, 1, 0, 0) := by decide +kernel
theorem fe_218_69 : am_fetch 218 69 = some (.getfield 26, 3, 3, 11, 8) := by decide +kernel
theorem fe_218_72 : am_fetch 218 72 = some (.iload_n 2, 1, 1, 0, 0) := by decide +kernel
theorem fe_218_73 : am_fetch 218 73 = some (.iaload, 1, 3, 0, 0) := by decide +kernel
theorem fe_218_74 : am_fetch 218 74 = some (.iconst 1, 1, 0, 0, 0) := by decide +kernel
theorem fe_218_75 : am_fetch 218 75 = some (.iadd, 1, 0, 0, 0) := by decide +kernel
theorem fe_218_76 : am_fetch 218 76 = some (.iconst 2, 1, 0, 0, 0) := by decide +kernel
theorem fe_218_77 : am_fetch 218 77 = some (.idiv, 1, 0, 0, 0) := by decide +kernel
theorem fe_218_78 : am_fetch 218 78 = some (.iadd, 1, 0, 0, 0) := by decide +kernel
theorem fe_218_79 : am_fetch 218 79 = some (.iastore, 1, 4, 0, 0) := by decide +kernel
theorem fe_218_80 : am_fetch 218 80 = some (.aload_n 0, 1, 1, 0, 0) := by decide +kernel
theorem fe_218_81 : am_fetch 218 81 = some (.getfield 26, 3, 3, 11, 8) := by decide +kernel
theorem fe_218_84 : am_fetch 218 84 = some (.aload_n 0, 1, 1, 0, 0) := by decide +kernel
theorem fe_218_85 : am_fetch 218 85 = some (.iload_n 2, 1, 1, 0, 0) := by decide +kernel
theorem fe_218_86 : am_fetch 218 86 = some (.iconst 3, 1, 0, 0, 0) := by decide +kernel
theorem fe_218_87 : am_fetch 218 87 = some (.aload_n 0, 1, 1, 0, 0) := by decide +kernel
theorem fe_218_88 : am_fetch 218 88 = some (.iload_n 2, 1, 1, 0, 0) := by decide +kernel
theorem fe_218_89 : am_fetch 218 89 = some (.iconst 0, 1, 0, 0, 0) := by decide +kernel
theorem fe_218_90 : am_fetch 218 90 = some (.invokevirtual 54, 3, 7, 48, 0) := by decide +kernel
theorem fe_218_93 : am_fetch 218 93 = some (.isub, 1, 0, 0, 0) := by decide +kernel
theorem fe_218_94 : am_fetch 218 94 = some (.invokevirtual 54, 3, 7, 48, 0) := by decide +kernel
theorem fe_218_97 : am_fetch 218 97 = some (.dup2, 1, 0, 0, 0) := by decide +kernel
theorem fe_218_98 : am_fetch 218 98 = some (.iaload, 1, 3, 0, 0) := by decide +kernel
theorem fe_218_99 : am_fetch 218 99 = some (.aload_n 0, 1, 1, 0, 0) := by decide +kernel
theorem fe_218_100 : am_fetch 218 100 = some (.getfield 26, 3, 3, 11, 8) := by decide +kernel
theorem fe_218_103 : am_fetch 218 103 = some (.iload_n 2, 1, 1, 0, 0) := by decide +kernel
theorem fe_218_104 : am_fetch 218 104 = some (.iaload, 1, 3, 0, 0) := by decide +kernel
theorem fe_218_105 : am_fetch 218 105 = some (.iconst 2, 1, 0, 0, 0) := by decide +kernel
theorem fe_218_106 : am_fetch 218 106 = some (.idiv, 1, 0, 0, 0) := by decide +kernel
theorem fe_218_107 : am_fetch 218 107 = some (.iadd, 1, 0, 0, 0) := by decide +kernel
theorem fe_218_108 : am_fetch 218 108 = some (.iastore, 1, 4, 0, 0) := by decide +kernel
theorem fe_218_109 : am_fetch 218 109 = some (.iinc 2 1, 3, 1, 0, 0) := by decide +kernel
theorem fe_218_112 : am_fetch 218 112 = some (.goto (-73), 3, 2, 39, 0) := by decide +kernel
theorem fe_218_115 : am_fetch 218 115 = some (.return_, 1, 8, 0, 0) := by decide +kernel
theorem fe_219_0 : am_fetch 219 0 = some (.aload_n 0, 1, 1, 0, 0) := by decide +kernel
theorem fe_219_1 : am_fetch 219 1 = some (.aload_n 0, 1, 1, 0, 0) := by decide +kernel
theorem fe_219_2 : am_fetch 219 2 = some (.iload_n 2, 1, 1, 0, 0) := by decide +kernel
theorem fe_219_3 : am_fetch 219 3 = some (.invokevirtual 82, 3, 7, 46, 0) := by decide +kernel
theorem fe_219_6 : am_fetch 219 6 = some (.ifCond .ne 7, 3, 2, 13, 0) := by decide +kernel
theorem fe_219_9 : am_fetch 219 9 = some (.iconst 1, 1, 0, 0, 0) := by decide +kernel
theorem fe_219_10 : am_fetch 219 10 = some (.goto 24, 3, 2, 34, 0) := by decide +kernel
theorem fe_219_13 : am_fetch 219 13 = some (.iload_n 1, 1, 1, 0, 0) := by decide +kernel
theorem fe_219_14 : am_fetch 219 14 = some (.invokestatic 203, 3, 7, 217, 0) := by decide +kernel
theorem fe_219_17 : am_fetch 219 17 = some (.ifCond .eq 12, 3, 2, 29, 0) := by decide +kernel
theorem fe_219_20 : am_fetch 219 20 = some (.iload_n 3, 1, 1, 0, 0) := by decide +kernel
theorem fe_219_21 : am_fetch 219 21 = some (.iconst 0, 1, 0, 0, 0) := by decide +kernel
theorem fe_219_22 : am_fetch 219 22 = some (.iconst 1, 1, 0, 0, 0) := by decide +kernel
theorem fe_219_23 : am_fetch 219 23 = some (.invokestatic 36, 3, 7, 26, 0) := by decide +kernel
theorem fe_219_26 : am_fetch 219 26 = some (.ifCond .ne 7, 3, 2, 33, 0) := by decide +kernel
theorem fe_219_29 : am_fetch 219 29 = some (.iconst 2, 1, 0, 0, 0) := by decide +kernel
theorem fe_219_30 : am_fetch 219 30 = some (.goto 4, 3, 2, 34, 0) := by decide +kernel
theorem fe_219_33 : am_fetch 219 33 = some (.iconst 0, 1, 0, 0, 0) := by decide +kernel
theorem fe_219_34 : am_fetch 219 34 = some (.invokevirtual 91, 3, 7, 29, 0) := by decide +kernel
theorem fe_219_37 : am_fetch 219 37 = some (.ifCond .ne 5, 3, 2, 42, 0) := by decide +kernel
theorem fe_219_40 : am_fetch 219 40 = some (.iconst 0, 1, 0, 0, 0) := by decide +kernel
theorem fe_219_41 : am_fetch 219 41 = some (.ireturn, 1, 8, 0, 0) := by decide +kernel
theorem fe_219_42 : am_fetch 219 42 = some (.aload_n 0, 1, 1, 0, 0) := by decide +kernel
theorem fe_219_43 : am_fetch 219 43 = some (.iload_n 1, 1, 1, 0, 0) := by decide +kernel
theorem fe_219_44 : am_fetch 219 44 = some (.invokevirtual 206, 3, 7, 218, 0) := by decide +kernel
theorem fe_219_47 : am_fetch 219 47 = some (.aload_n 0, 1, 1, 0, 0) := by decide +kernel
theorem fe_219_48 : am_fetch 219 48 = some (.getfield 26, 3, 3, 11, 8) := by decide +kernel
theorem fe_219_51 : am_fetch 219 51 = some (.iload_n 2, 1, 1, 0, 0) := by decide +kernel
theorem fe_219_52 : am_fetch 219 52 = some (.iaload, 1, 3, 0, 0) := by decide +kernel
theorem fe_219_53 : am_fetch 219 53 = some (.ireturn, 1, 8, 0, 0) := by decide +kernel
theorem fe_220_0 : am_fetch 220 0 = some (.aload_n 0, 1, 1, 0, 0) := by decide +kernel
theorem fe_220_1 : am_fetch 220 1 = some (.getfield 26, 3, 3, 5, 0) := by decide +kernel
theorem fe_220_4 : am_fetch 220 4 = some (.getfield 30, 3, 3, 101, 1) := by decide +kernel
theorem fe_220_7 : am_fetch 220 7 = some (.iload_n 2, 1, 1, 0, 0) := by decide +kernel
theorem fe_220_8 : am_fetch 220 8 = some (.invokevirtual 48, 3, 7, 39, 0) := by decide +kernel
theorem fe_220_11 : am_fetch 220 11 = some (.aload_n 0, 1, 1, 0, 0) := by decide +kernel
theorem fe_220_12 : am_fetch 220 12 = some (.iload_n 1, 1, 1, 0, 0) := by decide +kernel
theorem fe_220_13 : am_fetch 220 13 = some (.iload_n 2, 1, 1, 0, 0) := by decide +kernel
theorem fe_220_14 : am_fetch 220 14 = some (.invokevirtual 70, 3, 7, 214, 0) := by decide +kernel
theorem fe_220_17 : am_fetch 220 17 = some (.iadd, 1, 0, 0, 0) := by decide +kernel
theorem fe_220_18 : am_fetch 220 18 = some (.iconst 2, 1, 0, 0, 0) := by decide +kernel
theorem fe_220_19 : am_fetch 220 19 = some (.irem, 1, 0, 0, 0) := by decide +kernel
theorem fe_220_20 : am_fetch 220 20 = some (.ireturn, 1, 8, 0, 0) := by decide +kernel
theorem fe_221_0 : am_fetch 221 0 = some (.aload_n 0, 1, 1, 0, 0) := by decide +kernel
theorem fe_221_1 : am_fetch 221 1 = some (.getfield 12, 3, 3, 10, 0) := by decide +kernel
theorem fe_221_4 : am_fetch 221 4 = some (.getfield 18, 3, 3, 107, 8) := by decide +kernel
theorem fe_221_7 : am_fetch 221 7 = some (.iload_n 2, 1, 1, 0, 0) := by decide +kernel
theorem fe_221_8 : am_fetch 221 8 = some (.invokevirtual 113, 3, 7, 36, 0) := by decide +kernel
theorem fe_221_11 : am_fetch 221 11 = some (.ifCond .ne 13, 3, 2, 24, 0) := by decide +kernel
theorem fe_221_14 : am_fetch 221 14 = some (.new 102, 3, 9, 2, 0) := by decide +kernel
theorem fe_221_17 : am_fetch 221 17 = some (.dup, 1, 0, 0, 0) := by decide +kernel
theorem fe_221_24 : am_fetch 221 24 = some (.iload_n 1, 1, 1, 0, 0) := by decide +kernel
theorem fe_221_25 : am_fetch 221 25 = some (.invokestatic 358, 3, 7, 210, 0) := by decide +kernel
theorem fe_221_28 : am_fetch 221 28 = some (.ifCond .ne 14, 3, 2, 42, 0) := by decide +kernel
theorem fe_221_31 : am_fetch 221 31 = some (.new 69, 3, 9, 0, 0) := by decide +kernel
theorem fe_221_34 : am_fetch 221 34 = some (.dup, 1, 0, 0, 0) := by decide +kernel
theorem fe_221_42 : am_fetch 221 42 = some (.aload_n 0, 1, 1, 0, 0) := by decide +kernel
theorem fe_221_43 : am_fetch 221 43 = some (.getfield 25, 3, 3, 10, 1) := by decide +kernel
theorem fe_221_46 : am_fetch 221 46 = some (.iload_n 1, 1, 1, 0, 0) := by decide +kernel
theorem fe_221_47 : am_fetch 221 47 = some (.iload_n 2, 1, 1, 0, 0) := by decide +kernel
theorem fe_221_48 : am_fetch 221 48 = some (.invokevirtual 371, 3, 7, 220, 0) := by decide +kernel
theorem fe_221_51 : am_fetch 221 51 = some (.ireturn, 1, 8, 0, 0) := by decide +kernel
theorem fe_222_0 : am_fetch 222 0 = some (.aload_n 3, 1, 1, 0, 0) := by decide +kernel
theorem fe_222_1 : am_fetch 222 1 = some (.iconst 0, 1, 0, 0, 0) := by decide +kernel
theorem fe_222_2 : am_fetch 222 2 = some (.aload_n 0, 1, 1, 0, 0) := by decide +kernel
theorem fe_222_3 : am_fetch 222 3 = some (.iload_n 1, 1, 1, 0, 0) := by decide +kernel
theorem fe_222_4 : am_fetch 222 4 = some (.iload_n 2, 1, 1, 0, 0) := by decide +kernel
theorem fe_222_5 : am_fetch 222 5 = some (.invokevirtual 82, 3, 7, 221, 0) := by decide +kernel
theorem fe_222_8 : am_fetch 222 8 = some (.i2l, 1, 0, 0, 0) := by decide +kernel
theorem fe_222_9 : am_fetch 222 9 = some (.lastore, 1, 4, 0, 0) := by decide +kernel
theorem fe_222_10 : am_fetch 222 10 = some (.goto 11, 3, 2, 21, 0) := by decide +kernel
theorem fe_222_13 : am_fetch 222 13 = some (.astore 4, 2, 1, 0, 0) := by decide +kernel
theorem fe_222_15 : am_fetch 222 15 = some (.iconst 1, 1, 0, 0, 0) := by decide +kernel
theorem fe_222_16 : am_fetch 222 16 = some (.ireturn, 1, 8, 0, 0) := by decide +kernel
theorem fe_222_17 : am_fetch 222 17 = some (.astore 4, 2, 1, 0, 0) := by decide +kernel
theorem fe_222_19 : am_fetch 222 19 = some (.iconst 2, 1, 0, 0, 0) := by decide +kernel
theorem fe_222_20 : am_fetch 222 20 = some (.ireturn, 1, 8, 0, 0) := by decide +kernel
theorem fe_222_21 : am_fetch 222 21 = some (.iconst 0, 1, 0, 0, 0) := by decide +kernel
theorem fe_222_22 : am_fetch 222 22 = some (.ireturn, 1, 8, 0, 0) := by decide +kernel
theorem fe_223_0 : am_fetch 223 0 = some (.aload_n 0, 1, 1, 0, 0) := by decide +kernel
theorem fe_223_1 : am_fetch 223 1 = some (.aload_n 0, 1, 1, 0, 0) := by decide +kernel
theorem fe_223_2 : am_fetch 223 2 = some (.iload_n 2, 1, 1, 0, 0) := by decide +kernel
theorem fe_223_3 : am_fetch 223 3 = some (.invokevirtual 40, 3, 7, 44, 0) := by decide +kernel
theorem fe_223_6 : am_fetch 223 6 = some (.ifCond .ne 7, 3, 2, 13, 0) := by decide +kernel
theorem fe_223_9 : am_fetch 223 9 = some (.iconst 1, 1, 0, 0, 0) := by decide +kernel
theorem fe_223_10 : am_fetch 223 10 = some (.goto 15, 3, 2, 25, 0) := by decide +kernel
theorem fe_223_13 : am_fetch 223 13 = some (.iload_n 1, 1, 1, 0, 0) := by decide +kernel
theorem fe_223_14 : am_fetch 223 14 = some (.invokestatic 203, 3, 7, 217, 0) := by decide +kernel
theorem fe_223_17 : am_fetch 223 17 = some (.ifCond .ne 7, 3, 2, 24, 0) := by decide +kernel
theorem fe_223_20 : am_fetch 223 20 = some (.iconst 2, 1, 0, 0, 0) := by decide +kernel
theorem fe_223_21 : am_fetch 223 21 = some (.goto 4, 3, 2, 25, 0) := by decide +kernel
theorem fe_223_24 : am_fetch 223 24 = some (.iconst 0, 1, 0, 0, 0) := by decide +kernel
theorem fe_223_25 : am_fetch 223 25 = some (.invokevirtual 91, 3, 7, 29, 0) := by decide +kernel
theorem fe_223_28 : am_fetch 223 28 = some (.ifCond .ne 5, 3, 2, 33, 0) := by decide +kernel
theorem fe_223_31 : am_fetch 223 31 = some (.iconst 0, 1, 0, 0, 0) := by decide +kernel
theorem fe_223_32 : am_fetch 223 32 = some (.ireturn, 1, 8, 0, 0) := by decide +kernel
theorem fe_223_33 : am_fetch 223 33 = some (.aload_n 0, 1, 1, 0, 0) := by decide +kernel
theorem fe_223_34 : am_fetch 223 34 = some (.iload_n 1, 1, 1, 0, 0) := by decide +kernel
theorem fe_223_35 : am_fetch 223 35 = some (.invokevirtual 206, 3, 7, 218, 0) := by decide +kernel
theorem fe_223_38 : am_fetch 223 38 = some (.aload_n 0, 1, 1, 0, 0) := by decide +kernel
theorem fe_223_39 : am_fetch 223 39 = some (.iload_n 2, 1, 1, 0, 0) := by decide +kernel
theorem fe_223_40 : am_fetch 223 40 = some (.iconst 0, 1, 0, 0, 0) := by decide +kernel
theorem fe_223_41 : am_fetch 223 41 = some (.invokevirtual 54, 3, 7, 48, 0) := by decide +kernel
theorem fe_223_44 : am_fetch 223 44 = some (.aload_n 0, 1, 1, 0, 0) := by decide +kernel
theorem fe_223_45 : am_fetch 223 45 = some (.getfield 26, 3, 3, 11, 8) := by decide +kernel
theorem fe_223_48 : am_fetch 223 48 = some (.iload_n 2, 1, 1, 0, 0) := by decide +kernel
theorem fe_223_49 : am_fetch 223 49 = some (.iaload, 1, 3, 0, 0) := by decide +kernel
theorem fe_223_50 : am_fetch 223 50 = some (.iadd, 1, 0, 0, 0) := by decide +kernel
theorem fe_223_51 : am_fetch 223 51 = some (.iconst 2, 1, 0, 0, 0) := by decide +kernel
theorem fe_223_52 : am_fetch 223 52 = some (.irem, 1, 0, 0, 0) := by decide +kernel
theorem fe_223_53 : am_fetch 223 53 = some (.ireturn, 1, 8, 0, 0) := by decide +kernel
theorem fe_224_0 : am_fetch 224 0 = some (.aload_n 0, 1, 1, 0, 0) := by decide +kernel
theorem fe_224_1 : am_fetch 224 1 = some (.getfield 26, 3, 3, 5, 0) := by decide +kernel
theorem fe_224_4 : am_fetch 224 4 = some (.iconst 0, 1, 0, 0, 0) := by decide +kernel
theorem fe_224_5 : am_fetch 224 5 = some (.invokevirtual 40, 3, 7, 36, 0) := by decide +kernel
theorem fe_224_8 : am_fetch 224 8 = some (.ifCond .ne 5, 3, 2, 13, 0) := by decide +kernel
theorem fe_224_11 : am_fetch 224 11 = some (.iconst (-1), 1, 0, 0, 0) := by decide +kernel
theorem fe_224_12 : am_fetch 224 12 = some (.ireturn, 1, 8, 0, 0) := by decide +kernel
theorem fe_224_13 : am_fetch 224 13 = some (.aload_n 0, 1, 1, 0, 0) := by decide +kernel
theorem fe_224_14 : am_fetch 224 14 = some (.invokevirtual 59, 3, 7, 211, 0) := by decide +kernel
theorem fe_224_17 : am_fetch 224 17 = some (.iconst 0, 1, 0, 0, 0) := by decide +kernel
theorem fe_224_18 : am_fetch 224 18 = some (.istore_n 2, 1, 1, 0, 0) := by decide +kernel
theorem fe_224_19 : am_fetch 224 19 = some (.iload_n 2, 1, 1, 0, 0) := by decide +kernel
theorem fe_224_20 : am_fetch 224 20 = some (.iload_n 1, 1, 1, 0, 0) := by decide +kernel
theorem fe_224_21 : am_fetch 224 21 = some (.if_icmp .ge 14, 3, 2, 35, 0) := by decide +kernel
theorem fe_224_24 : am_fetch 224 24 = some (.aload_n 0, 1, 1, 0, 0) := by decide +kernel
theorem fe_224_25 : am_fetch 224 25 = some (.invokevirtual 62, 3, 7, 212, 0) := by decide +kernel
theorem fe_224_28 : am_fetch 224 28 = some (.pop, 1, 0, 0, 0) := by decide +kernel
theorem fe_224_29 : am_fetch 224 29 = some (.iinc 2 1, 3, 1, 0, 0) := by decide +kernel
theorem fe_224_32 : am_fetch 224 32 = some (.goto (-13), 3, 2, 19, 0) := by decide +kernel
theorem fe_224_35 : am_fetch 224 35 = some (.aload_n 0, 1, 1, 0, 0) := by decide +kernel
theorem fe_224_36 : am_fetch 224 36 = some (.invokevirtual 62, 3, 7, 212, 0) := by decide +kernel
theorem fe_224_39 : am_fetch 224 39 = some (.ireturn, 1, 8, 0, 0) := by decide +kernel
theorem fe_225_0 : am_fetch 225 0 = some (.iload_n 1, 1, 1, 0, 0) := by decide +kernel
theorem fe_225_1 : am_fetch 225 1 = some (.ifCond .lt 10, 3, 2, 11, 0) := by decide +kernel
theorem fe_225_4 : am_fetch 225 4 = some (.iload_n 1, 1, 1, 0, 0) := by decide +kernel
theorem fe_225_5 : am_fetch 225 5 = some (.sipush 1000, 3, 0, 0, 0) := by decide +kernel
theorem fe_225_8 : am_fetch 225 8 = some (.if_icmp .lt 14, 3, 2, 22, 0) := by decide +kernel
theorem fe_225_11 : am_fetch 225 11 = some (.new 69, 3, 9, 0, 0) := by decide +kernel
theorem fe_225_14 : am_fetch 225 14 = some (.dup, 1, 0, 0, 0) := by decide +kernel
theorem fe_225_22 : am_fetch 225 22 = some (.aload_n 0, 1, 1, 0, 0) := by decide +kernel
theorem fe_225_23 : am_fetch 225 23 = some (.getfield 25, 3, 3, 10, 1) := by decide +kernel
theorem fe_225_26 : am_fetch 225 26 = some (.iload_n 1, 1, 1, 0, 0) := by decide +kernel
theorem fe_225_27 : am_fetch 225 27 = some (.invokevirtual 376, 3, 7, 224, 0) := by decide +kernel
theorem fe_225_30 : am_fetch 225 30 = some (.ireturn, 1, 8, 0, 0) := by decide +kernel
theorem fe_226_0 : am_fetch 226 0 = some (.aload_n 2, 1, 1, 0, 0) := by decide +kernel
theorem fe_226_1 : am_fetch 226 1 = some (.iconst 0, 1, 0, 0, 0) := by decide +kernel
theorem fe_226_2 : am_fetch 226 2 = some (.aload_n 0, 1, 1, 0, 0) := by decide +kernel
theorem fe_226_3 : am_fetch 226 3 = some (.iload_n 1, 1, 1, 0, 0) := by decide +kernel
theorem fe_226_4 : am_fetch 226 4 = some (.invokevirtual 85, 3, 7, 225, 0) := by decide +kernel
theorem fe_226_7 : am_fetch 226 7 = some (.i2l, 1, 0, 0, 0) := by decide +kernel
theorem fe_226_8 : am_fetch 226 8 = some (.lastore, 1, 4, 0, 0) := by decide +kernel
theorem fe_226_9 : am_fetch 226 9 = some (.goto 6, 3, 2, 15, 0) := by decide +kernel
theorem fe_226_12 : am_fetch 226 12 = some (.astore_n 3, 1, 1, 0, 0) := by decide +kernel
theorem fe_226_13 : am_fetch 226 13 = some (.iconst 1, 1, 0, 0, 0) := by decide +kernel
theorem fe_226_14 : am_fetch 226 14 = some (.ireturn, 1, 8, 0, 0) := by decide +kernel
theorem fe_226_15 : am_fetch 226 15 = some (.iconst 0, 1, 0, 0, 0) := by decide +kernel
theorem fe_226_16 : am_fetch 226 16 = some (.ireturn, 1, 8, 0, 0) := by decide +kernel
theorem fe_227_0 : am_fetch 227 0 = some (.aload_n 0, 1, 1, 0, 0) := by decide +kernel
theorem fe_227_1 : am_fetch 227 1 = some (.iload_n 1, 1, 1, 0, 0) := by decide +kernel
theorem fe_227_2 : am_fetch 227 2 = some (.iconst 0, 1, 0, 0, 0) := by decide +kernel
theorem fe_227_3 : am_fetch 227 3 = some (.sipush 999, 3, 0, 0, 0) := by decide +kernel
theorem fe_227_6 : am_fetch 227 6 = some (.invokestatic 36, 3, 7, 26, 0) := by decide +kernel
theorem fe_227_9 : am_fetch 227 9 = some (.ifCond .eq 7, 3, 2, 16, 0) := by decide +kernel
theorem fe_227_12 : am_fetch 227 12 = some (.iconst 0, 1, 0, 0, 0) := by decide +kernel
theorem fe_227_13 : am_fetch 227 13 = some (.goto 4, 3, 2, 17, 0) := by decide +kernel
theorem fe_227_16 : am_fetch 227 16 = some (.iconst 1, 1, 0, 0, 0) := by decide +kernel
theorem fe_227_17 : am_fetch 227 17 = some (.invokevirtual 91, 3, 7, 29, 0) := by decide +kernel
theorem fe_227_20 : am_fetch 227 20 = some (.ifCond .ne 5, 3, 2, 25, 0) := by decide +kernel
theorem fe_227_23 : am_fetch 227 23 = some (.iconst 0, 1, 0, 0, 0) := by decide +kernel
theorem fe_227_24 : am_fetch 227 24 = some (.ireturn, 1, 8, 0, 0) := by decide +kernel
theorem fe_227_25 : am_fetch 227 25 = some (.iconst 0, 1, 0, 0, 0) := by decide +kernel
theorem fe_227_26 : am_fetch 227 26 = some (.istore_n 2, 1, 1, 0, 0) := by decide +kernel
theorem fe_227_27 : am_fetch 227 27 = some (.iload_n 2, 1, 1, 0, 0) := by decide +kernel
theorem fe_227_28 : am_fetch 227 28 = some (.iconst 5, 1, 0, 0, 0) := by decide +kernel
theorem fe_227_29 : am_fetch 227 29 = some (.if_icmp .ge 46, 3, 2, 75, 0) := by decide +kernel
theorem fe_227_32 : am_fetch 227 32 = some (.aload_n 0, 1, 1, 0, 0) := by decide +kernel
theorem fe_227_33 : am_fetch 227 33 = some (.iload_n 1, 1, 1, 0, 0) := by decide +kernel
theorem fe_227_34 : am_fetch 227 34 = some (.invokevirtual 206, 3, 7, 218, 0) := by decide +kernel
theorem fe_227_37 : am_fetch 227 37 = some (.aload_n 0, 1, 1, 0, 0) := by decide +kernel
theorem fe_227_38 : am_fetch 227 38 = some (.getfield 26, 3, 3, 11, 8) := by decide +kernel
theorem fe_227_41 : am_fetch 227 41 = some (.bipush 20, 2, 0, 0, 0) := by decide +kernel
theorem fe_227_43 : am_fetch 227 43 = some (.iload_n 2, 1, 1, 0, 0) := by decide +kernel
theorem fe_227_44 : am_fetch 227 44 = some (.iadd, 1, 0, 0, 0) := by decide +kernel
theorem fe_227_45 : am_fetch 227 45 = some (.iaload, 1, 3, 0, 0) := by decide +kernel
theorem fe_227_46 : am_fetch 227 46 = some (.istore_n 3, 1, 1, 0, 0) := by decide +kernel
theorem fe_227_47 : am_fetch 227 47 = some (.aload_n 0, 1, 1, 0, 0) := by decide +kernel
theorem fe_227_48 : am_fetch 227 48 = some (.iload_n 1, 1, 1, 0, 0) := by decide +kernel
theorem fe_227_49 : am_fetch 227 49 = some (.iconst 1, 1, 0, 0, 0) := by decide +kernel
theorem fe_227_50 : am_fetch 227 50 = some (.iadd, 1, 0, 0, 0) := by decide +kernel
theorem fe_227_51 : am_fetch 227 51 = some (.invokevirtual 206, 3, 7, 218, 0) := by decide +kernel
theorem fe_227_54 : am_fetch 227 54 = some (.aload_n 0, 1, 1, 0, 0) := by decide +kernel
theorem fe_227_55 : am_fetch 227 55 = some (.getfield 26, 3, 3, 11, 8) := by decide +kernel
theorem fe_227_58 : am_fetch 227 58 = some (.bipush 20, 2, 0, 0, 0) := by decide +kernel
theorem fe_227_60 : am_fetch 227 60 = some (.iload_n 2, 1, 1, 0, 0) := by decide +kernel
theorem fe_227_61 : am_fetch 227 61 = some (.iadd, 1, 0, 0, 0) := by decide +kernel
theorem fe_227_62 : am_fetch 227 62 = some (.iaload, 1, 3, 0, 0) := by decide +kernel
theorem fe_227_63 : am_fetch 227 63 = some (.iload_n 3, 1, 1, 0, 0) := by decide +kernel
theorem fe_227_64 : am_fetch 227 64 = some (.if_icmp .le 5, 3, 2, 69, 0) := by decide +kernel
theorem fe_227_67 : am_fetch 227 67 = some (.iload_n 2, 1, 1, 0, 0) := by decide +kernel
theorem fe_227_68 : am_fetch 227 68 = some (.ireturn, 1, 8, 0, 0) := by decide +kernel
theorem fe_227_69 : am_fetch 227 69 = some (.iinc 2 1, 3, 1, 0, 0) := by decide +kernel
theorem fe_227_72 : am_fetch 227 72 = some (.goto (-45), 3, 2, 27, 0) := by decide +kernel
theorem fe_227_75 : am_fetch 227 75 = some (.iconst (-1), 1, 0, 0, 0) := by decide +kernel
theorem fe_227_76 : am_fetch 227 76 = some (.ireturn, 1, 8, 0, 0) := by decide +kernel
theorem fe_228_0 : am_fetch 228 0 = some (.aload_n 0, 1, 1, 0, 0) := by decide +kernel
theorem fe_228_1 : am_fetch 228 1 = some (.getfield 26, 3, 3, 5, 0) := by decide +kernel
theorem fe_228_4 : am_fetch 228 4 = some (.iconst 0, 1, 0, 0, 0) := by decide +kernel
theorem fe_228_5 : am_fetch 228 5 = some (.invokevirtual 40, 3, 7, 36, 0) := by decide +kernel
theorem fe_228_8 : am_fetch 228 8 = some (.ifCond .ne 5, 3, 2, 13, 0) := by decide +kernel
theorem fe_228_11 : am_fetch 228 11 = some (.iconst (-1), 1, 0, 0, 0) := by decide +kernel
theorem fe_228_12 : am_fetch 228 12 = some (.ireturn, 1, 8, 0, 0) := by decide +kernel
theorem fe_228_13 : am_fetch 228 13 = some (.aload_n 0, 1, 1, 0, 0) := by decide +kernel
theorem fe_228_14 : am_fetch 228 14 = some (.invokevirtual 59, 3, 7, 211, 0) := by decide +kernel
theorem fe_228_17 : am_fetch 228 17 = some (.iconst 0, 1, 0, 0, 0) := by decide +kernel
theorem fe_228_18 : am_fetch 228 18 = some (.istore_n 2, 1, 1, 0, 0) := by decide +kernel
theorem fe_228_19 : am_fetch 228 19 = some (.iload_n 2, 1, 1, 0, 0) := by decide +kernel
theorem fe_228_20 : am_fetch 228 20 = some (.sipush 4096, 3, 0, 0, 0) := by decide +kernel
theorem fe_228_23 : am_fetch 228 23 = some (.if_icmp .ge 19, 3, 2, 42, 0) := by decide +kernel
theorem fe_228_26 : am_fetch 228 26 = some (.aload_n 0, 1, 1, 0, 0) := by decide +kernel
theorem fe_228_27 : am_fetch 228 27 = some (.invokevirtual 62, 3, 7, 212, 0) := by decide +kernel
theorem fe_228_30 : am_fetch 228 30 = some (.iload_n 1, 1, 1, 0, 0) := by decide +kernel
theorem fe_228_31 : am_fetch 228 31 = some (.if_icmp .ne 5, 3, 2, 36, 0) := by decide +kernel
theorem fe_228_34 : am_fetch 228 34 = some (.iload_n 2, 1, 1, 0, 0) := by decide +kernel
theorem fe_228_35 : am_fetch 228 35 = some (.ireturn, 1, 8, 0, 0) := by decide +kernel
theorem fe_228_36 : am_fetch 228 36 = some (.iinc 2 1, 3, 1, 0, 0) := by decide +kernel
theorem fe_228_39 : am_fetch 228 39 = some (.goto (-20), 3, 2, 19, 0) := by decide +kernel
theorem fe_228_42 : am_fetch 228 42 = some (.iconst (-1), 1, 0, 0, 0) := by decide +kernel
theorem fe_228_43 : am_fetch 228 43 = some (.ireturn, 1, 8, 0, 0) := by decide +kernel
theorem fe_229_0 : am_fetch 229 0 = some (.iload_n 1, 1, 1, 0, 0) := by decide +kernel
theorem fe_229_1 : am_fetch 229 1 = some (.invokestatic 153, 3, 7, 91, 0) := by decide +kernel
theorem fe_229_4 : am_fetch 229 4 = some (.ifCond .ne 13, 3, 2, 17, 0) := by decide +kernel
theorem fe_229_7 : am_fetch 229 7 = some (.new 102, 3, 9, 2, 0) := by decide +kernel
theorem fe_229_10 : am_fetch 229 10 = some (.dup, 1, 0, 0, 0) := by decide +kernel
theorem fe_229_17 : am_fetch 229 17 = some (.aload_n 0, 1, 1, 0, 0) := by decide +kernel
theorem fe_229_18 : am_fetch 229 18 = some (.getfield 25, 3, 3, 10, 1) := by decide +kernel
theorem fe_229_21 : am_fetch 229 21 = some (.iload_n 1, 1, 1, 0, 0) := by decide +kernel
theorem fe_229_22 : am_fetch 229 22 = some (.invokevirtual 379, 3, 7, 228, 0) := by decide +kernel
theorem fe_229_25 : am_fetch 229 25 = some (.ireturn, 1, 8, 0, 0) := by decide +kernel
theorem fe_230_0 : am_fetch 230 0 = some (.aload_n 2, 1, 1, 0, 0) := by decide +kernel
theorem fe_230_1 : am_fetch 230 1 = some (.iconst 0, 1, 0, 0, 0) := by decide +kernel
theorem fe_230_2 : am_fetch 230 2 = some (.aload_n 0, 1, 1, 0, 0) := by decide +kernel
theorem fe_230_3 : am_fetch 230 3 = some (.iload_n 1, 1, 1, 0, 0) := by decide +kernel
theorem fe_230_4 : am_fetch 230 4 = some (.invokevirtual 88, 3, 7, 229, 0) := by decide +kernel
theorem fe_230_7 : am_fetch 230 7 = some (.i2l, 1, 0, 0, 0) := by decide +kernel
theorem fe_230_8 : am_fetch 230 8 = some (.lastore, 1, 4, 0, 0) := by decide +kernel
theorem fe_230_9 : am_fetch 230 9 = some (.goto 6, 3, 2, 15, 0) := by decide +kernel
theorem fe_230_12 : am_fetch 230 12 = some (.astore_n 3, 1, 1, 0, 0) := by decide +kernel
theorem fe_230_13 : am_fetch 230 13 = some (.iconst 1, 1, 0, 0, 0) := by decide +kernel
theorem fe_230_14 : am_fetch 230 14 = some (.ireturn, 1, 8, 0, 0) := by decide +kernel
theorem fe_230_15 : am_fetch 230 15 = some (.iconst 0, 1, 0, 0, 0) := by decide +kernel
theorem fe_230_16 : am_fetch 230 16 = some (.ireturn, 1, 8, 0, 0) := by decide +kernel
theorem fe_231_0 : am_fetch 231 0 = some (.aload_n 0, 1, 1, 0, 0) := by decide +kernel
theorem fe_231_1 : am_fetch 231 1 = some (.iload_n 1, 1, 1, 0, 0) := by decide +kernel
theorem fe_231_2 : am_fetch 231 2 = some (.invokestatic 44, 3, 7, 45, 0) := by decide +kernel
theorem fe_231_5 : am_fetch 231 5 = some (.ifCond .eq 7, 3, 2, 12, 0) := by decide +kernel
theorem fe_231_8 : am_fetch 231 8 = some (.iconst 0, 1, 0, 0, 0) := by decide +kernel
theorem fe_231_9 : am_fetch 231 9 = some (.goto 4, 3, 2, 13, 0) := by decide +kernel
theorem fe_231_12 : am_fetch 231 12 = some (.iconst 1, 1, 0, 0, 0) := by decide +kernel
theorem fe_231_13 : am_fetch 231 13 = some (.invokevirtual 91, 3, 7, 29, 0) := by decide +kernel
theorem fe_231_16 : am_fetch 231 16 = some (.ifCond .ne 5, 3, 2, 21, 0) := by decide +kernel
theorem fe_231_19 : am_fetch 231 19 = some (.iconst 0, 1, 0, 0, 0) := by decide +kernel
theorem fe_231_20 : am_fetch 231 20 = some (.ireturn, 1, 8, 0, 0) := by decide +kernel
theorem fe_231_21 : am_fetch 231 21 = some (.iconst 0, 1, 0, 0, 0) := by decide +kernel
theorem fe_231_22 : am_fetch 231 22 = some (.istore_n 2, 1, 1, 0, 0) := by decide +kernel
theorem fe_231_23 : am_fetch 231 23 = some (.iload_n 2, 1, 1, 0, 0) := by decide +kernel
theorem fe_231_24 : am_fetch 231 24 = some (.sipush 4096, 3, 0, 0, 0) := by decide +kernel
theorem fe_231_27 : am_fetch 231 27 = some (.if_icmp .ge 30, 3, 2, 57, 0) := by decide +kernel
theorem fe_231_30 : am_fetch 231 30 = some (.aload_n 0, 1, 1, 0, 0) := by decide +kernel
theorem fe_231_31 : am_fetch 231 31 = some (.iload_n 2, 1, 1, 0, 0) := by decide +kernel
theorem fe_231_32 : am_fetch 231 32 = some (.iconst 1, 1, 0, 0, 0) := by decide +kernel
theorem fe_231_33 : am_fetch 231 33 = some (.iadd, 1, 0, 0, 0) := by decide +kernel
theorem fe_231_34 : am_fetch 231 34 = some (.invokevirtual 206, 3, 7, 218, 0) := by decide +kernel
theorem fe_231_37 : am_fetch 231 37 = some (.aload_n 0, 1, 1, 0, 0) := by decide +kernel
theorem fe_231_38 : am_fetch 231 38 = some (.getfield 26, 3, 3, 11, 8) := by decide +kernel
theorem fe_231_41 : am_fetch 231 41 = some (.bipush 20, 2, 0, 0, 0) := by decide +kernel
theorem fe_231_43 : am_fetch 231 43 = some (.iload_n 1, 1, 1, 0, 0) := by decide +kernel
theorem fe_231_44 : am_fetch 231 44 = some (.iadd, 1, 0, 0, 0) := by decide +kernel
theorem fe_231_45 : am_fetch 231 45 = some (.iaload, 1, 3, 0, 0) := by decide +kernel
theorem fe_231_46 : am_fetch 231 46 = some (.ifCond .le 5, 3, 2, 51, 0) := by decide +kernel
theorem fe_231_49 : am_fetch 231 49 = some (.iload_n 2, 1, 1, 0, 0) := by decide +kernel
theorem fe_231_50 : am_fetch 231 50 = some (.ireturn, 1, 8, 0, 0) := by decide +kernel
theorem fe_231_51 : am_fetch 231 51 = some (.iinc 2 1, 3, 1, 0, 0) := by decide +kernel
theorem fe_231_54 : am_fetch 231 54 = some (.goto (-31), 3, 2, 23, 0) := by decide +kernel
theorem fe_231_57 : am_fetch 231 57 = some (.iconst (-1), 1, 0, 0, 0) := by decide +kernel
theorem fe_231_58 : am_fetch 231 58 = some (.ireturn, 1, 8, 0, 0) := by decide +kernel
theorem fe_232_0 : am_fetch 232 0 = some (.iconst 0, 1, 0, 0, 0) := by decide +kernel
theorem fe_232_1 : am_fetch 232 1 = some (.istore_n 2, 1, 1, 0, 0) := by decide +kernel
theorem fe_232_2 : am_fetch 232 2 = some (.iload_n 2, 1, 1, 0, 0) := by decide +kernel
theorem fe_232_3 : am_fetch 232 3 = some (.aload_n 0, 1, 1, 0, 0) := by decide +kernel
theorem fe_232_4 : am_fetch 232 4 = some (.getfield 13, 3, 3, 6, 0) := by decide +kernel
theorem fe_232_7 : am_fetch 232 7 = some (.arraylength, 1, 3, 0, 0) := by decide +kernel
theorem fe_232_8 : am_fetch 232 8 = some (.if_icmp .ge 25, 3, 2, 33, 0) := by decide +kernel
theorem fe_232_11 : am_fetch 232 11 = some (.aload_n 0, 1, 1, 0, 0) := by decide +kernel
theorem fe_232_12 : am_fetch 232 12 = some (.getfield 13, 3, 3, 6, 0) := by decide +kernel
theorem fe_232_15 : am_fetch 232 15 = some (.iload_n 2, 1, 1, 0, 0) := by decide +kernel
theorem fe_232_16 : am_fetch 232 16 = some (.iaload, 1, 3, 0, 0) := by decide +kernel
theorem fe_232_17 : am_fetch 232 17 = some (.aload_n 1, 1, 1, 0, 0) := by decide +kernel
theorem fe_232_18 : am_fetch 232 18 = some (.iload_n 2, 1, 1, 0, 0) := by decide +kernel
theorem fe_232_19 : am_fetch 232 19 = some (.invokevirtual 19, 3, 7, 39, 0) := by decide +kernel
theorem fe_232_22 : am_fetch 232 22 = some (.if_icmp .eq 5, 3, 2, 27, 0) := by decide +kernel
theorem fe_232_25 : am_fetch 232 25 = some (.iconst 0, 1, 0, 0, 0) := by decide +kernel
theorem fe_232_26 : am_fetch 232 26 = some (.ireturn, 1, 8, 0, 0) := by decide +kernel
theorem fe_232_27 : am_fetch 232 27 = some (.iinc 2 1, 3, 1, 0, 0) := by decide +kernel
theorem fe_232_30 : am_fetch 232 30 = some (.goto (-28), 3, 2, 2, 0) := by decide +kernel
theorem fe_232_33 : am_fetch 232 33 = some (.iconst 1, 1, 0, 0, 0) := by decide +kernel
theorem fe_232_34 : am_fetch 232 34 = some (.ireturn, 1, 8, 0, 0) := by decide +kernel
theorem fe_233_0 : am_fetch 233 0 = some (.aload_n 0, 1, 1, 0, 0) := by decide +kernel
theorem fe_233_1 : am_fetch 233 1 = some (.getfield 26, 3, 3, 5, 0) := by decide +kernel
theorem fe_233_4 : am_fetch 233 4 = some (.iconst 0, 1, 0, 0, 0) := by decide +kernel
theorem fe_233_5 : am_fetch 233 5 = some (.invokevirtual 40, 3, 7, 36, 0) := by decide +kernel
theorem fe_233_8 : am_fetch 233 8 = some (.ifCond .ne 5, 3, 2, 13, 0) := by decide +kernel
theorem fe_233_11 : am_fetch 233 11 = some (.iconst (-1), 1, 0, 0, 0) := by decide +kernel
theorem fe_233_12 : am_fetch 233 12 = some (.ireturn, 1, 8, 0, 0) := by decide +kernel
theorem fe_233_13 : am_fetch 233 13 = some (.aload_n 0, 1, 1, 0, 0) := by decide +kernel
theorem fe_233_14 : am_fetch 233 14 = some (.invokevirtual 59, 3, 7, 211, 0) := by decide +kernel
theorem fe_233_17 : am_fetch 233 17 = some (.iconst 1, 1, 0, 0, 0) := by decide +kernel
theorem fe_233_18 : am_fetch 233 18 = some (.istore_n 1, 1, 1, 0, 0) := by decide +kernel
theorem fe_233_19 : am_fetch 233 19 = some (.iload_n 1, 1, 1, 0, 0) := by decide +kernel
theorem fe_233_20 : am_fetch 233 20 = some (.sipush 4096, 3, 0, 0, 0) := by decide +kernel
theorem fe_233_23 : am_fetch 233 23 = some (.if_icmp .ge 33, 3, 2, 56, 0) := by decide +kernel
theorem fe_233_26 : am_fetch 233 26 = some (.aload_n 0, 1, 1, 0, 0) := by decide +kernel
theorem fe_233_27 : am_fetch 233 27 = some (.invokevirtual 62, 3, 7, 212, 0) := by decide +kernel
theorem fe_233_30 : am_fetch 233 30 = some (.pop, 1, 0, 0, 0) := by decide +kernel
theorem fe_233_31 : am_fetch 233 31 = some (.aload_n 0, 1, 1, 0, 0) := by decide +kernel
theorem fe_233_32 : am_fetch 233 32 = some (.getfield 14, 3, 3, 5, 1) := by decide +kernel
theorem fe_233_35 : am_fetch 233 35 = some (.aload_n 0, 1, 1, 0, 0) := by decide +kernel
theorem fe_233_36 : am_fetch 233 36 = some (.getfield 26, 3, 3, 5, 0) := by decide +kernel
theorem fe_233_39 : am_fetch 233 39 = some (.getfield 30, 3, 3, 101, 1) := by decide +kernel
theorem fe_233_42 : am_fetch 233 42 = some (.invokevirtual 73, 3, 7, 232, 0) := by decide +kernel
theorem fe_233_45 : am_fetch 233 45 = some (.ifCond .eq 5, 3, 2, 50, 0) := by decide +kernel
theorem fe_233_48 : am_fetch 233 48 = some (.iload_n 1, 1, 1, 0, 0) := by decide +kernel
theorem fe_233_49 : am_fetch 233 49 = some (.ireturn, 1, 8, 0, 0) := by decide +kernel
theorem fe_233_50 : am_fetch 233 50 = some (.iinc 1 1, 3, 1, 0, 0) := by decide +kernel
theorem fe_233_53 : am_fetch 233 53 = some (.goto (-34), 3, 2, 19, 0) := by decide +kernel
theorem fe_233_56 : am_fetch 233 56 = some (.sipush 4096, 3, 0, 0, 0) := by decide +kernel
theorem fe_233_59 : am_fetch 233 59 = some (.ireturn, 1, 8, 0, 0) := by decide +kernel
theorem fe_234_0 : am_fetch 234 0 = some (.aload_n 0, 1, 1, 0, 0) := by decide +kernel
theorem fe_234_1 : am_fetch 234 1 = some (.getfield 25, 3, 3, 10, 1) := by decide +kernel
theorem fe_234_4 : am_fetch 234 4 = some (.invokevirtual 382, 3, 7, 233, 0) := by decide +kernel
theorem fe_234_7 : am_fetch 234 7 = some (.ireturn, 1, 8, 0, 0) := by decide +kernel
theorem fe_235_0 : am_fetch 235 0 = some (.aload_n 0, 1, 1, 0, 0) := by decide +kernel
theorem fe_235_1 : am_fetch 235 1 = some (.iload_n 1, 1, 1, 0, 0) := by decide +kernel
theorem fe_235_2 : am_fetch 235 2 = some (.invokevirtual 206, 3, 7, 218, 0) := by decide +kernel
theorem fe_235_5 : am_fetch 235 5 = some (.iconst 1, 1, 0, 0, 0) := by decide +kernel
theorem fe_235_6 : am_fetch 235 6 = some (.istore_n 2, 1, 1, 0, 0) := by decide +kernel
theorem fe_235_7 : am_fetch 235 7 = some (.iconst 0, 1, 0, 0, 0) := by decide +kernel
theorem fe_235_8 : am_fetch 235 8 = some (.istore_n 3, 1, 1, 0, 0) := by decide +kernel
theorem fe_235_9 : am_fetch 235 9 = some (.iload_n 3, 1, 1, 0, 0) := by decide +kernel
theorem fe_235_10 : am_fetch 235 10 = some (.aload_n 0, 1, 1, 0, 0) := by decide +kernel
theorem fe_235_11 : am_fetch 235 11 = some (.getfield 7, 3, 3, 11, 0) := by decide +kernel
theorem fe_235_14 : am_fetch 235 14 = some (.iconst 1, 1, 0, 0, 0) := by decide +kernel
theorem fe_235_15 : am_fetch 235 15 = some (.iaload, 1, 3, 0, 0) := by decide +kernel
theorem fe_235_16 : am_fetch 235 16 = some (.if_icmp .ge 30, 3, 2, 46, 0) := by decide +kernel
theorem fe_235_19 : am_fetch 235 19 = some (.iload_n 2, 1, 1, 0, 0) := by decide +kernel
theorem fe_235_20 : am_fetch 235 20 = some (.ifCond .eq 18, 3, 2, 38, 0) := by decide +kernel
theorem fe_235_23 : am_fetch 235 23 = some (.aload_n 0, 1, 1, 0, 0) := by decide +kernel
theorem fe_235_24 : am_fetch 235 24 = some (.getfield 26, 3, 3, 11, 8) := by decide +kernel
theorem fe_235_27 : am_fetch 235 27 = some (.iload_n 3, 1, 1, 0, 0) := by decide +kernel
theorem fe_235_28 : am_fetch 235 28 = some (.iaload, 1, 3, 0, 0) := by decide +kernel
theorem fe_235_29 : am_fetch 235 29 = some (.iconst 2, 1, 0, 0, 0) := by decide +kernel
theorem fe_235_30 : am_fetch 235 30 = some (.irem, 1, 0, 0, 0) := by decide +kernel
theorem fe_235_31 : am_fetch 235 31 = some (.ifCond .ne 7, 3, 2, 38, 0) := by decide +kernel
theorem fe_235_34 : am_fetch 235 34 = some (.iconst 1, 1, 0, 0, 0) := by decide +kernel
theorem fe_235_35 : am_fetch 235 35 = some (.goto 4, 3, 2, 39, 0) := by decide +kernel
theorem fe_235_38 : am_fetch 235 38 = some (.iconst 0, 1, 0, 0, 0) := by decide +kernel
theorem fe_235_39 : am_fetch 235 39 = some (.istore_n 2, 1, 1, 0, 0) := by decide +kernel
theorem fe_235_40 : am_fetch 235 40 = some (.iinc 3 1, 3, 1, 0, 0) := by decide +kernel
theorem fe_235_43 : am_fetch 235 43 = some (.goto (-34), 3, 2, 9, 0) := by decide +kernel
theorem fe_235_46 : am_fetch 235 46 = some (.iload_n 2, 1, 1, 0, 0) := by decide +kernel
theorem fe_235_47 : am_fetch 235 47 = some (.ireturn, 1, 8, 0, 0) := by decide +kernel
theorem fe_236_0 : am_fetch 236 0 = some (.aload_n 0, 1, 1, 0, 0) := by decide +kernel
theorem fe_236_1 : am_fetch 236 1 = some (.iconst 0, 1, 0, 0, 0) := by decide +kernel
theorem fe_236_2 : am_fetch 236 2 = some (.putfield 32, 3, 4, 11, 7) := by decide +kernel
theorem fe_236_5 : am_fetch 236 5 = some (.iconst 1, 1, 0, 0, 0) := by decide +kernel
theorem fe_236_6 : am_fetch 236 6 = some (.istore_n 1, 1, 1, 0, 0) := by decide +kernel
theorem fe_236_7 : am_fetch 236 7 = some (.iload_n 1, 1, 1, 0, 0) := by decide +kernel
theorem fe_236_8 : am_fetch 236 8 = some (.sipush 4096, 3, 0, 0, 0) := by decide +kernel
theorem fe_236_11 : am_fetch 236 11 = some (.if_icmp .ge 17, 3, 2, 28, 0) := by decide +kernel
theorem fe_236_14 : am_fetch 236 14 = some (.aload_n 0, 1, 1, 0, 0) := by decide +kernel
theorem fe_236_15 : am_fetch 236 15 = some (.iload_n 1, 1, 1, 0, 0) := by decide +kernel
theorem fe_236_16 : am_fetch 236 16 = some (.invokevirtual 209, 3, 7, 235, 0) := by decide +kernel
theorem fe_236_19 : am_fetch 236 19 = some (.ifCond .ne 9, 3, 2, 28, 0) := by decide +kernel
theorem fe_236_22 : am_fetch 236 22 = some (.iinc 1 1, 3, 1, 0, 0) := by decide +kernel
theorem fe_236_25 : am_fetch 236 25 = some (.goto (-18), 3, 2, 7, 0) := by decide +kernel
theorem fe_236_28 : am_fetch 236 28 = some (.aload_n 0, 1, 1, 0, 0) := by decide +kernel
theorem fe_236_29 : am_fetch 236 29 = some (.getfield 7, 3, 3, 11, 0) := by decide +kernel
theorem fe_236_32 : am_fetch 236 32 = some (.iconst 1, 1, 0, 0, 0) := by decide +kernel
theorem fe_236_33 : am_fetch 236 33 = some (.iaload, 1, 3, 0, 0) := by decide +kernel
theorem fe_236_34 : am_fetch 236 34 = some (.ifCond .ne 7, 3, 2, 41, 0) := by decide +kernel
theorem fe_236_37 : am_fetch 236 37 = some (.iconst (-1), 1, 0, 0, 0) := by decide +kernel
theorem fe_236_38 : am_fetch 236 38 = some (.goto 4, 3, 2, 42, 0) := by decide +kernel
theorem fe_236_41 : am_fetch 236 41 = some (.iload_n 1, 1, 1, 0, 0) := by decide +kernel
theorem fe_236_42 : am_fetch 236 42 = some (.ireturn, 1, 8, 0, 0) := by decide +kernel
theorem fe_237_0 : am_fetch 237 0 = some (.aload_n 0, 1, 1, 0, 0) := by decide +kernel
theorem fe_237_1 : am_fetch 237 1 = some (.getfield 23, 3, 3, 5, 3) := by decide +kernel
theorem fe_237_4 : am_fetch 237 4 = some (.invokevirtual 37, 3, 7, 187, 0) := by decide +kernel
theorem fe_237_7 : am_fetch 237 7 = some (.aload_n 0, 1, 1, 0, 0) := by decide +kernel
theorem fe_237_8 : am_fetch 237 8 = some (.getfield 26, 3, 3, 5, 0) := by decide +kernel
theorem fe_237_11 : am_fetch 237 11 = some (.getfield 66, 3, 3, 101, 0) := by decide +kernel
theorem fe_237_14 : am_fetch 237 14 = some (.iconst 1, 1, 0, 0, 0) := by decide +kernel
theorem fe_237_15 : am_fetch 237 15 = some (.isub, 1, 0, 0, 0) := by decide +kernel
theorem fe_237_16 : am_fetch 237 16 = some (.istore_n 2, 1, 1, 0, 0) := by decide +kernel
theorem fe_237_17 : am_fetch 237 17 = some (.iload_n 2, 1, 1, 0, 0) := by decide +kernel
theorem fe_237_18 : am_fetch 237 18 = some (.ifCond .lt 73, 3, 2, 91, 0) := by decide +kernel
theorem fe_237_21 : am_fetch 237 21 = some (.aload_n 0, 1, 1, 0, 0) := by decide +kernel
theorem fe_237_22 : am_fetch 237 22 = some (.getfield 23, 3, 3, 5, 3) := by decide +kernel
theorem fe_237_25 : am_fetch 237 25 = some (.aload_n 0, 1, 1, 0, 0) := by decide +kernel
theorem fe_237_26 : am_fetch 237 26 = some (.getfield 26, 3, 3, 5, 0) := by decide +kernel
theorem fe_237_29 : am_fetch 237 29 = some (.iload_n 2, 1, 1, 0, 0) := by decide +kernel
theorem fe_237_30 : am_fetch 237 30 = some (.iconst 0, 1, 0, 0, 0) := by decide +kernel
theorem fe_237_31 : am_fetch 237 31 = some (.invokevirtual 55, 3, 7, 73, 0) := by decide +kernel
theorem fe_237_34 : am_fetch 237 34 = some (.invokevirtual 48, 3, 7, 39, 0) := by decide +kernel
theorem fe_237_37 : am_fetch 237 37 = some (.istore_n 3, 1, 1, 0, 0) := by decide +kernel
theorem fe_237_38 : am_fetch 237 38 = some (.aload_n 0, 1, 1, 0, 0) := by decide +kernel
theorem fe_237_39 : am_fetch 237 39 = some (.getfield 23, 3, 3, 5, 3) := by decide +kernel
theorem fe_237_42 : am_fetch 237 42 = some (.aload_n 0, 1, 1, 0, 0) := by decide +kernel
theorem fe_237_43 : am_fetch 237 43 = some (.getfield 26, 3, 3, 5, 0) := by decide +kernel
theorem fe_237_46 : am_fetch 237 46 = some (.iload_n 2, 1, 1, 0, 0) := by decide +kernel
theorem fe_237_47 : am_fetch 237 47 = some (.iconst 1, 1, 0, 0, 0) := by decide +kernel
theorem fe_237_48 : am_fetch 237 48 = some (.invokevirtual 55, 3, 7, 73, 0) := by decide +kernel
theorem fe_237_51 : am_fetch 237 51 = some (.invokevirtual 48, 3, 7, 39, 0) := by decide +kernel
theorem fe_237_54 : am_fetch 237 54 = some (.istore 4, 2, 1, 0, 0) := by decide +kernel
theorem fe_237_56 : am_fetch 237 56 = some (.aload_n 0, 1, 1, 0, 0) := by decide +kernel
theorem fe_237_57 : am_fetch 237 57 = some (.getfield 23, 3, 3, 5, 3) := by decide +kernel
theorem fe_237_60 : am_fetch 237 60 = some (.iload_n 2, 1, 1, 0, 0) := by decide +kernel
theorem fe_237_61 : am_fetch 237 61 = some (.iconst 1, 1, 0, 0, 0) := by decide +kernel
theorem fe_237_62 : am_fetch 237 62 = some (.iload_n 1, 1, 1, 0, 0) := by decide +kernel
theorem fe_237_63 : am_fetch 237 63 = some (.ifCond .eq 12, 3, 2, 75, 0) := by decide +kernel
theorem fe_237_66 : am_fetch 237 66 = some (.iload_n 3, 1, 1, 0, 0) := by decide +kernel
theorem fe_237_67 : am_fetch 237 67 = some (.iload 4, 2, 1, 0, 0) := by decide +kernel
theorem fe_237_69 : am_fetch 237 69 = some (.invokestatic 77, 3, 6, 2, 0) := by decide +kernel
theorem fe_237_72 : am_fetch 237 72 = some (.goto 9, 3, 2, 81, 0) := by decide +kernel
theorem fe_237_75 : am_fetch 237 75 = some (.iload_n 3, 1, 1, 0, 0) := by decide +kernel
theorem fe_237_76 : am_fetch 237 76 = some (.iload 4, 2, 1, 0, 0) := by decide +kernel
theorem fe_237_78 : am_fetch 237 78 = some (.invokestatic 82, 3, 6, 3, 0) := by decide +kernel
theorem fe_237_81 : am_fetch 237 81 = some (.iadd, 1, 0, 0, 0) := by decide +kernel
theorem fe_237_82 : am_fetch 237 82 = some (.invokevirtual 52, 3, 7, 4, 0) := by decide +kernel
theorem fe_237_85 : am_fetch 237 85 = some (.iinc 2 (-1), 3, 1, 0, 0) := by decide +kernel
theorem fe_237_88 : am_fetch 237 88 = some (.goto (-71), 3, 2, 17, 0) := by decide +kernel
theorem fe_237_91 : am_fetch 237 91 = some (.aload_n 0, 1, 1, 0, 0) := by decide +kernel
theorem fe_237_92 : am_fetch 237 92 = some (.getfield 23, 3, 3, 5, 3) := by decide +kernel
theorem fe_237_95 : am_fetch 237 95 = some (.iconst 0, 1, 0, 0, 0) := by decide +kernel
theorem fe_237_96 : am_fetch 237 96 = some (.invokevirtual 48, 3, 7, 39, 0) := by decide +kernel
theorem fe_237_99 : am_fetch 237 99 = some (.ireturn, 1, 8, 0, 0) := by decide +kernel
theorem fe_238_0 : am_fetch 238 0 = some (.aload_n 0, 1, 1, 0, 0) := by decide +kernel
theorem fe_238_1 : am_fetch 238 1 = some (.getfield 25, 3, 3, 10, 1) := by decide +kernel
theorem fe_238_4 : am_fetch 238 4 = some (.iload_n 1, 1, 1, 0, 0) := by decide +kernel
theorem fe_238_5 : am_fetch 238 5 = some (.invokevirtual 385, 3, 7, 237, 0) := by decide +kernel
theorem fe_238_8 : am_fetch 238 8 = some (.ireturn, 1, 8, 0, 0) := by decide +kernel
theorem fe_239_0 : am_fetch 239 0 = some (.aload_n 0, 1, 1, 0, 0) := by decide +kernel
theorem fe_239_1 : am_fetch 239 1 = some (.iconst 0, 1, 0, 0, 0) := by decide +kernel
theorem fe_239_2 : am_fetch 239 2 = some (.putfield 32, 3, 4, 11, 7) := by decide +kernel
theorem fe_239_5 : am_fetch 239 5 = some (.iconst 0, 1, 0, 0, 0) := by decide +kernel
theorem fe_239_6 : am_fetch 239 6 = some (.istore_n 2, 1, 1, 0, 0) := by decide +kernel
theorem fe_239_7 : am_fetch 239 7 = some (.iload_n 2, 1, 1, 0, 0) := by decide +kernel
theorem fe_239_8 : am_fetch 239 8 = some (.bipush 25, 2, 0, 0, 0) := by decide +kernel
theorem fe_239_10 : am_fetch 239 10 = some (.if_icmp .ge 16, 3, 2, 26, 0) := by decide +kernel
theorem fe_239_13 : am_fetch 239 13 = some (.aload_n 0, 1, 1, 0, 0) := by decide +kernel
theorem fe_239_14 : am_fetch 239 14 = some (.getfield 26, 3, 3, 11, 8) := by decide +kernel
theorem fe_239_17 : am_fetch 239 17 = some (.iload_n 2, 1, 1, 0, 0) := by decide +kernel
theorem fe_239_18 : am_fetch 239 18 = some (.iconst 0, 1, 0, 0, 0) := by decide +kernel
theorem fe_239_19 : am_fetch 239 19 = some (.iastore, 1, 4, 0, 0) := by decide +kernel
theorem fe_239_20 : am_fetch 239 20 = some (.iinc 2 1, 3, 1, 0, 0) := by decide +kernel
theorem fe_239_23 : am_fetch 239 23 = some (.goto (-16), 3, 2, 7, 0) := by decide +kernel
theorem fe_239_26 : am_fetch 239 26 = some (.aload_n 0, 1, 1, 0, 0) := by decide +kernel
theorem fe_239_27 : am_fetch 239 27 = some (.getfield 7, 3, 3, 11, 0) := by decide +kernel
theorem fe_239_30 : am_fetch 239 30 = some (.iconst 1, 1, 0, 0, 0) := by decide +kernel
theorem fe_239_31 : am_fetch 239 31 = some (.iaload, 1, 3, 0, 0) := by decide +kernel
theorem fe_239_32 : am_fetch 239 32 = some (.iconst 1, 1, 0, 0, 0) := by decide +kernel
theorem fe_239_33 : am_fetch 239 33 = some (.isub, 1, 0, 0, 0) := by decide +kernel
theorem fe_239_34 : am_fetch 239 34 = some (.istore_n 2, 1, 1, 0, 0) := by decide +kernel
theorem fe_239_35 : am_fetch 239 35 = some (.iload_n 2, 1, 1, 0, 0) := by decide +kernel
theorem fe_239_36 : am_fetch 239 36 = some (.ifCond .lt 63, 3, 2, 99, 0) := by decide +kernel
theorem fe_239_39 : am_fetch 239 39 = some (.aload_n 0, 1, 1, 0, 0) := by decide +kernel
theorem fe_239_40 : am_fetch 239 40 = some (.getfield 26, 3, 3, 11, 8) := by decide +kernel
theorem fe_239_43 : am_fetch 239 43 = some (.aload_n 0, 1, 1, 0, 0) := by decide +kernel
theorem fe_239_44 : am_fetch 239 44 = some (.iload_n 2, 1, 1, 0, 0) := by decide +kernel
theorem fe_239_45 : am_fetch 239 45 = some (.iconst 2, 1, 0, 0, 0) := by decide +kernel
theorem fe_239_46 : am_fetch 239 46 = some (.invokevirtual 54, 3, 7, 48, 0) := by decide +kernel
theorem fe_239_49 : am_fetch 239 49 = some (.iaload, 1, 3, 0, 0) := by decide +kernel
theorem fe_239_50 : am_fetch 239 50 = some (.istore_n 3, 1, 1, 0, 0) := by decide +kernel
theorem fe_239_51 : am_fetch 239 51 = some (.aload_n 0, 1, 1, 0, 0) := by decide +kernel
theorem fe_239_52 : am_fetch 239 52 = some (.getfield 26, 3, 3, 11, 8) := by decide +kernel
theorem fe_239_55 : am_fetch 239 55 = some (.aload_n 0, 1, 1, 0, 0) := by decide +kernel
theorem fe_239_56 : am_fetch 239 56 = some (.iload_n 2, 1, 1, 0, 0) := by decide +kernel
theorem fe_239_57 : am_fetch 239 57 = some (.iconst 3, 1, 0, 0, 0) := by decide +kernel
theorem fe_239_58 : am_fetch 239 58 = some (.invokevirtual 54, 3, 7, 48, 0) := by decide +kernel
theorem fe_239_61 : am_fetch 239 61 = some (.iaload, 1, 3, 0, 0) := by decide +kernel
theorem fe_239_62 : am_fetch 239 62 = some (.istore 4, 2, 1, 0, 0) := by decide +kernel
theorem fe_239_64 : am_fetch 239 64 = some (.aload_n 0, 1, 1, 0, 0) := by decide +kernel
theorem fe_239_65 : am_fetch 239 65 = some (.getfield 26, 3, 3, 11, 8) := by decide +kernel
theorem fe_239_68 : am_fetch 239 68 = some (.iload_n 2, 1, 1, 0, 0) := by decide +kernel
theorem fe_239_69 : am_fetch 239 69 = some (.iconst 1, 1, 0, 0, 0) := by decide +kernel
theorem fe_239_70 : am_fetch 239 70 = some (.iload_n 3, 1, 1, 0, 0) := by decide +kernel
theorem fe_239_71 : am_fetch 239 71 = some (.iload 4, 2, 1, 0, 0) := by decide +kernel
theorem fe_239_73 : am_fetch 239 73 = some (.if_icmp .le 7, 3, 2, 80, 0) := by decide +kernel
theorem fe_239_76 : am_fetch 239 76 = some (.iconst 1, 1, 0, 0, 0) := by decide +kernel
theorem fe_239_77 : am_fetch 239 77 = some (.goto 4, 3, 2, 81, 0) := by decide +kernel
theorem fe_239_80 : am_fetch 239 80 = some (.iconst 0, 1, 0, 0, 0) := by decide +kernel
theorem fe_239_81 : am_fetch 239 81 = some (.iload_n 1, 1, 1, 0, 0) := by decide +kernel
theorem fe_239_82 : am_fetch 239 82 = some (.if_icmp .ne 7, 3, 2, 89, 0) := by decide +kernel
theorem fe_239_85 : am_fetch 239 85 = some (.iload_n 3, 1, 1, 0, 0) := by decide +kernel
theorem fe_239_86 : am_fetch 239 86 = some (.goto 5, 3, 2, 91, 0) := by decide +kernel
theorem fe_239_89 : am_fetch 239 89 = some (.iload 4, 2, 1, 0, 0) := by decide +kernel
theorem fe_239_91 : am_fetch 239 91 = some (.iadd, 1, 0, 0, 0) := by decide +kernel
theorem fe_239_92 : am_fetch 239 92 = some (.iastore, 1, 4, 0, 0) := by decide +kernel
theorem fe_239_93 : am_fetch 239 93 = some (.iinc 2 (-1), 3, 1, 0, 0) := by decide +kernel
theorem fe_239_96 : am_fetch 239 96 = some (.goto (-61), 3, 2, 35, 0) := by decide +kernel
theorem fe_239_99 : am_fetch 239 99 = some (.aload_n 0, 1, 1, 0, 0) := by decide +kernel
theorem fe_239_100 : am_fetch 239 100 = some (.getfield 26, 3, 3, 11, 8) := by decide +kernel
theorem fe_239_103 : am_fetch 239 103 = some (.iconst 0, 1, 0, 0, 0) := by decide +kernel
theorem fe_239_104 : am_fetch 239 104 = some (.iaload, 1, 3, 0, 0) := by decide +kernel
theorem fe_239_105 : am_fetch 239 105 = some (.ireturn, 1, 8, 0, 0) := by decide +kernel
theorem at_0 : am_at ay_SK 0 = some (.inl (10, [some (.ref 1), some (.ref 33), some (.ref 40), some (.ref 45), some (.ref 56), some (.ref 253)])) := by decide +kernel
theorem at_1 : am_at ay_SK 1 = some (.inl (7, [none, none, none, none, none, some (.ref 2), some (.ref 4), some (.ref 6), some (.ref 8), some (.ref 19), some (.ref 26)])) := by decide +kernel
theorem at_2 : am_at ay_SK 2 = some (.inl (6, [some (.ref 3)])) := by decide +kernel
theorem at_3 : am_at ay_SK 3 = some (.inr (0, 2, [])) := by decide +kernel
theorem at_4 : am_at ay_SK 4 = some (.inl (6, [some (.ref 5)])) := by decide +kernel
theorem at_5 : am_at ay_SK 5 = some (.inr (0, 5, [])) := by decide +kernel
theorem at_6 : am_at ay_SK 6 = some (.inl (6, [some (.ref 7)])) := by decide +kernel
theorem at_7 : am_at ay_SK 7 = some (.inr (0, 5, [])) := by decide +kernel
theorem at_8 : am_at ay_SK 8 = some (.inl (1, [none, some (.ref 9), some (.ref 11), some (.ref 13), some (.ref 15), some (.ref 17)])) := by decide +kernel
theorem at_9 : am_at ay_SK 9 = some (.inl (6, [some (.ref 10)])) := by decide +kernel
theorem at_10 : am_at ay_SK 10 = some (.inr (0, 12, [])) := by decide +kernel
theorem at_11 : am_at ay_SK 11 = some (.inl (6, [some (.ref 12)])) := by decide +kernel
theorem at_12 : am_at ay_SK 12 = some (.inr (0, 12, [])) := by decide +kernel
theorem at_13 : am_at ay_SK 13 = some (.inl (6, [some (.ref 14)])) := by decide +kernel
theorem at_14 : am_at ay_SK 14 = some (.inr (0, 12, [])) := by decide +kernel
theorem at_15 : am_at ay_SK 15 = some (.inl (6, [some (.ref 16)])) := by decide +kernel
theorem at_16 : am_at ay_SK 16 = some (.inr (0, 24, [])) := by decide +kernel
theorem at_17 : am_at ay_SK 17 = some (.inl (6, [some (.ref 18)])) := by decide +kernel
theorem at_18 : am_at ay_SK 18 = some (.inr (0, 24, [])) := by decide +kernel
theorem at_19 : am_at ay_SK 19 = some (.inl (0, [none, some (.ref 20), some (.ref 22), some (.ref 24)])) := by decide +kernel
theorem at_20 : am_at ay_SK 20 = some (.inl (6, [some (.ref 21)])) := by decide +kernel
theorem at_21 : am_at ay_SK 21 = some (.inr (0, 40, [])) := by decide +kernel
theorem at_22 : am_at ay_SK 22 = some (.inl (6, [some (.ref 23)])) := by decide +kernel
theorem at_23 : am_at ay_SK 23 = some (.inr (0, 40, [])) := by decide +kernel
theorem at_24 : am_at ay_SK 24 = some (.inl (6, [some (.ref 25)])) := by decide +kernel
theorem at_25 : am_at ay_SK 25 = some (.inr (0, 40, [])) := by decide +kernel
theorem at_26 : am_at ay_SK 26 = some (.inl (8, [none, none, none, some (.ref 27), some (.ref 29), some (.ref 31)])) := by decide +kernel
theorem at_27 : am_at ay_SK 27 = some (.inl (6, [some (.ref 28)])) := by decide +kernel
theorem at_28 : am_at ay_SK 28 = some (.inr (0, 60, [])) := by decide +kernel
theorem at_29 : am_at ay_SK 29 = some (.inl (6, [some (.ref 30)])) := by decide +kernel
theorem at_30 : am_at ay_SK 30 = some (.inr (0, 60, [])) := by decide +kernel
theorem at_31 : am_at ay_SK 31 = some (.inl (6, [some (.ref 32)])) := by decide +kernel
theorem at_32 : am_at ay_SK 32 = some (.inr (0, 60, [])) := by decide +kernel
theorem at_33 : am_at ay_SK 33 = some (.inl (5, [some (.ref 8), some (.ref 34), some (.ref 36), some (.ref 38)])) := by decide +kernel
theorem at_34 : am_at ay_SK 34 = some (.inl (6, [some (.ref 35)])) := by decide +kernel
theorem at_35 : am_at ay_SK 35 = some (.inr (0, 12, [])) := by decide +kernel
theorem at_36 : am_at ay_SK 36 = some (.inl (6, [some (.ref 37)])) := by decide +kernel
theorem at_37 : am_at ay_SK 37 = some (.inr (0, 25, [])) := by decide +kernel
theorem at_38 : am_at ay_SK 38 = some (.inl (6, [some (.ref 39)])) := by decide +kernel
theorem at_39 : am_at ay_SK 39 = some (.inr (0, 25, [])) := by decide +kernel
theorem at_40 : am_at ay_SK 40 = some (.inl (3, [some (.ref 26), some (.ref 41), some (.ref 43), none])) := by decide +kernel
theorem at_41 : am_at ay_SK 41 = some (.inl (6, [some (.ref 42)])) := by decide +kernel
theorem at_42 : am_at ay_SK 42 = some (.inr (0, 31, [])) := by decide +kernel
theorem at_43 : am_at ay_SK 43 = some (.inl (6, [some (.ref 44)])) := by decide +kernel
theorem at_44 : am_at ay_SK 44 = some (.inr (0, 60, [])) := by decide +kernel
theorem at_45 : am_at ay_SK 45 = some (.inl (4, [none, some (.ref 46), none, none, some (.ref 48), some (.ref 50), some (.ref 52), some (.ref 54)])) := by decide +kernel
theorem at_46 : am_at ay_SK 46 = some (.inl (6, [some (.ref 47)])) := by decide +kernel
theorem at_47 : am_at ay_SK 47 = some (.inr (0, 60, [])) := by decide +kernel
theorem at_48 : am_at ay_SK 48 = some (.inl (6, [some (.ref 49)])) := by decide +kernel
theorem at_49 : am_at ay_SK 49 = some (.inr (0, 20, [])) := by decide +kernel
theorem at_50 : am_at ay_SK 50 = some (.inl (6, [some (.ref 51)])) := by decide +kernel
theorem at_51 : am_at ay_SK 51 = some (.inr (0, 20, [])) := by decide +kernel
theorem at_52 : am_at ay_SK 52 = some (.inl (6, [some (.ref 53)])) := by decide +kernel
theorem at_53 : am_at ay_SK 53 = some (.inr (0, 20, [])) := by decide +kernel
theorem at_54 : am_at ay_SK 54 = some (.inl (6, [some (.ref 55)])) := by decide +kernel
theorem at_55 : am_at ay_SK 55 = some (.inr (0, 20, [])) := by decide +kernel
theorem at_56 : am_at ay_SK 56 = some (.inl (2, [some (.ref 57), none, none])) := by decide +kernel
theorem at_57 : am_at ay_SK 57 = some (.inl (9, [some (.ref 58), some (.ref 251)])) := by decide +kernel
theorem at_58 : am_at ay_SK 58 = some (.inr (3, 6, [some 59, some 91, some 123, some 155, some 187, some 219])) := by decide +kernel
theorem at_59 : am_at ay_SK 59 = some (.inl (7, [none, none, none, none, none, some (.ref 60), some (.ref 62), some (.ref 64), some (.ref 66), some (.ref 77), some (.ref 84)])) := by decide +kernel
theorem at_60 : am_at ay_SK 60 = some (.inl (6, [some (.ref 61)])) := by decide +kernel
theorem at_61 : am_at ay_SK 61 = some (.inr (0, 2, [])) := by decide +kernel
theorem at_62 : am_at ay_SK 62 = some (.inl (6, [some (.ref 63)])) := by decide +kernel
theorem at_63 : am_at ay_SK 63 = some (.inr (0, 5, [])) := by decide +kernel
theorem at_64 : am_at ay_SK 64 = some (.inl (6, [some (.ref 65)])) := by decide +kernel
theorem at_65 : am_at ay_SK 65 = some (.inr (0, 5, [])) := by decide +kernel
theorem at_66 : am_at ay_SK 66 = some (.inl (1, [none, some (.ref 67), some (.ref 69), some (.ref 71), some (.ref 73), some (.ref 75)])) := by decide +kernel
theorem at_67 : am_at ay_SK 67 = some (.inl (6, [some (.ref 68)])) := by decide +kernel
theorem at_68 : am_at ay_SK 68 = some (.inr (0, 12, [])) := by decide +kernel
theorem at_69 : am_at ay_SK 69 = some (.inl (6, [some (.ref 70)])) := by decide +kernel
theorem at_70 : am_at ay_SK 70 = some (.inr (0, 12, [])) := by decide +kernel
theorem at_71 : am_at ay_SK 71 = some (.inl (6, [some (.ref 72)])) := by decide +kernel
theorem at_72 : am_at ay_SK 72 = some (.inr (0, 12, [])) := by decide +kernel
theorem at_73 : am_at ay_SK 73 = some (.inl (6, [some (.ref 74)])) := by decide +kernel
theorem at_74 : am_at ay_SK 74 = some (.inr (0, 24, [])) := by decide +kernel
theorem at_75 : am_at ay_SK 75 = some (.inl (6, [some (.ref 76)])) := by decide +kernel
theorem at_76 : am_at ay_SK 76 = some (.inr (0, 24, [])) := by decide +kernel
theorem at_77 : am_at ay_SK 77 = some (.inl (0, [none, some (.ref 78), some (.ref 80), some (.ref 82)])) := by decide +kernel
theorem at_78 : am_at ay_SK 78 = some (.inl (6, [some (.ref 79)])) := by decide +kernel
theorem at_79 : am_at ay_SK 79 = some (.inr (0, 40, [])) := by decide +kernel
theorem at_80 : am_at ay_SK 80 = some (.inl (6, [some (.ref 81)])) := by decide +kernel
theorem at_81 : am_at ay_SK 81 = some (.inr (0, 40, [])) := by decide +kernel
theorem at_82 : am_at ay_SK 82 = some (.inl (6, [some (.ref 83)])) := by decide +kernel
theorem at_83 : am_at ay_SK 83 = some (.inr (0, 40, [])) := by decide +kernel
theorem at_84 : am_at ay_SK 84 = some (.inl (8, [none, none, none, some (.ref 85), some (.ref 87), some (.ref 89)])) := by decide +kernel
theorem at_85 : am_at ay_SK 85 = some (.inl (6, [some (.ref 86)])) := by decide +kernel
theorem at_86 : am_at ay_SK 86 = some (.inr (0, 60, [])) := by decide +kernel
theorem at_87 : am_at ay_SK 87 = some (.inl (6, [some (.ref 88)])) := by decide +kernel
theorem at_88 : am_at ay_SK 88 = some (.inr (0, 60, [])) := by decide +kernel
theorem at_89 : am_at ay_SK 89 = some (.inl (6, [some (.ref 90)])) := by decide +kernel
theorem at_90 : am_at ay_SK 90 = some (.inr (0, 60, [])) := by decide +kernel
theorem at_91 : am_at ay_SK 91 = some (.inl (7, [none, none, none, none, none, some (.ref 92), some (.ref 94), some (.ref 96), some (.ref 98), some (.ref 109), some (.ref 116)])) := by decide +kernel
theorem at_92 : am_at ay_SK 92 = some (.inl (6, [some (.ref 93)])) := by decide +kernel
theorem at_93 : am_at ay_SK 93 = some (.inr (0, 2, [])) := by decide +kernel
theorem at_94 : am_at ay_SK 94 = some (.inl (6, [some (.ref 95)])) := by decide +kernel
theorem at_95 : am_at ay_SK 95 = some (.inr (0, 5, [])) := by decide +kernel
theorem at_96 : am_at ay_SK 96 = some (.inl (6, [some (.ref 97)])) := by decide +kernel
theorem at_97 : am_at ay_SK 97 = some (.inr (0, 5, [])) := by decide +kernel
theorem at_98 : am_at ay_SK 98 = some (.inl (1, [none, some (.ref 99), some (.ref 101), some (.ref 103), some (.ref 105), some (.ref 107)])) := by decide +kernel
theorem at_99 : am_at ay_SK 99 = some (.inl (6, [some (.ref 100)])) := by decide +kernel
theorem at_100 : am_at ay_SK 100 = some (.inr (0, 12, [])) := by decide +kernel
theorem at_101 : am_at ay_SK 101 = some (.inl (6, [some (.ref 102)])) := by decide +kernel
theorem at_102 : am_at ay_SK 102 = some (.inr (0, 12, [])) := by decide +kernel
theorem at_103 : am_at ay_SK 103 = some (.inl (6, [some (.ref 104)])) := by decide +kernel
theorem at_104 : am_at ay_SK 104 = some (.inr (0, 12, [])) := by decide +kernel
theorem at_105 : am_at ay_SK 105 = some (.inl (6, [some (.ref 106)])) := by decide +kernel
theorem at_106 : am_at ay_SK 106 = some (.inr (0, 24, [])) := by decide +kernel
theorem at_107 : am_at ay_SK 107 = some (.inl (6, [some (.ref 108)])) := by decide +kernel
theorem at_108 : am_at ay_SK 108 = some (.inr (0, 24, [])) := by decide +kernel
theorem at_109 : am_at ay_SK 109 = some (.inl (0, [none, some (.ref 110), some (.ref 112), some (.ref 114)])) := by decide +kernel
theorem at_110 : am_at ay_SK 110 = some (.inl (6, [some (.ref 111)])) := by decide +kernel
theorem at_111 : am_at ay_SK 111 = some (.inr (0, 40, [])) := by decide +kernel
theorem at_112 : am_at ay_SK 112 = some (.inl (6, [some (.ref 113)])) := by decide +kernel
theorem at_113 : am_at ay_SK 113 = some (.inr (0, 40, [])) := by decide +kernel
theorem at_114 : am_at ay_SK 114 = some (.inl (6, [some (.ref 115)])) := by decide +kernel
theorem at_115 : am_at ay_SK 115 = some (.inr (0, 40, [])) := by decide +kernel
theorem at_116 : am_at ay_SK 116 = some (.inl (8, [none, none, none, some (.ref 117), some (.ref 119), some (.ref 121)])) := by decide +kernel
theorem at_117 : am_at ay_SK 117 = some (.inl (6, [some (.ref 118)])) := by decide +kernel
theorem at_118 : am_at ay_SK 118 = some (.inr (0, 60, [])) := by decide +kernel
theorem at_119 : am_at ay_SK 119 = some (.inl (6, [some (.ref 120)])) := by decide +kernel
theorem at_120 : am_at ay_SK 120 = some (.inr (0, 60, [])) := by decide +kernel
theorem at_121 : am_at ay_SK 121 = some (.inl (6, [some (.ref 122)])) := by decide +kernel
theorem at_122 : am_at ay_SK 122 = some (.inr (0, 60, [])) := by decide +kernel
theorem at_123 : am_at ay_SK 123 = some (.inl (7, [none, none, none, none, none, some (.ref 124), some (.ref 126), some (.ref 128), some (.ref 130), some (.ref 141), some (.ref 148)])) := by decide +kernel
theorem at_124 : am_at ay_SK 124 = some (.inl (6, [some (.ref 125)])) := by decide +kernel
theorem at_125 : am_at ay_SK 125 = some (.inr (0, 2, [])) := by decide +kernel
theorem at_126 : am_at ay_SK 126 = some (.inl (6, [some (.ref 127)])) := by decide +kernel
theorem at_127 : am_at ay_SK 127 = some (.inr (0, 5, [])) := by decide +kernel
theorem at_128 : am_at ay_SK 128 = some (.inl (6, [some (.ref 129)])) := by decide +kernel
theorem at_129 : am_at ay_SK 129 = some (.inr (0, 5, [])) := by decide +kernel
theorem at_130 : am_at ay_SK 130 = some (.inl (1, [none, some (.ref 131), some (.ref 133), some (.ref 135), some (.ref 137), some (.ref 139)])) := by decide +kernel
theorem at_131 : am_at ay_SK 131 = some (.inl (6, [some (.ref 132)])) := by decide +kernel
theorem at_132 : am_at ay_SK 132 = some (.inr (0, 12, [])) := by decide +kernel
theorem at_133 : am_at ay_SK 133 = some (.inl (6, [some (.ref 134)])) := by decide +kernel
theorem at_134 : am_at ay_SK 134 = some (.inr (0, 12, [])) := by decide +kernel
theorem at_135 : am_at ay_SK 135 = some (.inl (6, [some (.ref 136)])) := by decide +kernel
theorem at_136 : am_at ay_SK 136 = some (.inr (0, 12, [])) := by decide +kernel
theorem at_137 : am_at ay_SK 137 = some (.inl (6, [some (.ref 138)])) := by decide +kernel
theorem at_138 : am_at ay_SK 138 = some (.inr (0, 24, [])) := by decide +kernel
theorem at_139 : am_at ay_SK 139 = some (.inl (6, [some (.ref 140)])) := by decide +kernel
theorem at_140 : am_at ay_SK 140 = some (.inr (0, 24, [])) := by decide +kernel
theorem at_141 : am_at ay_SK 141 = some (.inl (0, [none, some (.ref 142), some (.ref 144), some (.ref 146)])) := by decide +kernel
theorem at_142 : am_at ay_SK 142 = some (.inl (6, [some (.ref 143)])) := by decide +kernel
theorem at_143 : am_at ay_SK 143 = some (.inr (0, 40, [])) := by decide +kernel
theorem at_144 : am_at ay_SK 144 = some (.inl (6, [some (.ref 145)])) := by decide +kernel
theorem at_145 : am_at ay_SK 145 = some (.inr (0, 40, [])) := by decide +kernel
theorem at_146 : am_at ay_SK 146 = some (.inl (6, [some (.ref 147)])) := by decide +kernel
theorem at_147 : am_at ay_SK 147 = some (.inr (0, 40, [])) := by decide +kernel
theorem at_148 : am_at ay_SK 148 = some (.inl (8, [none, none, none, some (.ref 149), some (.ref 151), some (.ref 153)])) := by decide +kernel
theorem at_149 : am_at ay_SK 149 = some (.inl (6, [some (.ref 150)])) := by decide +kernel
theorem at_150 : am_at ay_SK 150 = some (.inr (0, 60, [])) := by decide +kernel
theorem at_151 : am_at ay_SK 151 = some (.inl (6, [some (.ref 152)])) := by decide +kernel
theorem at_152 : am_at ay_SK 152 = some (.inr (0, 60, [])) := by decide +kernel
theorem at_153 : am_at ay_SK 153 = some (.inl (6, [some (.ref 154)])) := by decide +kernel
theorem at_154 : am_at ay_SK 154 = some (.inr (0, 60, [])) := by decide +kernel
theorem at_155 : am_at ay_SK 155 = some (.inl (7, [none, none, none, none, none, some (.ref 156), some (.ref 158), some (.ref 160), some (.ref 162), some (.ref 173), some (.ref 180)])) := by decide +kernel
theorem at_156 : am_at ay_SK 156 = some (.inl (6, [some (.ref 157)])) := by decide +kernel
theorem at_157 : am_at ay_SK 157 = some (.inr (0, 2, [])) := by decide +kernel
theorem at_158 : am_at ay_SK 158 = some (.inl (6, [some (.ref 159)])) := by decide +kernel
theorem at_159 : am_at ay_SK 159 = some (.inr (0, 5, [])) := by decide +kernel
theorem at_160 : am_at ay_SK 160 = some (.inl (6, [some (.ref 161)])) := by decide +kernel
theorem at_161 : am_at ay_SK 161 = some (.inr (0, 5, [])) := by decide +kernel
theorem at_162 : am_at ay_SK 162 = some (.inl (1, [none, some (.ref 163), some (.ref 165), some (.ref 167), some (.ref 169), some (.ref 171)])) := by decide +kernel
theorem at_163 : am_at ay_SK 163 = some (.inl (6, [some (.ref 164)])) := by decide +kernel
theorem at_164 : am_at ay_SK 164 = some (.inr (0, 12, [])) := by decide +kernel
theorem at_165 : am_at ay_SK 165 = some (.inl (6, [some (.ref 166)])) := by decide +kernel
theorem at_166 : am_at ay_SK 166 = some (.inr (0, 12, [])) := by decide +kernel
theorem at_167 : am_at ay_SK 167 = some (.inl (6, [some (.ref 168)])) := by decide +kernel
theorem at_168 : am_at ay_SK 168 = some (.inr (0, 12, [])) := by decide +kernel
theorem at_169 : am_at ay_SK 169 = some (.inl (6, [some (.ref 170)])) := by decide +kernel
theorem at_170 : am_at ay_SK 170 = some (.inr (0, 24, [])) := by decide +kernel
theorem at_171 : am_at ay_SK 171 = some (.inl (6, [some (.ref 172)])) := by decide +kernel
theorem at_172 : am_at ay_SK 172 = some (.inr (0, 24, [])) := by decide +kernel
theorem at_173 : am_at ay_SK 173 = some (.inl (0, [none, some (.ref 174), some (.ref 176), some (.ref 178)])) := by decide +kernel
theorem at_174 : am_at ay_SK 174 = some (.inl (6, [some (.ref 175)])) := by decide +kernel
theorem at_175 : am_at ay_SK 175 = some (.inr (0, 40, [])) := by decide +kernel
theorem at_176 : am_at ay_SK 176 = some (.inl (6, [some (.ref 177)])) := by decide +kernel
theorem at_177 : am_at ay_SK 177 = some (.inr (0, 40, [])) := by decide +kernel
theorem at_178 : am_at ay_SK 178 = some (.inl (6, [some (.ref 179)])) := by decide +kernel
theorem at_179 : am_at ay_SK 179 = some (.inr (0, 40, [])) := by decide +kernel
theorem at_180 : am_at ay_SK 180 = some (.inl (8, [none, none, none, some (.ref 181), some (.ref 183), some (.ref 185)])) := by decide +kernel
theorem at_181 : am_at ay_SK 181 = some (.inl (6, [some (.ref 182)])) := by decide +kernel
theorem at_182 : am_at ay_SK 182 = some (.inr (0, 60, [])) := by decide +kernel
theorem at_183 : am_at ay_SK 183 = some (.inl (6, [some (.ref 184)])) := by decide +kernel
theorem at_184 : am_at ay_SK 184 = some (.inr (0, 60, [])) := by decide +kernel
theorem at_185 : am_at ay_SK 185 = some (.inl (6, [some (.ref 186)])) := by decide +kernel
theorem at_186 : am_at ay_SK 186 = some (.inr (0, 60, [])) := by decide +kernel
theorem at_187 : am_at ay_SK 187 = some (.inl (7, [none, none, none, none, none, some (.ref 188), some (.ref 190), some (.ref 192), some (.ref 194), some (.ref 205), some (.ref 212)])) := by decide +kernel
theorem at_188 : am_at ay_SK 188 = some (.inl (6, [some (.ref 189)])) := by decide +kernel
theorem at_189 : am_at ay_SK 189 = some (.inr (0, 2, [])) := by decide +kernel
theorem at_190 : am_at ay_SK 190 = some (.inl (6, [some (.ref 191)])) := by decide +kernel
theorem at_191 : am_at ay_SK 191 = some (.inr (0, 5, [])) := by decide +kernel
theorem at_192 : am_at ay_SK 192 = some (.inl (6, [some (.ref 193)])) := by decide +kernel
theorem at_193 : am_at ay_SK 193 = some (.inr (0, 5, [])) := by decide +kernel
theorem at_194 : am_at ay_SK 194 = some (.inl (1, [none, some (.ref 195), some (.ref 197), some (.ref 199), some (.ref 201), some (.ref 203)])) := by decide +kernel
theorem at_195 : am_at ay_SK 195 = some (.inl (6, [some (.ref 196)])) := by decide +kernel
theorem at_196 : am_at ay_SK 196 = some (.inr (0, 12, [])) := by decide +kernel
theorem at_197 : am_at ay_SK 197 = some (.inl (6, [some (.ref 198)])) := by decide +kernel
theorem at_198 : am_at ay_SK 198 = some (.inr (0, 12, [])) := by decide +kernel
theorem at_199 : am_at ay_SK 199 = some (.inl (6, [some (.ref 200)])) := by decide +kernel
theorem at_200 : am_at ay_SK 200 = some (.inr (0, 12, [])) := by decide +kernel
theorem at_201 : am_at ay_SK 201 = some (.inl (6, [some (.ref 202)])) := by decide +kernel
theorem at_202 : am_at ay_SK 202 = some (.inr (0, 24, [])) := by decide +kernel
theorem at_203 : am_at ay_SK 203 = some (.inl (6, [some (.ref 204)])) := by decide +kernel
theorem at_204 : am_at ay_SK 204 = some (.inr (0, 24, [])) := by decide +kernel
theorem at_205 : am_at ay_SK 205 = some (.inl (0, [none, some (.ref 206), some (.ref 208), some (.ref 210)])) := by decide +kernel
theorem at_206 : am_at ay_SK 206 = some (.inl (6, [some (.ref 207)])) := by decide +kernel
theorem at_207 : am_at ay_SK 207 = some (.inr (0, 40, [])) := by decide +kernel
theorem at_208 : am_at ay_SK 208 = some (.inl (6, [some (.ref 209)])) := by decide +kernel
theorem at_209 : am_at ay_SK 209 = some (.inr (0, 40, [])) := by decide +kernel
theorem at_210 : am_at ay_SK 210 = some (.inl (6, [some (.ref 211)])) := by decide +kernel
theorem at_211 : am_at ay_SK 211 = some (.inr (0, 40, [])) := by decide +kernel
theorem at_212 : am_at ay_SK 212 = some (.inl (8, [none, none, none, some (.ref 213), some (.ref 215), some (.ref 217)])) := by decide +kernel
theorem at_213 : am_at ay_SK 213 = some (.inl (6, [some (.ref 214)])) := by decide +kernel
theorem at_214 : am_at ay_SK 214 = some (.inr (0, 60, [])) := by decide +kernel
theorem at_215 : am_at ay_SK 215 = some (.inl (6, [some (.ref 216)])) := by decide +kernel
theorem at_216 : am_at ay_SK 216 = some (.inr (0, 60, [])) := by decide +kernel
theorem at_217 : am_at ay_SK 217 = some (.inl (6, [some (.ref 218)])) := by decide +kernel
theorem at_218 : am_at ay_SK 218 = some (.inr (0, 60, [])) := by decide +kernel
theorem at_219 : am_at ay_SK 219 = some (.inl (7, [none, none, none, none, none, some (.ref 220), some (.ref 222), some (.ref 224), some (.ref 226), some (.ref 237), some (.ref 244)])) := by decide +kernel
theorem at_220 : am_at ay_SK 220 = some (.inl (6, [some (.ref 221)])) := by decide +kernel
theorem at_221 : am_at ay_SK 221 = some (.inr (0, 2, [])) := by decide +kernel
theorem at_222 : am_at ay_SK 222 = some (.inl (6, [some (.ref 223)])) := by decide +kernel
theorem at_223 : am_at ay_SK 223 = some (.inr (0, 5, [])) := by decide +kernel
theorem at_224 : am_at ay_SK 224 = some (.inl (6, [some (.ref 225)])) := by decide +kernel
theorem at_225 : am_at ay_SK 225 = some (.inr (0, 5, [])) := by decide +kernel
theorem at_226 : am_at ay_SK 226 = some (.inl (1, [none, some (.ref 227), some (.ref 229), some (.ref 231), some (.ref 233), some (.ref 235)])) := by decide +kernel
theorem at_227 : am_at ay_SK 227 = some (.inl (6, [some (.ref 228)])) := by decide +kernel
theorem at_228 : am_at ay_SK 228 = some (.inr (0, 12, [])) := by decide +kernel
theorem at_229 : am_at ay_SK 229 = some (.inl (6, [some (.ref 230)])) := by decide +kernel
theorem at_230 : am_at ay_SK 230 = some (.inr (0, 12, [])) := by decide +kernel
theorem at_231 : am_at ay_SK 231 = some (.inl (6, [some (.ref 232)])) := by decide +kernel
theorem at_232 : am_at ay_SK 232 = some (.inr (0, 12, [])) := by decide +kernel
theorem at_233 : am_at ay_SK 233 = some (.inl (6, [some (.ref 234)])) := by decide +kernel
theorem at_234 : am_at ay_SK 234 = some (.inr (0, 24, [])) := by decide +kernel
theorem at_235 : am_at ay_SK 235 = some (.inl (6, [some (.ref 236)])) := by decide +kernel
theorem at_236 : am_at ay_SK 236 = some (.inr (0, 24, [])) := by decide +kernel
theorem at_237 : am_at ay_SK 237 = some (.inl (0, [none, some (.ref 238), some (.ref 240), some (.ref 242)])) := by decide +kernel
theorem at_238 : am_at ay_SK 238 = some (.inl (6, [some (.ref 239)])) := by decide +kernel
theorem at_239 : am_at ay_SK 239 = some (.inr (0, 40, [])) := by decide +kernel
theorem at_240 : am_at ay_SK 240 = some (.inl (6, [some (.ref 241)])) := by decide +kernel
theorem at_241 : am_at ay_SK 241 = some (.inr (0, 40, [])) := by decide +kernel
theorem at_242 : am_at ay_SK 242 = some (.inl (6, [some (.ref 243)])) := by decide +kernel
theorem at_243 : am_at ay_SK 243 = some (.inr (0, 40, [])) := by decide +kernel
theorem at_244 : am_at ay_SK 244 = some (.inl (8, [none, none, none, some (.ref 245), some (.ref 247), some (.ref 249)])) := by decide +kernel
theorem at_245 : am_at ay_SK 245 = some (.inl (6, [some (.ref 246)])) := by decide +kernel
theorem at_246 : am_at ay_SK 246 = some (.inr (0, 60, [])) := by decide +kernel
theorem at_247 : am_at ay_SK 247 = some (.inl (6, [some (.ref 248)])) := by decide +kernel
theorem at_248 : am_at ay_SK 248 = some (.inr (0, 60, [])) := by decide +kernel
theorem at_249 : am_at ay_SK 249 = some (.inl (6, [some (.ref 250)])) := by decide +kernel
theorem at_250 : am_at ay_SK 250 = some (.inr (0, 60, [])) := by decide +kernel
theorem at_251 : am_at ay_SK 251 = some (.inl (6, [some (.ref 252)])) := by decide +kernel
theorem at_252 : am_at ay_SK 252 = some (.inr (0, 6, [])) := by decide +kernel
theorem at_253 : am_at ay_SK 253 = some (.inl (9, [some (.ref 254), some (.ref 319)])) := by decide +kernel
theorem at_254 : am_at ay_SK 254 = some (.inr (3, 2, [some 255, some 287])) := by decide +kernel
theorem at_255 : am_at ay_SK 255 = some (.inl (7, [none, none, none, none, none, some (.ref 256), some (.ref 258), some (.ref 260), some (.ref 262), some (.ref 273), some (.ref 280)])) := by decide +kernel
theorem at_256 : am_at ay_SK 256 = some (.inl (6, [some (.ref 257)])) := by decide +kernel
theorem at_257 : am_at ay_SK 257 = some (.inr (0, 2, [])) := by decide +kernel
theorem at_258 : am_at ay_SK 258 = some (.inl (6, [some (.ref 259)])) := by decide +kernel
theorem at_259 : am_at ay_SK 259 = some (.inr (0, 5, [])) := by decide +kernel
theorem at_260 : am_at ay_SK 260 = some (.inl (6, [some (.ref 261)])) := by decide +kernel
theorem at_261 : am_at ay_SK 261 = some (.inr (0, 5, [])) := by decide +kernel
theorem at_262 : am_at ay_SK 262 = some (.inl (1, [none, some (.ref 263), some (.ref 265), some (.ref 267), some (.ref 269), some (.ref 271)])) := by decide +kernel
theorem at_263 : am_at ay_SK 263 = some (.inl (6, [some (.ref 264)])) := by decide +kernel
theorem at_264 : am_at ay_SK 264 = some (.inr (0, 12, [])) := by decide +kernel
theorem at_265 : am_at ay_SK 265 = some (.inl (6, [some (.ref 266)])) := by decide +kernel
theorem at_266 : am_at ay_SK 266 = some (.inr (0, 12, [])) := by decide +kernel
theorem at_267 : am_at ay_SK 267 = some (.inl (6, [some (.ref 268)])) := by decide +kernel
theorem at_268 : am_at ay_SK 268 = some (.inr (0, 12, [])) := by decide +kernel
theorem at_269 : am_at ay_SK 269 = some (.inl (6, [some (.ref 270)])) := by decide +kernel
theorem at_270 : am_at ay_SK 270 = some (.inr (0, 24, [])) := by decide +kernel
theorem at_271 : am_at ay_SK 271 = some (.inl (6, [some (.ref 272)])) := by decide +kernel
theorem at_272 : am_at ay_SK 272 = some (.inr (0, 24, [])) := by decide +kernel
theorem at_273 : am_at ay_SK 273 = some (.inl (0, [none, some (.ref 274), some (.ref 276), some (.ref 278)])) := by decide +kernel
theorem at_274 : am_at ay_SK 274 = some (.inl (6, [some (.ref 275)])) := by decide +kernel
theorem at_275 : am_at ay_SK 275 = some (.inr (0, 40, [])) := by decide +kernel
theorem at_276 : am_at ay_SK 276 = some (.inl (6, [some (.ref 277)])) := by decide +kernel
theorem at_277 : am_at ay_SK 277 = some (.inr (0, 40, [])) := by decide +kernel
theorem at_278 : am_at ay_SK 278 = some (.inl (6, [some (.ref 279)])) := by decide +kernel
theorem at_279 : am_at ay_SK 279 = some (.inr (0, 40, [])) := by decide +kernel
theorem at_280 : am_at ay_SK 280 = some (.inl (8, [none, none, none, some (.ref 281), some (.ref 283), some (.ref 285)])) := by decide +kernel
theorem at_281 : am_at ay_SK 281 = some (.inl (6, [some (.ref 282)])) := by decide +kernel
theorem at_282 : am_at ay_SK 282 = some (.inr (0, 60, [])) := by decide +kernel
theorem at_283 : am_at ay_SK 283 = some (.inl (6, [some (.ref 284)])) := by decide +kernel
theorem at_284 : am_at ay_SK 284 = some (.inr (0, 60, [])) := by decide +kernel
theorem at_285 : am_at ay_SK 285 = some (.inl (6, [some (.ref 286)])) := by decide +kernel
theorem at_286 : am_at ay_SK 286 = some (.inr (0, 60, [])) := by decide +kernel
theorem at_287 : am_at ay_SK 287 = some (.inl (7, [none, none, none, none, none, some (.ref 288), some (.ref 290), some (.ref 292), some (.ref 294), some (.ref 305), some (.ref 312)])) := by decide +kernel
theorem at_288 : am_at ay_SK 288 = some (.inl (6, [some (.ref 289)])) := by decide +kernel
theorem at_289 : am_at ay_SK 289 = some (.inr (0, 2, [])) := by decide +kernel
theorem at_290 : am_at ay_SK 290 = some (.inl (6, [some (.ref 291)])) := by decide +kernel
theorem at_291 : am_at ay_SK 291 = some (.inr (0, 5, [])) := by decide +kernel
theorem at_292 : am_at ay_SK 292 = some (.inl (6, [some (.ref 293)])) := by decide +kernel
theorem at_293 : am_at ay_SK 293 = some (.inr (0, 5, [])) := by decide +kernel
theorem at_294 : am_at ay_SK 294 = some (.inl (1, [none, some (.ref 295), some (.ref 297), some (.ref 299), some (.ref 301), some (.ref 303)])) := by decide +kernel
theorem at_295 : am_at ay_SK 295 = some (.inl (6, [some (.ref 296)])) := by decide +kernel
theorem at_296 : am_at ay_SK 296 = some (.inr (0, 12, [])) := by decide +kernel
theorem at_297 : am_at ay_SK 297 = some (.inl (6, [some (.ref 298)])) := by decide +kernel
theorem at_298 : am_at ay_SK 298 = some (.inr (0, 12, [])) := by decide +kernel
theorem at_299 : am_at ay_SK 299 = some (.inl (6, [some (.ref 300)])) := by decide +kernel
theorem at_300 : am_at ay_SK 300 = some (.inr (0, 12, [])) := by decide +kernel
theorem at_301 : am_at ay_SK 301 = some (.inl (6, [some (.ref 302)])) := by decide +kernel
theorem at_302 : am_at ay_SK 302 = some (.inr (0, 24, [])) := by decide +kernel
theorem at_303 : am_at ay_SK 303 = some (.inl (6, [some (.ref 304)])) := by decide +kernel
theorem at_304 : am_at ay_SK 304 = some (.inr (0, 24, [])) := by decide +kernel
theorem at_305 : am_at ay_SK 305 = some (.inl (0, [none, some (.ref 306), some (.ref 308), some (.ref 310)])) := by decide +kernel
theorem at_306 : am_at ay_SK 306 = some (.inl (6, [some (.ref 307)])) := by decide +kernel
theorem at_307 : am_at ay_SK 307 = some (.inr (0, 40, [])) := by decide +kernel
theorem at_308 : am_at ay_SK 308 = some (.inl (6, [some (.ref 309)])) := by decide +kernel
theorem at_309 : am_at ay_SK 309 = some (.inr (0, 40, [])) := by decide +kernel
theorem at_310 : am_at ay_SK 310 = some (.inl (6, [some (.ref 311)])) := by decide +kernel
theorem at_311 : am_at ay_SK 311 = some (.inr (0, 40, [])) := by decide +kernel
theorem at_312 : am_at ay_SK 312 = some (.inl (8, [none, none, none, some (.ref 313), some (.ref 315), some (.ref 317)])) := by decide +kernel
theorem at_313 : am_at ay_SK 313 = some (.inl (6, [some (.ref 314)])) := by decide +kernel
theorem at_314 : am_at ay_SK 314 = some (.inr (0, 60, [])) := by decide +kernel
theorem at_315 : am_at ay_SK 315 = some (.inl (6, [some (.ref 316)])) := by decide +kernel
theorem at_316 : am_at ay_SK 316 = some (.inr (0, 60, [])) := by decide +kernel
theorem at_317 : am_at ay_SK 317 = some (.inl (6, [some (.ref 318)])) := by decide +kernel
theorem at_318 : am_at ay_SK 318 = some (.inr (0, 60, [])) := by decide +kernel
theorem at_319 : am_at ay_SK 319 = some (.inl (6, [some (.ref 320)])) := by decide +kernel
theorem at_320 : am_at ay_SK 320 = some (.inr (0, 2, [])) := by decide +kernel
theorem at_321 : am_at ay_SK 321 = some (.inl (11, [some (.ref 322), some (.ref 323), none, some (.ref 324), some (.ref 325), some (.ref 326), none, none, some (.ref 327), none, none, some (.ref 328), none])) := by decide +kernel
theorem at_322 : am_at ay_SK 322 = some (.inr (0, 405, [])) := by decide +kernel
theorem at_323 : am_at ay_SK 323 = some (.inr (0, 2430, [])) := by decide +kernel
theorem at_324 : am_at ay_SK 324 = some (.inr (0, 810, [])) := by decide +kernel
theorem at_325 : am_at ay_SK 325 = some (.inr (1, 2, [])) := by decide +kernel
theorem at_326 : am_at ay_SK 326 = some (.inr (0, 60, [])) := by decide +kernel
theorem at_327 : am_at ay_SK 327 = some (.inr (0, 25, [])) := by decide +kernel
theorem at_328 : am_at ay_SK 328 = some (.inr (0, 3, [])) := by decide +kernel
theorem at_329 : am_at ay_SK 329 = some (.inr (2, 1, [])) := by decide +kernel
