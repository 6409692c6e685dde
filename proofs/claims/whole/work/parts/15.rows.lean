/-! every row of every table stands as it should (parts 08 to 10), as one theorem -/
theorem am_join1 {α : Type} {f : α → Bool} {l : List α} (hl : l.length ≤ 100) (h : ((l.drop 0).take 100).all f = true) : l.all f = true := by
  rw [List.drop_zero, List.take_of_length_le hl] at h
  exact h
theorem am_join {α : Type} {f : α → Bool} {l : List α} (k : Nat) (hl : l.length ≤ 100 * k) (h : ∀ j, j < k → ((l.drop (100 * j)).take 100).all f = true) : l.all f = true := by
  refine List.all_eq_true.mpr fun q hq => ?_
  obtain ⟨j, hj⟩ := List.getElem?_of_mem hq
  have hlt : j < l.length := (List.getElem?_eq_some_iff.mp hj).1
  refine List.all_eq_true.mp (h (j / 100) (by omega)) q (List.mem_of_getElem? (i := j - 100 * (j / 100)) ?_)
  rw [List.getElem?_take, if_pos (by omega), List.getElem?_drop, show 100 * (j / 100) + (j - 100 * (j / 100)) = j by omega]
  exact hj
abbrev am_T3 : Type := Nat × List (Nat × Instr × Nat × Nat × Nat × Nat) × List (List Nat)
def am_trok (t : am_T3) : Prop := (t.2.1.zip t.2.2).all (am_row2 t.1) = true ∧ t.2.1.length = t.2.2.length
set_option maxRecDepth 100000 in
theorem am_tk_0 : am_trok (0, am_ct_0, am_ps_0) := ⟨am_join1 (by decide +kernel) am_k_0_0, by decide +kernel⟩
set_option maxRecDepth 100000 in
theorem am_tk_1 : am_trok (1, am_ct_1, am_ps_1) := ⟨am_join1 (by decide +kernel) am_k_1_0, by decide +kernel⟩
set_option maxRecDepth 100000 in
theorem am_tk_2 : am_trok (2, am_ct_2, am_ps_2) := ⟨am_join1 (by decide +kernel) am_k_2_0, by decide +kernel⟩
set_option maxRecDepth 100000 in
theorem am_tk_3 : am_trok (3, am_ct_3, am_ps_3) := ⟨am_join1 (by decide +kernel) am_k_3_0, by decide +kernel⟩
set_option maxRecDepth 100000 in
theorem am_tk_4 : am_trok (4, am_ct_4, am_ps_4) := ⟨am_join1 (by decide +kernel) am_k_4_0, by decide +kernel⟩
set_option maxRecDepth 100000 in
theorem am_tk_5 : am_trok (5, am_ct_5, am_ps_5) := ⟨am_join1 (by decide +kernel) am_k_5_0, by decide +kernel⟩
set_option maxRecDepth 100000 in
theorem am_tk_6 : am_trok (6, am_ct_6, am_ps_6) := ⟨am_join1 (by decide +kernel) am_k_6_0, by decide +kernel⟩
set_option maxRecDepth 100000 in
theorem am_tk_7 : am_trok (7, am_ct_7, am_ps_7) := ⟨am_join1 (by decide +kernel) am_k_7_0, by decide +kernel⟩
set_option maxRecDepth 100000 in
theorem am_tk_8 : am_trok (8, am_ct_8, am_ps_8) := ⟨am_join1 (by decide +kernel) am_k_8_0, by decide +kernel⟩
set_option maxRecDepth 100000 in
theorem am_tk_9 : am_trok (9, am_ct_9, am_ps_9) := ⟨am_join1 (by decide +kernel) am_k_9_0, by decide +kernel⟩
set_option maxRecDepth 100000 in
theorem am_tk_10 : am_trok (10, am_ct_10, am_ps_10) := ⟨am_join1 (by decide +kernel) am_k_10_0, by decide +kernel⟩
set_option maxRecDepth 100000 in
theorem am_tk_11 : am_trok (11, am_ct_11, am_ps_11) := ⟨am_join1 (by decide +kernel) am_k_11_0, by decide +kernel⟩
set_option maxRecDepth 100000 in
theorem am_tk_12 : am_trok (12, am_ct_12, am_ps_12) := ⟨am_join1 (by decide +kernel) am_k_12_0, by decide +kernel⟩
set_option maxRecDepth 100000 in
theorem am_tk_13 : am_trok (13, am_ct_13, am_ps_13) := ⟨am_join1 (by decide +kernel) am_k_13_0, by decide +kernel⟩
set_option maxRecDepth 100000 in
theorem am_tk_14 : am_trok (14, am_ct_14, am_ps_14) := ⟨am_join1 (by decide +kernel) am_k_14_0, by decide +kernel⟩
set_option maxRecDepth 100000 in
theorem am_tk_15 : am_trok (15, am_ct_15, am_ps_15) := ⟨am_join1 (by decide +kernel) am_k_15_0, by decide +kernel⟩
set_option maxRecDepth 100000 in
theorem am_tk_16 : am_trok (16, am_ct_16, am_ps_16) := ⟨am_join1 (by decide +kernel) am_k_16_0, by decide +kernel⟩
set_option maxRecDepth 100000 in
theorem am_tk_17 : am_trok (17, am_ct_17, am_ps_17) := ⟨am_join1 (by decide +kernel) am_k_17_0, by decide +kernel⟩
set_option maxRecDepth 100000 in
theorem am_tk_18 : am_trok (18, am_ct_18, am_ps_18) := ⟨am_join1 (by decide +kernel) am_k_18_0, by decide +kernel⟩
set_option maxRecDepth 100000 in
theorem am_tk_19 : am_trok (19, am_ct_19, am_ps_19) := ⟨am_join1 (by decide +kernel) am_k_19_0, by decide +kernel⟩
set_option maxRecDepth 100000 in
theorem am_tk_20 : am_trok (20, am_ct_20, am_ps_20) := ⟨am_join1 (by decide +kernel) am_k_20_0, by decide +kernel⟩
set_option maxRecDepth 100000 in
theorem am_tk_21 : am_trok (21, am_ct_21, am_ps_21) := ⟨am_join1 (by decide +kernel) am_k_21_0, by decide +kernel⟩
set_option maxRecDepth 100000 in
theorem am_tk_22 : am_trok (22, am_ct_22, am_ps_22) := ⟨am_join1 (by decide +kernel) am_k_22_0, by decide +kernel⟩
set_option maxRecDepth 100000 in
theorem am_tk_23 : am_trok (23, am_ct_23, am_ps_23) := ⟨am_join1 (by decide +kernel) am_k_23_0, by decide +kernel⟩
set_option maxRecDepth 100000 in
theorem am_tk_24 : am_trok (24, am_ct_24, am_ps_24) := ⟨am_join1 (by decide +kernel) am_k_24_0, by decide +kernel⟩
set_option maxRecDepth 100000 in
theorem am_tk_25 : am_trok (25, am_ct_25, am_ps_25) := ⟨am_join1 (by decide +kernel) am_k_25_0, by decide +kernel⟩
set_option maxRecDepth 100000 in
theorem am_tk_26 : am_trok (26, am_ct_26, am_ps_26) := ⟨am_join1 (by decide +kernel) am_k_26_0, by decide +kernel⟩
set_option maxRecDepth 100000 in
theorem am_tk_27 : am_trok (27, am_ct_27, am_ps_27) := ⟨am_join1 (by decide +kernel) am_k_27_0, by decide +kernel⟩
set_option maxRecDepth 100000 in
theorem am_tk_28 : am_trok (28, am_ct_28, am_ps_28) := ⟨am_join1 (by decide +kernel) am_k_28_0, by decide +kernel⟩
set_option maxRecDepth 100000 in
theorem am_tk_29 : am_trok (29, am_ct_29, am_ps_29) := ⟨am_join1 (by decide +kernel) am_k_29_0, by decide +kernel⟩
set_option maxRecDepth 100000 in
theorem am_tk_30 : am_trok (30, am_ct_30, am_ps_30) := ⟨am_join1 (by decide +kernel) am_k_30_0, by decide +kernel⟩
set_option maxRecDepth 100000 in
theorem am_tk_31 : am_trok (31, am_ct_31, am_ps_31) := ⟨am_join1 (by decide +kernel) am_k_31_0, by decide +kernel⟩
set_option maxRecDepth 100000 in
theorem am_tk_32 : am_trok (32, am_ct_32, am_ps_32) := ⟨am_join1 (by decide +kernel) am_k_32_0, by decide +kernel⟩
set_option maxRecDepth 100000 in
theorem am_tk_33 : am_trok (33, am_ct_33, am_ps_33) := ⟨am_join1 (by decide +kernel) am_k_33_0, by decide +kernel⟩
set_option maxRecDepth 100000 in
theorem am_tk_34 : am_trok (34, am_ct_34, am_ps_34) := ⟨am_join1 (by decide +kernel) am_k_34_0, by decide +kernel⟩
set_option maxRecDepth 100000 in
theorem am_tk_35 : am_trok (35, am_ct_35, am_ps_35) := ⟨am_join1 (by decide +kernel) am_k_35_0, by decide +kernel⟩
set_option maxRecDepth 100000 in
theorem am_tk_36 : am_trok (36, am_ct_36, am_ps_36) := ⟨am_join1 (by decide +kernel) am_k_36_0, by decide +kernel⟩
set_option maxRecDepth 100000 in
theorem am_tk_37 : am_trok (37, am_ct_37, am_ps_37) := ⟨am_join1 (by decide +kernel) am_k_37_0, by decide +kernel⟩
set_option maxRecDepth 100000 in
theorem am_tk_38 : am_trok (38, am_ct_38, am_ps_38) := ⟨am_join1 (by decide +kernel) am_k_38_0, by decide +kernel⟩
set_option maxRecDepth 100000 in
theorem am_tk_39 : am_trok (39, am_ct_39, am_ps_39) := ⟨am_join1 (by decide +kernel) am_k_39_0, by decide +kernel⟩
set_option maxRecDepth 100000 in
theorem am_tk_40 : am_trok (40, am_ct_40, am_ps_40) := ⟨am_join1 (by decide +kernel) am_k_40_0, by decide +kernel⟩
set_option maxRecDepth 100000 in
theorem am_tk_41 : am_trok (41, am_ct_41, am_ps_41) := ⟨am_join1 (by decide +kernel) am_k_41_0, by decide +kernel⟩
set_option maxRecDepth 100000 in
theorem am_tk_42 : am_trok (42, am_ct_42, am_ps_42) := ⟨am_join1 (by decide +kernel) am_k_42_0, by decide +kernel⟩
set_option maxRecDepth 100000 in
theorem am_tk_43 : am_trok (43, am_ct_43, am_ps_43) := ⟨am_join1 (by decide +kernel) am_k_43_0, by decide +kernel⟩
set_option maxRecDepth 100000 in
theorem am_tk_44 : am_trok (44, am_ct_44, am_ps_44) := ⟨am_join1 (by decide +kernel) am_k_44_0, by decide +kernel⟩
set_option maxRecDepth 100000 in
theorem am_tk_45 : am_trok (45, am_ct_45, am_ps_45) := ⟨am_join1 (by decide +kernel) am_k_45_0, by decide +kernel⟩
set_option maxRecDepth 100000 in
theorem am_tk_46 : am_trok (46, am_ct_46, am_ps_46) := ⟨am_join1 (by decide +kernel) am_k_46_0, by decide +kernel⟩
set_option maxRecDepth 100000 in
theorem am_tk_47 : am_trok (47, am_ct_47, am_ps_47) := ⟨am_join1 (by decide +kernel) am_k_47_0, by decide +kernel⟩
set_option maxRecDepth 100000 in
theorem am_tk_48 : am_trok (48, am_ct_48, am_ps_48) := ⟨am_join1 (by decide +kernel) am_k_48_0, by decide +kernel⟩
set_option maxRecDepth 100000 in
theorem am_tk_49 : am_trok (49, am_ct_49, am_ps_49) := ⟨am_join1 (by decide +kernel) am_k_49_0, by decide +kernel⟩
set_option maxRecDepth 100000 in
theorem am_tk_50 : am_trok (50, am_ct_50, am_ps_50) := ⟨am_join1 (by decide +kernel) am_k_50_0, by decide +kernel⟩
set_option maxRecDepth 100000 in
theorem am_tk_51 : am_trok (51, am_ct_51, am_ps_51) := ⟨am_join1 (by decide +kernel) am_k_51_0, by decide +kernel⟩
set_option maxRecDepth 100000 in
theorem am_tk_52 : am_trok (52, am_ct_52, am_ps_52) := ⟨am_join1 (by decide +kernel) am_k_52_0, by decide +kernel⟩
set_option maxRecDepth 100000 in
theorem am_tk_53 : am_trok (53, am_ct_53, am_ps_53) := ⟨am_join1 (by decide +kernel) am_k_53_0, by decide +kernel⟩
set_option maxRecDepth 100000 in
theorem am_tk_54 : am_trok (54, am_ct_54, am_ps_54) := ⟨am_join1 (by decide +kernel) am_k_54_0, by decide +kernel⟩
set_option maxRecDepth 100000 in
theorem am_tk_55 : am_trok (55, am_ct_55, am_ps_55) := ⟨am_join1 (by decide +kernel) am_k_55_0, by decide +kernel⟩
set_option maxRecDepth 100000 in
theorem am_tk_56 : am_trok (56, am_ct_56, am_ps_56) := ⟨am_join1 (by decide +kernel) am_k_56_0, by decide +kernel⟩
set_option maxRecDepth 100000 in
theorem am_tk_57 : am_trok (57, am_ct_57, am_ps_57) := ⟨am_join1 (by decide +kernel) am_k_57_0, by decide +kernel⟩
set_option maxRecDepth 100000 in
theorem am_tk_58 : am_trok (58, am_ct_58, am_ps_58) := ⟨am_join1 (by decide +kernel) am_k_58_0, by decide +kernel⟩
set_option maxRecDepth 100000 in
theorem am_tk_59 : am_trok (59, am_ct_59, am_ps_59) := ⟨am_join1 (by decide +kernel) am_k_59_0, by decide +kernel⟩
set_option maxRecDepth 100000 in
theorem am_tk_60 : am_trok (60, am_ct_60, am_ps_60) := ⟨am_join1 (by decide +kernel) am_k_60_0, by decide +kernel⟩
set_option maxRecDepth 100000 in
theorem am_tk_61 : am_trok (61, am_ct_61, am_ps_61) := ⟨am_join1 (by decide +kernel) am_k_61_0, by decide +kernel⟩
set_option maxRecDepth 100000 in
theorem am_tk_62 : am_trok (62, am_ct_62, am_ps_62) := ⟨am_join1 (by decide +kernel) am_k_62_0, by decide +kernel⟩
set_option maxRecDepth 100000 in
theorem am_tk_63 : am_trok (63, am_ct_63, am_ps_63) := ⟨am_join1 (by decide +kernel) am_k_63_0, by decide +kernel⟩
set_option maxRecDepth 100000 in
theorem am_tk_64 : am_trok (64, am_ct_64, am_ps_64) := ⟨am_join1 (by decide +kernel) am_k_64_0, by decide +kernel⟩
set_option maxRecDepth 100000 in
theorem am_tk_65 : am_trok (65, am_ct_65, am_ps_65) := ⟨am_join1 (by decide +kernel) am_k_65_0, by decide +kernel⟩
set_option maxRecDepth 100000 in
theorem am_tk_66 : am_trok (66, am_ct_66, am_ps_66) := ⟨am_join1 (by decide +kernel) am_k_66_0, by decide +kernel⟩
set_option maxRecDepth 100000 in
theorem am_tk_67 : am_trok (67, am_ct_67, am_ps_67) := ⟨am_join1 (by decide +kernel) am_k_67_0, by decide +kernel⟩
set_option maxRecDepth 100000 in
theorem am_tk_68 : am_trok (68, am_ct_68, am_ps_68) := ⟨am_join1 (by decide +kernel) am_k_68_0, by decide +kernel⟩
set_option maxRecDepth 100000 in
theorem am_tk_69 : am_trok (69, am_ct_69, am_ps_69) := ⟨am_join1 (by decide +kernel) am_k_69_0, by decide +kernel⟩
set_option maxRecDepth 100000 in
theorem am_tk_70 : am_trok (70, am_ct_70, am_ps_70) := ⟨am_join1 (by decide +kernel) am_k_70_0, by decide +kernel⟩
set_option maxRecDepth 100000 in
theorem am_tk_71 : am_trok (71, am_ct_71, am_ps_71) := ⟨am_join1 (by decide +kernel) am_k_71_0, by decide +kernel⟩
set_option maxRecDepth 100000 in
theorem am_tk_72 : am_trok (72, am_ct_72, am_ps_72) := ⟨am_join1 (by decide +kernel) am_k_72_0, by decide +kernel⟩
set_option maxRecDepth 100000 in
theorem am_tk_73 : am_trok (73, am_ct_73, am_ps_73) := ⟨am_join1 (by decide +kernel) am_k_73_0, by decide +kernel⟩
set_option maxRecDepth 100000 in
theorem am_tk_74 : am_trok (74, am_ct_74, am_ps_74) := ⟨am_join1 (by decide +kernel) am_k_74_0, by decide +kernel⟩
set_option maxRecDepth 100000 in
theorem am_tk_75 : am_trok (75, am_ct_75, am_ps_75) := ⟨am_join1 (by decide +kernel) am_k_75_0, by decide +kernel⟩
set_option maxRecDepth 100000 in
theorem am_tk_76 : am_trok (76, am_ct_76, am_ps_76) := ⟨am_join1 (by decide +kernel) am_k_76_0, by decide +kernel⟩
set_option maxRecDepth 100000 in
theorem am_tk_77 : am_trok (77, am_ct_77, am_ps_77) := ⟨am_join1 (by decide +kernel) am_k_77_0, by decide +kernel⟩
set_option maxRecDepth 100000 in
theorem am_tk_78 : am_trok (78, am_ct_78, am_ps_78) := ⟨am_join1 (by decide +kernel) am_k_78_0, by decide +kernel⟩
set_option maxRecDepth 100000 in
theorem am_tk_79 : am_trok (79, am_ct_79, am_ps_79) := ⟨am_join1 (by decide +kernel) am_k_79_0, by decide +kernel⟩
set_option maxRecDepth 100000 in
theorem am_tk_80 : am_trok (80, am_ct_80, am_ps_80) := ⟨am_join1 (by decide +kernel) am_k_80_0, by decide +kernel⟩
set_option maxRecDepth 100000 in
theorem am_tk_81 : am_trok (81, am_ct_81, am_ps_81) := ⟨am_join1 (by decide +kernel) am_k_81_0, by decide +kernel⟩
set_option maxRecDepth 100000 in
theorem am_tk_82 : am_trok (82, am_ct_82, am_ps_82) := ⟨am_join1 (by decide +kernel) am_k_82_0, by decide +kernel⟩
set_option maxRecDepth 100000 in
theorem am_tk_83 : am_trok (83, am_ct_83, am_ps_83) := ⟨am_join1 (by decide +kernel) am_k_83_0, by decide +kernel⟩
set_option maxRecDepth 100000 in
theorem am_tk_84 : am_trok (84, am_ct_84, am_ps_84) := ⟨am_join1 (by decide +kernel) am_k_84_0, by decide +kernel⟩
set_option maxRecDepth 100000 in
theorem am_tk_85 : am_trok (85, am_ct_85, am_ps_85) := ⟨am_join1 (by decide +kernel) am_k_85_0, by decide +kernel⟩
set_option maxRecDepth 100000 in
theorem am_tk_86 : am_trok (86, am_ct_86, am_ps_86) := ⟨am_join1 (by decide +kernel) am_k_86_0, by decide +kernel⟩
set_option maxRecDepth 100000 in
theorem am_tk_87 : am_trok (87, am_ct_87, am_ps_87) := ⟨am_join1 (by decide +kernel) am_k_87_0, by decide +kernel⟩
set_option maxRecDepth 100000 in
theorem am_tk_88 : am_trok (88, am_ct_88, am_ps_88) := ⟨am_join1 (by decide +kernel) am_k_88_0, by decide +kernel⟩
set_option maxRecDepth 100000 in
theorem am_tk_89 : am_trok (89, am_ct_89, am_ps_89) := ⟨am_join1 (by decide +kernel) am_k_89_0, by decide +kernel⟩
set_option maxRecDepth 100000 in
theorem am_tk_90 : am_trok (90, am_ct_90, am_ps_90) := ⟨am_join1 (by decide +kernel) am_k_90_0, by decide +kernel⟩
set_option maxRecDepth 100000 in
theorem am_tk_91 : am_trok (91, am_ct_91, am_ps_91) := ⟨am_join1 (by decide +kernel) am_k_91_0, by decide +kernel⟩
set_option maxRecDepth 100000 in
theorem am_tk_92 : am_trok (92, am_ct_92, am_ps_92) := ⟨am_join1 (by decide +kernel) am_k_92_0, by decide +kernel⟩
set_option maxRecDepth 100000 in
theorem am_tk_93 : am_trok (93, am_ct_93, am_ps_93) := ⟨am_join1 (by decide +kernel) am_k_93_0, by decide +kernel⟩
set_option maxRecDepth 100000 in
theorem am_tk_94 : am_trok (94, am_ct_94, am_ps_94) := ⟨am_join1 (by decide +kernel) am_k_94_0, by decide +kernel⟩
set_option maxRecDepth 100000 in
theorem am_tk_95 : am_trok (95, am_ct_95, am_ps_95) := ⟨am_join1 (by decide +kernel) am_k_95_0, by decide +kernel⟩
set_option maxRecDepth 100000 in
theorem am_tk_96 : am_trok (96, am_ct_96, am_ps_96) := ⟨am_join1 (by decide +kernel) am_k_96_0, by decide +kernel⟩
set_option maxRecDepth 100000 in
theorem am_tk_97 : am_trok (97, am_ct_97, am_ps_97) := ⟨am_join1 (by decide +kernel) am_k_97_0, by decide +kernel⟩
set_option maxRecDepth 100000 in
theorem am_tk_98 : am_trok (98, am_ct_98, am_ps_98) := ⟨am_join1 (by decide +kernel) am_k_98_0, by decide +kernel⟩
set_option maxRecDepth 100000 in
theorem am_tk_99 : am_trok (99, am_ct_99, am_ps_99) := ⟨am_join1 (by decide +kernel) am_k_99_0, by decide +kernel⟩
set_option maxRecDepth 100000 in
theorem am_tk_100 : am_trok (100, am_ct_100, am_ps_100) := ⟨am_join1 (by decide +kernel) am_k_100_0, by decide +kernel⟩
set_option maxRecDepth 100000 in
theorem am_tk_101 : am_trok (101, am_ct_101, am_ps_101) := ⟨am_join1 (by decide +kernel) am_k_101_0, by decide +kernel⟩
set_option maxRecDepth 100000 in
theorem am_tk_102 : am_trok (102, am_ct_102, am_ps_102) := ⟨am_join1 (by decide +kernel) am_k_102_0, by decide +kernel⟩
set_option maxRecDepth 100000 in
theorem am_tk_103 : am_trok (103, am_ct_103, am_ps_103) := ⟨am_join1 (by decide +kernel) am_k_103_0, by decide +kernel⟩
set_option maxRecDepth 100000 in
theorem am_tk_104 : am_trok (104, am_ct_104, am_ps_104) := ⟨am_join1 (by decide +kernel) am_k_104_0, by decide +kernel⟩
set_option maxRecDepth 100000 in
theorem am_tk_105 : am_trok (105, am_ct_105, am_ps_105) := ⟨am_join1 (by decide +kernel) am_k_105_0, by decide +kernel⟩
set_option maxRecDepth 100000 in
theorem am_tk_106 : am_trok (106, am_ct_106, am_ps_106) := ⟨am_join1 (by decide +kernel) am_k_106_0, by decide +kernel⟩
set_option maxRecDepth 100000 in
theorem am_tk_107 : am_trok (107, am_ct_107, am_ps_107) := ⟨am_join1 (by decide +kernel) am_k_107_0, by decide +kernel⟩
set_option maxRecDepth 100000 in
theorem am_tk_108 : am_trok (108, am_ct_108, am_ps_108) := ⟨am_join1 (by decide +kernel) am_k_108_0, by decide +kernel⟩
set_option maxRecDepth 100000 in
theorem am_tk_109 : am_trok (109, am_ct_109, am_ps_109) := ⟨am_join1 (by decide +kernel) am_k_109_0, by decide +kernel⟩
set_option maxRecDepth 100000 in
theorem am_tk_110 : am_trok (110, am_ct_110, am_ps_110) := ⟨am_join1 (by decide +kernel) am_k_110_0, by decide +kernel⟩
set_option maxRecDepth 100000 in
theorem am_tk_111 : am_trok (111, am_ct_111, am_ps_111) := ⟨am_join1 (by decide +kernel) am_k_111_0, by decide +kernel⟩
set_option maxRecDepth 100000 in
theorem am_tk_112 : am_trok (112, am_ct_112, am_ps_112) := ⟨am_join1 (by decide +kernel) am_k_112_0, by decide +kernel⟩
set_option maxRecDepth 100000 in
theorem am_tk_113 : am_trok (113, am_ct_113, am_ps_113) := ⟨am_join1 (by decide +kernel) am_k_113_0, by decide +kernel⟩
set_option maxRecDepth 100000 in
theorem am_tk_114 : am_trok (114, am_ct_114, am_ps_114) := ⟨am_join1 (by decide +kernel) am_k_114_0, by decide +kernel⟩
set_option maxRecDepth 100000 in
theorem am_tk_115 : am_trok (115, am_ct_115, am_ps_115) := ⟨am_join1 (by decide +kernel) am_k_115_0, by decide +kernel⟩
set_option maxRecDepth 100000 in
theorem am_tk_116 : am_trok (116, am_ct_116, am_ps_116) := ⟨am_join1 (by decide +kernel) am_k_116_0, by decide +kernel⟩
set_option maxRecDepth 100000 in
theorem am_tk_117 : am_trok (117, am_ct_117, am_ps_117) := ⟨am_join1 (by decide +kernel) am_k_117_0, by decide +kernel⟩
set_option maxRecDepth 100000 in
theorem am_tk_118 : am_trok (118, am_ct_118, am_ps_118) := ⟨am_join1 (by decide +kernel) am_k_118_0, by decide +kernel⟩
set_option maxRecDepth 100000 in
theorem am_tk_119 : am_trok (119, am_ct_119, am_ps_119) := ⟨am_join1 (by decide +kernel) am_k_119_0, by decide +kernel⟩
set_option maxRecDepth 100000 in
theorem am_tk_120 : am_trok (120, am_ct_120, am_ps_120) := ⟨am_join1 (by decide +kernel) am_k_120_0, by decide +kernel⟩
set_option maxRecDepth 100000 in
theorem am_tk_121 : am_trok (121, am_ct_121, am_ps_121) := ⟨am_join1 (by decide +kernel) am_k_121_0, by decide +kernel⟩
set_option maxRecDepth 100000 in
theorem am_tk_122 : am_trok (122, am_ct_122, am_ps_122) := ⟨am_join1 (by decide +kernel) am_k_122_0, by decide +kernel⟩
set_option maxRecDepth 100000 in
theorem am_tk_123 : am_trok (123, am_ct_123, am_ps_123) := ⟨am_join1 (by decide +kernel) am_k_123_0, by decide +kernel⟩
set_option maxRecDepth 100000 in
theorem am_tk_124 : am_trok (124, am_ct_124, am_ps_124) := ⟨am_join1 (by decide +kernel) am_k_124_0, by decide +kernel⟩
set_option maxRecDepth 100000 in
theorem am_tk_125 : am_trok (125, am_ct_125, am_ps_125) := ⟨am_join1 (by decide +kernel) am_k_125_0, by decide +kernel⟩
set_option maxRecDepth 100000 in
theorem am_tk_126 : am_trok (126, am_ct_126, am_ps_126) := ⟨am_join1 (by decide +kernel) am_k_126_0, by decide +kernel⟩
set_option maxRecDepth 100000 in
theorem am_tk_127 : am_trok (127, am_ct_127, am_ps_127) := ⟨am_join1 (by decide +kernel) am_k_127_0, by decide +kernel⟩
set_option maxRecDepth 100000 in
theorem am_tk_128 : am_trok (128, am_ct_128, am_ps_128) := ⟨am_join1 (by decide +kernel) am_k_128_0, by decide +kernel⟩
set_option maxRecDepth 100000 in
theorem am_tk_129 : am_trok (129, am_ct_129, am_ps_129) := ⟨am_join1 (by decide +kernel) am_k_129_0, by decide +kernel⟩
set_option maxRecDepth 100000 in
theorem am_tk_130 : am_trok (130, am_ct_130, am_ps_130) := ⟨am_join1 (by decide +kernel) am_k_130_0, by decide +kernel⟩
set_option maxRecDepth 100000 in
theorem am_tk_131 : am_trok (131, am_ct_131, am_ps_131) := ⟨am_join1 (by decide +kernel) am_k_131_0, by decide +kernel⟩
set_option maxRecDepth 100000 in
theorem am_tk_132 : am_trok (132, am_ct_132, am_ps_132) := ⟨am_join1 (by decide +kernel) am_k_132_0, by decide +kernel⟩
set_option maxRecDepth 100000 in
theorem am_tk_133 : am_trok (133, am_ct_133, am_ps_133) := ⟨am_join1 (by decide +kernel) am_k_133_0, by decide +kernel⟩
set_option maxRecDepth 100000 in
theorem am_tk_134 : am_trok (134, am_ct_134, am_ps_134) := ⟨am_join1 (by decide +kernel) am_k_134_0, by decide +kernel⟩
set_option maxRecDepth 100000 in
theorem am_tk_135 : am_trok (135, am_ct_135, am_ps_135) := ⟨am_join1 (by decide +kernel) am_k_135_0, by decide +kernel⟩
set_option maxRecDepth 100000 in
theorem am_tk_136 : am_trok (136, am_ct_136, am_ps_136) := ⟨am_join1 (by decide +kernel) am_k_136_0, by decide +kernel⟩
set_option maxRecDepth 100000 in
theorem am_tk_137 : am_trok (137, am_ct_137, am_ps_137) := ⟨am_join1 (by decide +kernel) am_k_137_0, by decide +kernel⟩
set_option maxRecDepth 100000 in
theorem am_tk_138 : am_trok (138, am_ct_138, am_ps_138) := ⟨am_join1 (by decide +kernel) am_k_138_0, by decide +kernel⟩
set_option maxRecDepth 100000 in
theorem am_tk_139 : am_trok (139, am_ct_139, am_ps_139) := ⟨am_join1 (by decide +kernel) am_k_139_0, by decide +kernel⟩
set_option maxRecDepth 100000 in
theorem am_tk_140 : am_trok (140, am_ct_140, am_ps_140) := ⟨am_join1 (by decide +kernel) am_k_140_0, by decide +kernel⟩
set_option maxRecDepth 100000 in
theorem am_tk_141 : am_trok (141, am_ct_141, am_ps_141) := ⟨am_join1 (by decide +kernel) am_k_141_0, by decide +kernel⟩
set_option maxRecDepth 100000 in
theorem am_tk_142 : am_trok (142, am_ct_142, am_ps_142) := ⟨am_join1 (by decide +kernel) am_k_142_0, by decide +kernel⟩
set_option maxRecDepth 100000 in
theorem am_tk_143 : am_trok (143, am_ct_143, am_ps_143) := ⟨am_join1 (by decide +kernel) am_k_143_0, by decide +kernel⟩
set_option maxRecDepth 100000 in
theorem am_tk_144 : am_trok (144, am_ct_144, am_ps_144) := ⟨am_join1 (by decide +kernel) am_k_144_0, by decide +kernel⟩
set_option maxRecDepth 100000 in
theorem am_tk_145 : am_trok (145, am_ct_145, am_ps_145) := ⟨am_join1 (by decide +kernel) am_k_145_0, by decide +kernel⟩
set_option maxRecDepth 100000 in
theorem am_tk_146 : am_trok (146, am_ct_146, am_ps_146) := ⟨am_join1 (by decide +kernel) am_k_146_0, by decide +kernel⟩
set_option maxRecDepth 100000 in
theorem am_tk_147 : am_trok (147, am_ct_147, am_ps_147) := ⟨am_join1 (by decide +kernel) am_k_147_0, by decide +kernel⟩
set_option maxRecDepth 100000 in
theorem am_tk_148 : am_trok (148, am_ct_148, am_ps_148) := ⟨am_join1 (by decide +kernel) am_k_148_0, by decide +kernel⟩
set_option maxRecDepth 100000 in
theorem am_tk_149 : am_trok (149, am_ct_149, am_ps_149) := ⟨am_join1 (by decide +kernel) am_k_149_0, by decide +kernel⟩
set_option maxRecDepth 100000 in
theorem am_tk_150 : am_trok (150, am_ct_150, am_ps_150) := ⟨am_join1 (by decide +kernel) am_k_150_0, by decide +kernel⟩
set_option maxRecDepth 100000 in
theorem am_tk_151 : am_trok (151, am_ct_151, am_ps_151) := ⟨am_join1 (by decide +kernel) am_k_151_0, by decide +kernel⟩
set_option maxRecDepth 100000 in
theorem am_tk_152 : am_trok (152, am_ct_152, am_ps_152) := ⟨am_join1 (by decide +kernel) am_k_152_0, by decide +kernel⟩
set_option maxRecDepth 100000 in
theorem am_tk_153 : am_trok (153, am_ct_153, am_ps_153) := ⟨am_join1 (by decide +kernel) am_k_153_0, by decide +kernel⟩
set_option maxRecDepth 100000 in
theorem am_tk_154 : am_trok (154, am_ct_154, am_ps_154) := ⟨am_join1 (by decide +kernel) am_k_154_0, by decide +kernel⟩
set_option maxRecDepth 100000 in
theorem am_tk_155 : am_trok (155, am_ct_155, am_ps_155) := ⟨am_join1 (by decide +kernel) am_k_155_0, by decide +kernel⟩
set_option maxRecDepth 100000 in
theorem am_tk_156 : am_trok (156, am_ct_156, am_ps_156) := ⟨am_join1 (by decide +kernel) am_k_156_0, by decide +kernel⟩
set_option maxRecDepth 100000 in
theorem am_tk_157 : am_trok (157, am_ct_157, am_ps_157) := ⟨am_join1 (by decide +kernel) am_k_157_0, by decide +kernel⟩
set_option maxRecDepth 100000 in
theorem am_tk_158 : am_trok (158, am_ct_158, am_ps_158) := ⟨am_join1 (by decide +kernel) am_k_158_0, by decide +kernel⟩
set_option maxRecDepth 100000 in
theorem am_tk_159 : am_trok (159, am_ct_159, am_ps_159) := ⟨am_join1 (by decide +kernel) am_k_159_0, by decide +kernel⟩
set_option maxRecDepth 100000 in
theorem am_tk_160 : am_trok (160, am_ct_160, am_ps_160) := ⟨am_join1 (by decide +kernel) am_k_160_0, by decide +kernel⟩
set_option maxRecDepth 100000 in
theorem am_tk_161 : am_trok (161, am_ct_161, am_ps_161) := ⟨am_join1 (by decide +kernel) am_k_161_0, by decide +kernel⟩
set_option maxRecDepth 100000 in
theorem am_tk_162 : am_trok (162, am_ct_162, am_ps_162) := ⟨am_join1 (by decide +kernel) am_k_162_0, by decide +kernel⟩
set_option maxRecDepth 100000 in
theorem am_tk_163 : am_trok (163, am_ct_163, am_ps_163) := ⟨am_join1 (by decide +kernel) am_k_163_0, by decide +kernel⟩
set_option maxRecDepth 100000 in
theorem am_tk_164 : am_trok (164, am_ct_164, am_ps_164) := ⟨am_join1 (by decide +kernel) am_k_164_0, by decide +kernel⟩
set_option maxRecDepth 100000 in
theorem am_tk_165 : am_trok (165, am_ct_165, am_ps_165) := ⟨am_join1 (by decide +kernel) am_k_165_0, by decide +kernel⟩
set_option maxRecDepth 100000 in
theorem am_tk_166 : am_trok (166, am_ct_166, am_ps_166) := ⟨am_join1 (by decide +kernel) am_k_166_0, by decide +kernel⟩
set_option maxRecDepth 100000 in
theorem am_tk_167 : am_trok (167, am_ct_167, am_ps_167) := ⟨am_join1 (by decide +kernel) am_k_167_0, by decide +kernel⟩
set_option maxRecDepth 100000 in
theorem am_tk_168 : am_trok (168, am_ct_168, am_ps_168) := ⟨am_join1 (by decide +kernel) am_k_168_0, by decide +kernel⟩
set_option maxRecDepth 100000 in
theorem am_tk_169 : am_trok (169, am_ct_169, am_ps_169) := ⟨am_join1 (by decide +kernel) am_k_169_0, by decide +kernel⟩
set_option maxRecDepth 100000 in
theorem am_tk_170 : am_trok (170, am_ct_170, am_ps_170) := ⟨am_join1 (by decide +kernel) am_k_170_0, by decide +kernel⟩
set_option maxRecDepth 100000 in
theorem am_tk_171 : am_trok (171, am_ct_171, am_ps_171) := ⟨am_join1 (by decide +kernel) am_k_171_0, by decide +kernel⟩
set_option maxRecDepth 100000 in
theorem am_tk_172 : am_trok (172, am_ct_172, am_ps_172) := ⟨am_join1 (by decide +kernel) am_k_172_0, by decide +kernel⟩
set_option maxRecDepth 100000 in
theorem am_tk_173 : am_trok (173, am_ct_173, am_ps_173) := ⟨am_join1 (by decide +kernel) am_k_173_0, by decide +kernel⟩
set_option maxRecDepth 100000 in
theorem am_tk_174 : am_trok (174, am_ct_174, am_ps_174) := ⟨am_join1 (by decide +kernel) am_k_174_0, by decide +kernel⟩
set_option maxRecDepth 100000 in
theorem am_tk_175 : am_trok (175, am_ct_175, am_ps_175) := ⟨am_join1 (by decide +kernel) am_k_175_0, by decide +kernel⟩
set_option maxRecDepth 100000 in
theorem am_tk_176 : am_trok (176, am_ct_176, am_ps_176) := ⟨am_join1 (by decide +kernel) am_k_176_0, by decide +kernel⟩
set_option maxRecDepth 100000 in
theorem am_tk_177 : am_trok (177, am_ct_177, am_ps_177) := ⟨am_join1 (by decide +kernel) am_k_177_0, by decide +kernel⟩
set_option maxRecDepth 100000 in
theorem am_tk_178 : am_trok (178, am_ct_178, am_ps_178) := ⟨am_join1 (by decide +kernel) am_k_178_0, by decide +kernel⟩
set_option maxRecDepth 100000 in
theorem am_tk_179 : am_trok (179, am_ct_179, am_ps_179) := ⟨am_join1 (by decide +kernel) am_k_179_0, by decide +kernel⟩
set_option maxRecDepth 100000 in
theorem am_tk_180 : am_trok (180, am_ct_180, am_ps_180) := ⟨am_join1 (by decide +kernel) am_k_180_0, by decide +kernel⟩
set_option maxRecDepth 100000 in
theorem am_tk_181 : am_trok (181, am_ct_181, am_ps_181) := ⟨am_join1 (by decide +kernel) am_k_181_0, by decide +kernel⟩
set_option maxRecDepth 100000 in
theorem am_tk_182 : am_trok (182, am_ct_182, am_ps_182) := ⟨am_join1 (by decide +kernel) am_k_182_0, by decide +kernel⟩
set_option maxRecDepth 100000 in
theorem am_tk_183 : am_trok (183, am_ct_183, am_ps_183) := ⟨am_join1 (by decide +kernel) am_k_183_0, by decide +kernel⟩
set_option maxRecDepth 100000 in
theorem am_tk_184 : am_trok (184, am_ct_184, am_ps_184) := ⟨am_join1 (by decide +kernel) am_k_184_0, by decide +kernel⟩
set_option maxRecDepth 100000 in
theorem am_tk_185 : am_trok (185, am_ct_185, am_ps_185) := ⟨am_join1 (by decide +kernel) am_k_185_0, by decide +kernel⟩
set_option maxRecDepth 100000 in
theorem am_tk_186 : am_trok (186, am_ct_186, am_ps_186) := ⟨am_join1 (by decide +kernel) am_k_186_0, by decide +kernel⟩
set_option maxRecDepth 100000 in
theorem am_tk_187 : am_trok (187, am_ct_187, am_ps_187) := ⟨am_join1 (by decide +kernel) am_k_187_0, by decide +kernel⟩
set_option maxRecDepth 100000 in
theorem am_tk_188 : am_trok (188, am_ct_188, am_ps_188) := ⟨am_join1 (by decide +kernel) am_k_188_0, by decide +kernel⟩
set_option maxRecDepth 100000 in
theorem am_tk_189 : am_trok (189, am_ct_189, am_ps_189) := ⟨am_join1 (by decide +kernel) am_k_189_0, by decide +kernel⟩
set_option maxRecDepth 100000 in
theorem am_tk_190 : am_trok (190, am_ct_190, am_ps_190) := ⟨am_join1 (by decide +kernel) am_k_190_0, by decide +kernel⟩
set_option maxRecDepth 100000 in
theorem am_tk_191 : am_trok (191, am_ct_191, am_ps_191) := ⟨am_join1 (by decide +kernel) am_k_191_0, by decide +kernel⟩
set_option maxRecDepth 100000 in
theorem am_tk_192 : am_trok (192, am_ct_192, am_ps_192) := ⟨am_join1 (by decide +kernel) am_k_192_0, by decide +kernel⟩
set_option maxRecDepth 100000 in
theorem am_tk_193 : am_trok (193, am_ct_193, am_ps_193) := ⟨am_join1 (by decide +kernel) am_k_193_0, by decide +kernel⟩
set_option maxRecDepth 100000 in
theorem am_tk_194 : am_trok (194, am_ct_194, am_ps_194) := ⟨am_join1 (by decide +kernel) am_k_194_0, by decide +kernel⟩
set_option maxRecDepth 100000 in
theorem am_tk_195 : am_trok (195, am_ct_195, am_ps_195) := ⟨am_join1 (by decide +kernel) am_k_195_0, by decide +kernel⟩
set_option maxRecDepth 100000 in
theorem am_tk_196 : am_trok (196, am_ct_196, am_ps_196) := ⟨am_join1 (by decide +kernel) am_k_196_0, by decide +kernel⟩
set_option maxRecDepth 100000 in
theorem am_tk_197 : am_trok (197, am_ct_197, am_ps_197) := ⟨am_join1 (by decide +kernel) am_k_197_0, by decide +kernel⟩
set_option maxRecDepth 100000 in
theorem am_tk_198 : am_trok (198, am_ct_198, am_ps_198) := ⟨am_join1 (by decide +kernel) am_k_198_0, by decide +kernel⟩
set_option maxRecDepth 100000 in
theorem am_tk_199 : am_trok (199, am_ct_199, am_ps_199) := ⟨am_join1 (by decide +kernel) am_k_199_0, by decide +kernel⟩
set_option maxRecDepth 100000 in
theorem am_tk_200 : am_trok (200, am_ct_200, am_ps_200) := ⟨am_join1 (by decide +kernel) am_k_200_0, by decide +kernel⟩
set_option maxRecDepth 100000 in
theorem am_tk_201 : am_trok (201, am_ct_201, am_ps_201) := ⟨am_join1 (by decide +kernel) am_k_201_0, by decide +kernel⟩
set_option maxRecDepth 100000 in
theorem am_tk_202 : am_trok (202, am_ct_202, am_ps_202) := ⟨am_join1 (by decide +kernel) am_k_202_0, by decide +kernel⟩
set_option maxRecDepth 100000 in
theorem am_tk_203 : am_trok (203, am_ct_203, am_ps_203) := ⟨am_join1 (by decide +kernel) am_k_203_0, by decide +kernel⟩
set_option maxRecDepth 100000 in
theorem am_tk_204 : am_trok (204, am_ct_204, am_ps_204) := ⟨am_join1 (by decide +kernel) am_k_204_0, by decide +kernel⟩
set_option maxRecDepth 100000 in
theorem am_tk_205 : am_trok (205, am_ct_205, am_ps_205) := ⟨am_join1 (by decide +kernel) am_k_205_0, by decide +kernel⟩
set_option maxRecDepth 100000 in
theorem am_tk_206 : am_trok (206, am_ct_206, am_ps_206) := ⟨am_join1 (by decide +kernel) am_k_206_0, by decide +kernel⟩
set_option maxRecDepth 100000 in
theorem am_tk_207 : am_trok (207, am_ct_207, am_ps_207) := ⟨am_join1 (by decide +kernel) am_k_207_0, by decide +kernel⟩
set_option maxRecDepth 100000 in
theorem am_tk_208 : am_trok (208, am_ct_208, am_ps_208) := ⟨am_join1 (by decide +kernel) am_k_208_0, by decide +kernel⟩
set_option maxRecDepth 100000 in
theorem am_tk_209 : am_trok (209, am_ct_209, am_ps_209) := ⟨am_join1 (by decide +kernel) am_k_209_0, by decide +kernel⟩
set_option maxRecDepth 100000 in
theorem am_tk_210 : am_trok (210, am_ct_210, am_ps_210) := ⟨am_join1 (by decide +kernel) am_k_210_0, by decide +kernel⟩
set_option maxRecDepth 100000 in
theorem am_tk_211 : am_trok (211, am_ct_211, am_ps_211) := ⟨am_join1 (by decide +kernel) am_k_211_0, by decide +kernel⟩
set_option maxRecDepth 100000 in
theorem am_tk_212 : am_trok (212, am_ct_212, am_ps_212) := ⟨am_join1 (by decide +kernel) am_k_212_0, by decide +kernel⟩
set_option maxRecDepth 100000 in
theorem am_tk_213 : am_trok (213, am_ct_213, am_ps_213) := ⟨am_join1 (by decide +kernel) am_k_213_0, by decide +kernel⟩
set_option maxRecDepth 100000 in
theorem am_tk_214 : am_trok (214, am_ct_214, am_ps_214) := ⟨am_join1 (by decide +kernel) am_k_214_0, by decide +kernel⟩
set_option maxRecDepth 100000 in
theorem am_tk_215 : am_trok (215, am_ct_215, am_ps_215) := ⟨am_join1 (by decide +kernel) am_k_215_0, by decide +kernel⟩
set_option maxRecDepth 100000 in
theorem am_tk_216 : am_trok (216, am_ct_216, am_ps_216) := ⟨am_join1 (by decide +kernel) am_k_216_0, by decide +kernel⟩
set_option maxRecDepth 100000 in
theorem am_tk_217 : am_trok (217, am_ct_217, am_ps_217) := ⟨am_join1 (by decide +kernel) am_k_217_0, by decide +kernel⟩
set_option maxRecDepth 100000 in
theorem am_tk_218 : am_trok (218, am_ct_218, am_ps_218) := ⟨am_join1 (by decide +kernel) am_k_218_0, by decide +kernel⟩
set_option maxRecDepth 100000 in
theorem am_tk_219 : am_trok (219, am_ct_219, am_ps_219) := ⟨am_join1 (by decide +kernel) am_k_219_0, by decide +kernel⟩
set_option maxRecDepth 100000 in
theorem am_tk_220 : am_trok (220, am_ct_220, am_ps_220) := ⟨am_join1 (by decide +kernel) am_k_220_0, by decide +kernel⟩
set_option maxRecDepth 100000 in
theorem am_tk_221 : am_trok (221, am_ct_221, am_ps_221) := ⟨am_join1 (by decide +kernel) am_k_221_0, by decide +kernel⟩
set_option maxRecDepth 100000 in
theorem am_tk_222 : am_trok (222, am_ct_222, am_ps_222) := ⟨am_join1 (by decide +kernel) am_k_222_0, by decide +kernel⟩
set_option maxRecDepth 100000 in
theorem am_tk_223 : am_trok (223, am_ct_223, am_ps_223) := ⟨am_join1 (by decide +kernel) am_k_223_0, by decide +kernel⟩
set_option maxRecDepth 100000 in
theorem am_tk_224 : am_trok (224, am_ct_224, am_ps_224) := ⟨am_join1 (by decide +kernel) am_k_224_0, by decide +kernel⟩
set_option maxRecDepth 100000 in
theorem am_tk_225 : am_trok (225, am_ct_225, am_ps_225) := ⟨am_join1 (by decide +kernel) am_k_225_0, by decide +kernel⟩
set_option maxRecDepth 100000 in
theorem am_tk_226 : am_trok (226, am_ct_226, am_ps_226) := ⟨am_join1 (by decide +kernel) am_k_226_0, by decide +kernel⟩
set_option maxRecDepth 100000 in
theorem am_tk_227 : am_trok (227, am_ct_227, am_ps_227) := ⟨am_join1 (by decide +kernel) am_k_227_0, by decide +kernel⟩
set_option maxRecDepth 100000 in
theorem am_tk_228 : am_trok (228, am_ct_228, am_ps_228) := ⟨am_join1 (by decide +kernel) am_k_228_0, by decide +kernel⟩
set_option maxRecDepth 100000 in
theorem am_tk_229 : am_trok (229, am_ct_229, am_ps_229) := ⟨am_join1 (by decide +kernel) am_k_229_0, by decide +kernel⟩
set_option maxRecDepth 100000 in
theorem am_tk_230 : am_trok (230, am_ct_230, am_ps_230) := ⟨am_join1 (by decide +kernel) am_k_230_0, by decide +kernel⟩
set_option maxRecDepth 100000 in
theorem am_tk_231 : am_trok (231, am_ct_231, am_ps_231) := ⟨am_join1 (by decide +kernel) am_k_231_0, by decide +kernel⟩
set_option maxRecDepth 100000 in
theorem am_tk_232 : am_trok (232, am_ct_232, am_ps_232) := ⟨am_join1 (by decide +kernel) am_k_232_0, by decide +kernel⟩
set_option maxRecDepth 100000 in
theorem am_tk_233 : am_trok (233, am_ct_233, am_ps_233) := ⟨am_join1 (by decide +kernel) am_k_233_0, by decide +kernel⟩
set_option maxRecDepth 100000 in
theorem am_tk_234 : am_trok (234, am_ct_234, am_ps_234) := ⟨am_join1 (by decide +kernel) am_k_234_0, by decide +kernel⟩
set_option maxRecDepth 100000 in
theorem am_tk_235 : am_trok (235, am_ct_235, am_ps_235) := ⟨am_join1 (by decide +kernel) am_k_235_0, by decide +kernel⟩
set_option maxRecDepth 100000 in
theorem am_tk_236 : am_trok (236, am_ct_236, am_ps_236) := ⟨am_join1 (by decide +kernel) am_k_236_0, by decide +kernel⟩
set_option maxRecDepth 100000 in
theorem am_tk_237 : am_trok (237, am_ct_237, am_ps_237) := ⟨am_join1 (by decide +kernel) am_k_237_0, by decide +kernel⟩
set_option maxRecDepth 100000 in
theorem am_tk_238 : am_trok (238, am_ct_238, am_ps_238) := ⟨am_join1 (by decide +kernel) am_k_238_0, by decide +kernel⟩
set_option maxRecDepth 100000 in
theorem am_tk_239 : am_trok (239, am_ct_239, am_ps_239) := ⟨am_join1 (by decide +kernel) am_k_239_0, by decide +kernel⟩
set_option maxRecDepth 100000 in
theorem am_tk_240 : am_trok (240, am_ct_240, am_ps_240) := by
  refine ⟨am_join 11 (by decide +kernel) (fun j hj => ?_), by decide +kernel⟩
  match j, hj with
  | 0, _ => exact am_k_240_0
  | 1, _ => exact am_k_240_100
  | 2, _ => exact am_k_240_200
  | 3, _ => exact am_k_240_300
  | 4, _ => exact am_k_240_400
  | 5, _ => exact am_k_240_500
  | 6, _ => exact am_k_240_600
  | 7, _ => exact am_k_240_700
  | 8, _ => exact am_k_240_800
  | 9, _ => exact am_k_240_900
  | 10, _ => exact am_k_240_1000
  | z + 11, hj => exact absurd hj (by omega)
def am_tri_0 : List am_T3 := [(0, am_ct_0, am_ps_0), (1, am_ct_1, am_ps_1), (2, am_ct_2, am_ps_2), (3, am_ct_3, am_ps_3), (4, am_ct_4, am_ps_4), (5, am_ct_5, am_ps_5), (6, am_ct_6, am_ps_6), (7, am_ct_7, am_ps_7), (8, am_ct_8, am_ps_8), (9, am_ct_9, am_ps_9), (10, am_ct_10, am_ps_10), (11, am_ct_11, am_ps_11), (12, am_ct_12, am_ps_12), (13, am_ct_13, am_ps_13), (14, am_ct_14, am_ps_14), (15, am_ct_15, am_ps_15)]
theorem am_tri_ok_0 : ∀ t ∈ am_tri_0, am_trok t := List.forall_mem_cons.mpr ⟨am_tk_0, List.forall_mem_cons.mpr ⟨am_tk_1, List.forall_mem_cons.mpr ⟨am_tk_2, List.forall_mem_cons.mpr ⟨am_tk_3, List.forall_mem_cons.mpr ⟨am_tk_4, List.forall_mem_cons.mpr ⟨am_tk_5, List.forall_mem_cons.mpr ⟨am_tk_6, List.forall_mem_cons.mpr ⟨am_tk_7, List.forall_mem_cons.mpr ⟨am_tk_8, List.forall_mem_cons.mpr ⟨am_tk_9, List.forall_mem_cons.mpr ⟨am_tk_10, List.forall_mem_cons.mpr ⟨am_tk_11, List.forall_mem_cons.mpr ⟨am_tk_12, List.forall_mem_cons.mpr ⟨am_tk_13, List.forall_mem_cons.mpr ⟨am_tk_14, List.forall_mem_cons.mpr ⟨am_tk_15, fun _ h => absurd h List.not_mem_nil⟩⟩⟩⟩⟩⟩⟩⟩⟩⟩⟩⟩⟩⟩⟩⟩
def am_tri_1 : List am_T3 := [(16, am_ct_16, am_ps_16), (17, am_ct_17, am_ps_17), (18, am_ct_18, am_ps_18), (19, am_ct_19, am_ps_19), (20, am_ct_20, am_ps_20), (21, am_ct_21, am_ps_21), (22, am_ct_22, am_ps_22), (23, am_ct_23, am_ps_23), (24, am_ct_24, am_ps_24), (25, am_ct_25, am_ps_25), (26, am_ct_26, am_ps_26), (27, am_ct_27, am_ps_27), (28, am_ct_28, am_ps_28), (29, am_ct_29, am_ps_29), (30, am_ct_30, am_ps_30), (31, am_ct_31, am_ps_31)]
theorem am_tri_ok_1 : ∀ t ∈ am_tri_1, am_trok t := List.forall_mem_cons.mpr ⟨am_tk_16, List.forall_mem_cons.mpr ⟨am_tk_17, List.forall_mem_cons.mpr ⟨am_tk_18, List.forall_mem_cons.mpr ⟨am_tk_19, List.forall_mem_cons.mpr ⟨am_tk_20, List.forall_mem_cons.mpr ⟨am_tk_21, List.forall_mem_cons.mpr ⟨am_tk_22, List.forall_mem_cons.mpr ⟨am_tk_23, List.forall_mem_cons.mpr ⟨am_tk_24, List.forall_mem_cons.mpr ⟨am_tk_25, List.forall_mem_cons.mpr ⟨am_tk_26, List.forall_mem_cons.mpr ⟨am_tk_27, List.forall_mem_cons.mpr ⟨am_tk_28, List.forall_mem_cons.mpr ⟨am_tk_29, List.forall_mem_cons.mpr ⟨am_tk_30, List.forall_mem_cons.mpr ⟨am_tk_31, fun _ h => absurd h List.not_mem_nil⟩⟩⟩⟩⟩⟩⟩⟩⟩⟩⟩⟩⟩⟩⟩⟩
def am_tri_2 : List am_T3 := [(32, am_ct_32, am_ps_32), (33, am_ct_33, am_ps_33), (34, am_ct_34, am_ps_34), (35, am_ct_35, am_ps_35), (36, am_ct_36, am_ps_36), (37, am_ct_37, am_ps_37), (38, am_ct_38, am_ps_38), (39, am_ct_39, am_ps_39), (40, am_ct_40, am_ps_40), (41, am_ct_41, am_ps_41), (42, am_ct_42, am_ps_42), (43, am_ct_43, am_ps_43), (44, am_ct_44, am_ps_44), (45, am_ct_45, am_ps_45), (46, am_ct_46, am_ps_46), (47, am_ct_47, am_ps_47)]
theorem am_tri_ok_2 : ∀ t ∈ am_tri_2, am_trok t := List.forall_mem_cons.mpr ⟨am_tk_32, List.forall_mem_cons.mpr ⟨am_tk_33, List.forall_mem_cons.mpr ⟨am_tk_34, List.forall_mem_cons.mpr ⟨am_tk_35, List.forall_mem_cons.mpr ⟨am_tk_36, List.forall_mem_cons.mpr ⟨am_tk_37, List.forall_mem_cons.mpr ⟨am_tk_38, List.forall_mem_cons.mpr ⟨am_tk_39, List.forall_mem_cons.mpr ⟨am_tk_40, List.forall_mem_cons.mpr ⟨am_tk_41, List.forall_mem_cons.mpr ⟨am_tk_42, List.forall_mem_cons.mpr ⟨am_tk_43, List.forall_mem_cons.mpr ⟨am_tk_44, List.forall_mem_cons.mpr ⟨am_tk_45, List.forall_mem_cons.mpr ⟨am_tk_46, List.forall_mem_cons.mpr ⟨am_tk_47, fun _ h => absurd h List.not_mem_nil⟩⟩⟩⟩⟩⟩⟩⟩⟩⟩⟩⟩⟩⟩⟩⟩
def am_tri_3 : List am_T3 := [(48, am_ct_48, am_ps_48), (49, am_ct_49, am_ps_49), (50, am_ct_50, am_ps_50), (51, am_ct_51, am_ps_51), (52, am_ct_52, am_ps_52), (53, am_ct_53, am_ps_53), (54, am_ct_54, am_ps_54), (55, am_ct_55, am_ps_55), (56, am_ct_56, am_ps_56), (57, am_ct_57, am_ps_57), (58, am_ct_58, am_ps_58), (59, am_ct_59, am_ps_59), (60, am_ct_60, am_ps_60), (61, am_ct_61, am_ps_61), (62, am_ct_62, am_ps_62), (63, am_ct_63, am_ps_63)]
theorem am_tri_ok_3 : ∀ t ∈ am_tri_3, am_trok t := List.forall_mem_cons.mpr ⟨am_tk_48, List.forall_mem_cons.mpr ⟨am_tk_49, List.forall_mem_cons.mpr ⟨am_tk_50, List.forall_mem_cons.mpr ⟨am_tk_51, List.forall_mem_cons.mpr ⟨am_tk_52, List.forall_mem_cons.mpr ⟨am_tk_53, List.forall_mem_cons.mpr ⟨am_tk_54, List.forall_mem_cons.mpr ⟨am_tk_55, List.forall_mem_cons.mpr ⟨am_tk_56, List.forall_mem_cons.mpr ⟨am_tk_57, List.forall_mem_cons.mpr ⟨am_tk_58, List.forall_mem_cons.mpr ⟨am_tk_59, List.forall_mem_cons.mpr ⟨am_tk_60, List.forall_mem_cons.mpr ⟨am_tk_61, List.forall_mem_cons.mpr ⟨am_tk_62, List.forall_mem_cons.mpr ⟨am_tk_63, fun _ h => absurd h List.not_mem_nil⟩⟩⟩⟩⟩⟩⟩⟩⟩⟩⟩⟩⟩⟩⟩⟩
def am_tri_4 : List am_T3 := [(64, am_ct_64, am_ps_64), (65, am_ct_65, am_ps_65), (66, am_ct_66, am_ps_66), (67, am_ct_67, am_ps_67), (68, am_ct_68, am_ps_68), (69, am_ct_69, am_ps_69), (70, am_ct_70, am_ps_70), (71, am_ct_71, am_ps_71), (72, am_ct_72, am_ps_72), (73, am_ct_73, am_ps_73), (74, am_ct_74, am_ps_74), (75, am_ct_75, am_ps_75), (76, am_ct_76, am_ps_76), (77, am_ct_77, am_ps_77), (78, am_ct_78, am_ps_78), (79, am_ct_79, am_ps_79)]
theorem am_tri_ok_4 : ∀ t ∈ am_tri_4, am_trok t := List.forall_mem_cons.mpr ⟨am_tk_64, List.forall_mem_cons.mpr ⟨am_tk_65, List.forall_mem_cons.mpr ⟨am_tk_66, List.forall_mem_cons.mpr ⟨am_tk_67, List.forall_mem_cons.mpr ⟨am_tk_68, List.forall_mem_cons.mpr ⟨am_tk_69, List.forall_mem_cons.mpr ⟨am_tk_70, List.forall_mem_cons.mpr ⟨am_tk_71, List.forall_mem_cons.mpr ⟨am_tk_72, List.forall_mem_cons.mpr ⟨am_tk_73, List.forall_mem_cons.mpr ⟨am_tk_74, List.forall_mem_cons.mpr ⟨am_tk_75, List.forall_mem_cons.mpr ⟨am_tk_76, List.forall_mem_cons.mpr ⟨am_tk_77, List.forall_mem_cons.mpr ⟨am_tk_78, List.forall_mem_cons.mpr ⟨am_tk_79, fun _ h => absurd h List.not_mem_nil⟩⟩⟩⟩⟩⟩⟩⟩⟩⟩⟩⟩⟩⟩⟩⟩
def am_tri_5 : List am_T3 := [(80, am_ct_80, am_ps_80), (81, am_ct_81, am_ps_81), (82, am_ct_82, am_ps_82), (83, am_ct_83, am_ps_83), (84, am_ct_84, am_ps_84), (85, am_ct_85, am_ps_85), (86, am_ct_86, am_ps_86), (87, am_ct_87, am_ps_87), (88, am_ct_88, am_ps_88), (89, am_ct_89, am_ps_89), (90, am_ct_90, am_ps_90), (91, am_ct_91, am_ps_91), (92, am_ct_92, am_ps_92), (93, am_ct_93, am_ps_93), (94, am_ct_94, am_ps_94), (95, am_ct_95, am_ps_95)]
theorem am_tri_ok_5 : ∀ t ∈ am_tri_5, am_trok t := List.forall_mem_cons.mpr ⟨am_tk_80, List.forall_mem_cons.mpr ⟨am_tk_81, List.forall_mem_cons.mpr ⟨am_tk_82, List.forall_mem_cons.mpr ⟨am_tk_83, List.forall_mem_cons.mpr ⟨am_tk_84, List.forall_mem_cons.mpr ⟨am_tk_85, List.forall_mem_cons.mpr ⟨am_tk_86, List.forall_mem_cons.mpr ⟨am_tk_87, List.forall_mem_cons.mpr ⟨am_tk_88, List.forall_mem_cons.mpr ⟨am_tk_89, List.forall_mem_cons.mpr ⟨am_tk_90, List.forall_mem_cons.mpr ⟨am_tk_91, List.forall_mem_cons.mpr ⟨am_tk_92, List.forall_mem_cons.mpr ⟨am_tk_93, List.forall_mem_cons.mpr ⟨am_tk_94, List.forall_mem_cons.mpr ⟨am_tk_95, fun _ h => absurd h List.not_mem_nil⟩⟩⟩⟩⟩⟩⟩⟩⟩⟩⟩⟩⟩⟩⟩⟩
def am_tri_6 : List am_T3 := [(96, am_ct_96, am_ps_96), (97, am_ct_97, am_ps_97), (98, am_ct_98, am_ps_98), (99, am_ct_99, am_ps_99), (100, am_ct_100, am_ps_100), (101, am_ct_101, am_ps_101), (102, am_ct_102, am_ps_102), (103, am_ct_103, am_ps_103), (104, am_ct_104, am_ps_104), (105, am_ct_105, am_ps_105), (106, am_ct_106, am_ps_106), (107, am_ct_107, am_ps_107), (108, am_ct_108, am_ps_108), (109, am_ct_109, am_ps_109), (110, am_ct_110, am_ps_110), (111, am_ct_111, am_ps_111)]
theorem am_tri_ok_6 : ∀ t ∈ am_tri_6, am_trok t := List.forall_mem_cons.mpr ⟨am_tk_96, List.forall_mem_cons.mpr ⟨am_tk_97, List.forall_mem_cons.mpr ⟨am_tk_98, List.forall_mem_cons.mpr ⟨am_tk_99, List.forall_mem_cons.mpr ⟨am_tk_100, List.forall_mem_cons.mpr ⟨am_tk_101, List.forall_mem_cons.mpr ⟨am_tk_102, List.forall_mem_cons.mpr ⟨am_tk_103, List.forall_mem_cons.mpr ⟨am_tk_104, List.forall_mem_cons.mpr ⟨am_tk_105, List.forall_mem_cons.mpr ⟨am_tk_106, List.forall_mem_cons.mpr ⟨am_tk_107, List.forall_mem_cons.mpr ⟨am_tk_108, List.forall_mem_cons.mpr ⟨am_tk_109, List.forall_mem_cons.mpr ⟨am_tk_110, List.forall_mem_cons.mpr ⟨am_tk_111, fun _ h => absurd h List.not_mem_nil⟩⟩⟩⟩⟩⟩⟩⟩⟩⟩⟩⟩⟩⟩⟩⟩
def am_tri_7 : List am_T3 := [(112, am_ct_112, am_ps_112), (113, am_ct_113, am_ps_113), (114, am_ct_114, am_ps_114), (115, am_ct_115, am_ps_115), (116, am_ct_116, am_ps_116), (117, am_ct_117, am_ps_117), (118, am_ct_118, am_ps_118), (119, am_ct_119, am_ps_119), (120, am_ct_120, am_ps_120), (121, am_ct_121, am_ps_121), (122, am_ct_122, am_ps_122), (123, am_ct_123, am_ps_123), (124, am_ct_124, am_ps_124), (125, am_ct_125, am_ps_125), (126, am_ct_126, am_ps_126), (127, am_ct_127, am_ps_127)]
theorem am_tri_ok_7 : ∀ t ∈ am_tri_7, am_trok t := List.forall_mem_cons.mpr ⟨am_tk_112, List.forall_mem_cons.mpr ⟨am_tk_113, List.forall_mem_cons.mpr ⟨am_tk_114, List.forall_mem_cons.mpr ⟨am_tk_115, List.forall_mem_cons.mpr ⟨am_tk_116, List.forall_mem_cons.mpr ⟨am_tk_117, List.forall_mem_cons.mpr ⟨am_tk_118, List.forall_mem_cons.mpr ⟨am_tk_119, List.forall_mem_cons.mpr ⟨am_tk_120, List.forall_mem_cons.mpr ⟨am_tk_121, List.forall_mem_cons.mpr ⟨am_tk_122, List.forall_mem_cons.mpr ⟨am_tk_123, List.forall_mem_cons.mpr ⟨am_tk_124, List.forall_mem_cons.mpr ⟨am_tk_125, List.forall_mem_cons.mpr ⟨am_tk_126, List.forall_mem_cons.mpr ⟨am_tk_127, fun _ h => absurd h List.not_mem_nil⟩⟩⟩⟩⟩⟩⟩⟩⟩⟩⟩⟩⟩⟩⟩⟩
def am_tri_8 : List am_T3 := [(128, am_ct_128, am_ps_128), (129, am_ct_129, am_ps_129), (130, am_ct_130, am_ps_130), (131, am_ct_131, am_ps_131), (132, am_ct_132, am_ps_132), (133, am_ct_133, am_ps_133), (134, am_ct_134, am_ps_134), (135, am_ct_135, am_ps_135), (136, am_ct_136, am_ps_136), (137, am_ct_137, am_ps_137), (138, am_ct_138, am_ps_138), (139, am_ct_139, am_ps_139), (140, am_ct_140, am_ps_140), (141, am_ct_141, am_ps_141), (142, am_ct_142, am_ps_142), (143, am_ct_143, am_ps_143)]
theorem am_tri_ok_8 : ∀ t ∈ am_tri_8, am_trok t := List.forall_mem_cons.mpr ⟨am_tk_128, List.forall_mem_cons.mpr ⟨am_tk_129, List.forall_mem_cons.mpr ⟨am_tk_130, List.forall_mem_cons.mpr ⟨am_tk_131, List.forall_mem_cons.mpr ⟨am_tk_132, List.forall_mem_cons.mpr ⟨am_tk_133, List.forall_mem_cons.mpr ⟨am_tk_134, List.forall_mem_cons.mpr ⟨am_tk_135, List.forall_mem_cons.mpr ⟨am_tk_136, List.forall_mem_cons.mpr ⟨am_tk_137, List.forall_mem_cons.mpr ⟨am_tk_138, List.forall_mem_cons.mpr ⟨am_tk_139, List.forall_mem_cons.mpr ⟨am_tk_140, List.forall_mem_cons.mpr ⟨am_tk_141, List.forall_mem_cons.mpr ⟨am_tk_142, List.forall_mem_cons.mpr ⟨am_tk_143, fun _ h => absurd h List.not_mem_nil⟩⟩⟩⟩⟩⟩⟩⟩⟩⟩⟩⟩⟩⟩⟩⟩
def am_tri_9 : List am_T3 := [(144, am_ct_144, am_ps_144), (145, am_ct_145, am_ps_145), (146, am_ct_146, am_ps_146), (147, am_ct_147, am_ps_147), (148, am_ct_148, am_ps_148), (149, am_ct_149, am_ps_149), (150, am_ct_150, am_ps_150), (151, am_ct_151, am_ps_151), (152, am_ct_152, am_ps_152), (153, am_ct_153, am_ps_153), (154, am_ct_154, am_ps_154), (155, am_ct_155, am_ps_155), (156, am_ct_156, am_ps_156), (157, am_ct_157, am_ps_157), (158, am_ct_158, am_ps_158), (159, am_ct_159, am_ps_159)]
theorem am_tri_ok_9 : ∀ t ∈ am_tri_9, am_trok t := List.forall_mem_cons.mpr ⟨am_tk_144, List.forall_mem_cons.mpr ⟨am_tk_145, List.forall_mem_cons.mpr ⟨am_tk_146, List.forall_mem_cons.mpr ⟨am_tk_147, List.forall_mem_cons.mpr ⟨am_tk_148, List.forall_mem_cons.mpr ⟨am_tk_149, List.forall_mem_cons.mpr ⟨am_tk_150, List.forall_mem_cons.mpr ⟨am_tk_151, List.forall_mem_cons.mpr ⟨am_tk_152, List.forall_mem_cons.mpr ⟨am_tk_153, List.forall_mem_cons.mpr ⟨am_tk_154, List.forall_mem_cons.mpr ⟨am_tk_155, List.forall_mem_cons.mpr ⟨am_tk_156, List.forall_mem_cons.mpr ⟨am_tk_157, List.forall_mem_cons.mpr ⟨am_tk_158, List.forall_mem_cons.mpr ⟨am_tk_159, fun _ h => absurd h List.not_mem_nil⟩⟩⟩⟩⟩⟩⟩⟩⟩⟩⟩⟩⟩⟩⟩⟩
def am_tri_10 : List am_T3 := [(160, am_ct_160, am_ps_160), (161, am_ct_161, am_ps_161), (162, am_ct_162, am_ps_162), (163, am_ct_163, am_ps_163), (164, am_ct_164, am_ps_164), (165, am_ct_165, am_ps_165), (166, am_ct_166, am_ps_166), (167, am_ct_167, am_ps_167), (168, am_ct_168, am_ps_168), (169, am_ct_169, am_ps_169), (170, am_ct_170, am_ps_170), (171, am_ct_171, am_ps_171), (172, am_ct_172, am_ps_172), (173, am_ct_173, am_ps_173), (174, am_ct_174, am_ps_174), (175, am_ct_175, am_ps_175)]
theorem am_tri_ok_10 : ∀ t ∈ am_tri_10, am_trok t := List.forall_mem_cons.mpr ⟨am_tk_160, List.forall_mem_cons.mpr ⟨am_tk_161, List.forall_mem_cons.mpr ⟨am_tk_162, List.forall_mem_cons.mpr ⟨am_tk_163, List.forall_mem_cons.mpr ⟨am_tk_164, List.forall_mem_cons.mpr ⟨am_tk_165, List.forall_mem_cons.mpr ⟨am_tk_166, List.forall_mem_cons.mpr ⟨am_tk_167, List.forall_mem_cons.mpr ⟨am_tk_168, List.forall_mem_cons.mpr ⟨am_tk_169, List.forall_mem_cons.mpr ⟨am_tk_170, List.forall_mem_cons.mpr ⟨am_tk_171, List.forall_mem_cons.mpr ⟨am_tk_172, List.forall_mem_cons.mpr ⟨am_tk_173, List.forall_mem_cons.mpr ⟨am_tk_174, List.forall_mem_cons.mpr ⟨am_tk_175, fun _ h => absurd h List.not_mem_nil⟩⟩⟩⟩⟩⟩⟩⟩⟩⟩⟩⟩⟩⟩⟩⟩
def am_tri_11 : List am_T3 := [(176, am_ct_176, am_ps_176), (177, am_ct_177, am_ps_177), (178, am_ct_178, am_ps_178), (179, am_ct_179, am_ps_179), (180, am_ct_180, am_ps_180), (181, am_ct_181, am_ps_181), (182, am_ct_182, am_ps_182), (183, am_ct_183, am_ps_183), (184, am_ct_184, am_ps_184), (185, am_ct_185, am_ps_185), (186, am_ct_186, am_ps_186), (187, am_ct_187, am_ps_187), (188, am_ct_188, am_ps_188), (189, am_ct_189, am_ps_189), (190, am_ct_190, am_ps_190), (191, am_ct_191, am_ps_191)]
theorem am_tri_ok_11 : ∀ t ∈ am_tri_11, am_trok t := List.forall_mem_cons.mpr ⟨am_tk_176, List.forall_mem_cons.mpr ⟨am_tk_177, List.forall_mem_cons.mpr ⟨am_tk_178, List.forall_mem_cons.mpr ⟨am_tk_179, List.forall_mem_cons.mpr ⟨am_tk_180, List.forall_mem_cons.mpr ⟨am_tk_181, List.forall_mem_cons.mpr ⟨am_tk_182, List.forall_mem_cons.mpr ⟨am_tk_183, List.forall_mem_cons.mpr ⟨am_tk_184, List.forall_mem_cons.mpr ⟨am_tk_185, List.forall_mem_cons.mpr ⟨am_tk_186, List.forall_mem_cons.mpr ⟨am_tk_187, List.forall_mem_cons.mpr ⟨am_tk_188, List.forall_mem_cons.mpr ⟨am_tk_189, List.forall_mem_cons.mpr ⟨am_tk_190, List.forall_mem_cons.mpr ⟨am_tk_191, fun _ h => absurd h List.not_mem_nil⟩⟩⟩⟩⟩⟩⟩⟩⟩⟩⟩⟩⟩⟩⟩⟩
def am_tri_12 : List am_T3 := [(192, am_ct_192, am_ps_192), (193, am_ct_193, am_ps_193), (194, am_ct_194, am_ps_194), (195, am_ct_195, am_ps_195), (196, am_ct_196, am_ps_196), (197, am_ct_197, am_ps_197), (198, am_ct_198, am_ps_198), (199, am_ct_199, am_ps_199), (200, am_ct_200, am_ps_200), (201, am_ct_201, am_ps_201), (202, am_ct_202, am_ps_202), (203, am_ct_203, am_ps_203), (204, am_ct_204, am_ps_204), (205, am_ct_205, am_ps_205), (206, am_ct_206, am_ps_206), (207, am_ct_207, am_ps_207)]
theorem am_tri_ok_12 : ∀ t ∈ am_tri_12, am_trok t := List.forall_mem_cons.mpr ⟨am_tk_192, List.forall_mem_cons.mpr ⟨am_tk_193, List.forall_mem_cons.mpr ⟨am_tk_194, List.forall_mem_cons.mpr ⟨am_tk_195, List.forall_mem_cons.mpr ⟨am_tk_196, List.forall_mem_cons.mpr ⟨am_tk_197, List.forall_mem_cons.mpr ⟨am_tk_198, List.forall_mem_cons.mpr ⟨am_tk_199, List.forall_mem_cons.mpr ⟨am_tk_200, List.forall_mem_cons.mpr ⟨am_tk_201, List.forall_mem_cons.mpr ⟨am_tk_202, List.forall_mem_cons.mpr ⟨am_tk_203, List.forall_mem_cons.mpr ⟨am_tk_204, List.forall_mem_cons.mpr ⟨am_tk_205, List.forall_mem_cons.mpr ⟨am_tk_206, List.forall_mem_cons.mpr ⟨am_tk_207, fun _ h => absurd h List.not_mem_nil⟩⟩⟩⟩⟩⟩⟩⟩⟩⟩⟩⟩⟩⟩⟩⟩
def am_tri_13 : List am_T3 := [(208, am_ct_208, am_ps_208), (209, am_ct_209, am_ps_209), (210, am_ct_210, am_ps_210), (211, am_ct_211, am_ps_211), (212, am_ct_212, am_ps_212), (213, am_ct_213, am_ps_213), (214, am_ct_214, am_ps_214), (215, am_ct_215, am_ps_215), (216, am_ct_216, am_ps_216), (217, am_ct_217, am_ps_217), (218, am_ct_218, am_ps_218), (219, am_ct_219, am_ps_219), (220, am_ct_220, am_ps_220), (221, am_ct_221, am_ps_221), (222, am_ct_222, am_ps_222), (223, am_ct_223, am_ps_223)]
theorem am_tri_ok_13 : ∀ t ∈ am_tri_13, am_trok t := List.forall_mem_cons.mpr ⟨am_tk_208, List.forall_mem_cons.mpr ⟨am_tk_209, List.forall_mem_cons.mpr ⟨am_tk_210, List.forall_mem_cons.mpr ⟨am_tk_211, List.forall_mem_cons.mpr ⟨am_tk_212, List.forall_mem_cons.mpr ⟨am_tk_213, List.forall_mem_cons.mpr ⟨am_tk_214, List.forall_mem_cons.mpr ⟨am_tk_215, List.forall_mem_cons.mpr ⟨am_tk_216, List.forall_mem_cons.mpr ⟨am_tk_217, List.forall_mem_cons.mpr ⟨am_tk_218, List.forall_mem_cons.mpr ⟨am_tk_219, List.forall_mem_cons.mpr ⟨am_tk_220, List.forall_mem_cons.mpr ⟨am_tk_221, List.forall_mem_cons.mpr ⟨am_tk_222, List.forall_mem_cons.mpr ⟨am_tk_223, fun _ h => absurd h List.not_mem_nil⟩⟩⟩⟩⟩⟩⟩⟩⟩⟩⟩⟩⟩⟩⟩⟩
def am_tri_14 : List am_T3 := [(224, am_ct_224, am_ps_224), (225, am_ct_225, am_ps_225), (226, am_ct_226, am_ps_226), (227, am_ct_227, am_ps_227), (228, am_ct_228, am_ps_228), (229, am_ct_229, am_ps_229), (230, am_ct_230, am_ps_230), (231, am_ct_231, am_ps_231), (232, am_ct_232, am_ps_232), (233, am_ct_233, am_ps_233), (234, am_ct_234, am_ps_234), (235, am_ct_235, am_ps_235), (236, am_ct_236, am_ps_236), (237, am_ct_237, am_ps_237), (238, am_ct_238, am_ps_238), (239, am_ct_239, am_ps_239)]
theorem am_tri_ok_14 : ∀ t ∈ am_tri_14, am_trok t := List.forall_mem_cons.mpr ⟨am_tk_224, List.forall_mem_cons.mpr ⟨am_tk_225, List.forall_mem_cons.mpr ⟨am_tk_226, List.forall_mem_cons.mpr ⟨am_tk_227, List.forall_mem_cons.mpr ⟨am_tk_228, List.forall_mem_cons.mpr ⟨am_tk_229, List.forall_mem_cons.mpr ⟨am_tk_230, List.forall_mem_cons.mpr ⟨am_tk_231, List.forall_mem_cons.mpr ⟨am_tk_232, List.forall_mem_cons.mpr ⟨am_tk_233, List.forall_mem_cons.mpr ⟨am_tk_234, List.forall_mem_cons.mpr ⟨am_tk_235, List.forall_mem_cons.mpr ⟨am_tk_236, List.forall_mem_cons.mpr ⟨am_tk_237, List.forall_mem_cons.mpr ⟨am_tk_238, List.forall_mem_cons.mpr ⟨am_tk_239, fun _ h => absurd h List.not_mem_nil⟩⟩⟩⟩⟩⟩⟩⟩⟩⟩⟩⟩⟩⟩⟩⟩
def am_tri_15 : List am_T3 := [(240, am_ct_240, am_ps_240)]
theorem am_tri_ok_15 : ∀ t ∈ am_tri_15, am_trok t := List.forall_mem_cons.mpr ⟨am_tk_240, fun _ h => absurd h List.not_mem_nil⟩
def am_tri : List am_T3 := am_tri_0 ++ (am_tri_1 ++ (am_tri_2 ++ (am_tri_3 ++ (am_tri_4 ++ (am_tri_5 ++ (am_tri_6 ++ (am_tri_7 ++ (am_tri_8 ++ (am_tri_9 ++ (am_tri_10 ++ (am_tri_11 ++ (am_tri_12 ++ (am_tri_13 ++ (am_tri_14 ++ (am_tri_15)))))))))))))))
theorem am_tri_all : ∀ t ∈ am_tri, am_trok t := List.forall_mem_append.mpr ⟨am_tri_ok_0, List.forall_mem_append.mpr ⟨am_tri_ok_1, List.forall_mem_append.mpr ⟨am_tri_ok_2, List.forall_mem_append.mpr ⟨am_tri_ok_3, List.forall_mem_append.mpr ⟨am_tri_ok_4, List.forall_mem_append.mpr ⟨am_tri_ok_5, List.forall_mem_append.mpr ⟨am_tri_ok_6, List.forall_mem_append.mpr ⟨am_tri_ok_7, List.forall_mem_append.mpr ⟨am_tri_ok_8, List.forall_mem_append.mpr ⟨am_tri_ok_9, List.forall_mem_append.mpr ⟨am_tri_ok_10, List.forall_mem_append.mpr ⟨am_tri_ok_11, List.forall_mem_append.mpr ⟨am_tri_ok_12, List.forall_mem_append.mpr ⟨am_tri_ok_13, List.forall_mem_append.mpr ⟨am_tri_ok_14, am_tri_ok_15⟩⟩⟩⟩⟩⟩⟩⟩⟩⟩⟩⟩⟩⟩⟩
set_option maxRecDepth 100000 in
theorem am_tri_cts : am_cts = am_tri.map (fun t => t.2.1) := rfl
set_option maxRecDepth 100000 in
theorem am_tri_ix : am_tri.map (fun t => t.1) = List.range 241 := by decide +kernel
theorem am_tri_at {i : Nat} {q : Nat × Instr × Nat × Nat × Nat × Nat} (h : q ∈ am_ct i) : ∃ t ∈ am_tri, t.1 = i ∧ t.2.1 = am_ct i := by
  unfold am_ct at h ⊢
  have hi : i < am_cts.length := by
    rcases Nat.lt_or_ge i am_cts.length with z | z
    · exact z
    · rw [List.getD_eq_getElem?_getD, List.getElem?_eq_none z] at h
      cases h
  have hl : am_cts.length = am_tri.length := by rw [am_tri_cts, List.length_map]
  have ht : am_tri[i]? = some (am_tri[i]'(by omega)) := List.getElem?_eq_getElem (by omega)
  refine ⟨_, List.mem_of_getElem? ht, ?_, ?_⟩
  · have h1 : (am_tri.map (fun t => t.1))[i]? = some (am_tri[i]'(by omega)).1 := by rw [List.getElem?_map, ht]; rfl
    rw [am_tri_ix, List.getElem?_eq_some_iff] at h1
    obtain ⟨h2, h3⟩ := h1
    rw [List.getElem_range] at h3
    exact h3.symm
  · have h1 : am_cts[i]? = some (am_tri[i]'(by omega)).2.1 := by rw [am_tri_cts, List.getElem?_map, ht]; rfl
    rw [List.getD_eq_getElem?_getD, h1]
    rfl
theorem am_fetch_mem {i pc : Nat} {q : Instr × Nat × Nat × Nat × Nat} (h : am_fetch i pc = some q) : (pc, q) ∈ am_ct i := by
  unfold am_fetch at h
  obtain ⟨z, h1, h2⟩ := Option.map_eq_some_iff.mp h
  have h3 := List.find?_some h1
  have h4 := List.mem_of_find?_eq_some h1
  rw [beq_iff_eq] at h3
  rw [← h3, ← h2]
  exact h4
def am_rowfacts (i pc : Nat) (q : Instr × Nat × Nat × Nat × Nat) : Prop := decode (am_b i) pc = .ok (q.1, q.2.1) ∧ am_chk i (pc, q) = true ∧ (∀ w ∈ am_word i (pc, q), w ∈ am_GW) ∧ (∀ w ∈ am_nword i (pc, q), w ∈ am_NW)
theorem am_row_of {i pc : Nat} {q : Instr × Nat × Nat × Nat × Nat} (h : am_fetch i pc = some q) : am_rowfacts i pc q := by
  have hm := am_fetch_mem h
  obtain ⟨t, ht, h1, h2⟩ := am_tri_at hm
  obtain ⟨h3, h4⟩ := am_tri_all t ht
  rw [← h2] at hm
  obtain ⟨j, hj⟩ := List.getElem?_of_mem hm
  have hlt : j < t.2.1.length := (List.getElem?_eq_some_iff.mp hj).1
  have hz : (t.2.1.zip t.2.2)[j]? = some ((pc, q), t.2.2[j]'(by omega)) := by
    rw [List.getElem?_zip_eq_some]
    exact ⟨hj, List.getElem?_eq_getElem (by omega)⟩
  have h5 := List.all_eq_true.mp h3 _ (List.mem_of_getElem? hz)
  rw [h1] at h5
  unfold am_row2 am_rowok at h5
  simp only [Bool.and_eq_true, decide_eq_true_eq] at h5
  obtain ⟨⟨a1, a2⟩, a3, a4, a5⟩ := h5
  have key : ∀ w ∈ am_word i (pc, q) ++ am_nword i (pc, q), w ∈ lw_tbl := by
    intro w hw
    have hw2 : some w ∈ (am_word i (pc, q) ++ am_nword i (pc, q)).map some := List.mem_map_of_mem hw
    rw [a3] at hw2
    obtain ⟨p, -, hp⟩ := List.mem_map.mp hw2
    exact List.mem_of_getElem? hp
  exact ⟨a1, a2, fun w hw => List.mem_filter.mpr ⟨key w (List.mem_append_left _ hw), List.all_eq_true.mp a4 w hw⟩, fun w hw => List.mem_filter.mpr ⟨key w (List.mem_append_right _ hw), List.all_eq_true.mp a5 w hw⟩⟩
