/-! every row of every table stands as it should (parts 08 to 10), as one theorem -/
theorem am_join1 {α : Type} {f : α → Bool} {l : List α} (hl : l.length ≤ 100) (h : ((l.drop 0).take 100).all f = true) : l.all f = true := by
  rw [List.drop_zero, List.take_of_length_le hl] at h
  exact h
theorem am_join {α : Type} {f : α → Bool} {l : List α} (k : Nat) (hl : l.length ≤ 100 * k) (h : ∀ j, j < k → ((l.drop (100 * j)).take 100).all f = true) : l.all f = true := by
  refine List.all_eq_true.mpr fun q hq => ?_
  obtain ⟨j, hj⟩ := List.getElem?_of_mem hq
  have hlt : j < l.length := (List.getElem?_eq_some_iff.mp hj).1
  refine List.all_eq_true.mp (h (j / 100) (by omega)) q (List.mem_of_getElem? (i := j - 100 * (j / 100)) ?_)
  rw [List.getElem?_take, if_pos (by omega), List.getElem?_drop, show 100 * (j / 100) + (j - 100 * (j / 100)) = j by omega]
  exact hj
abbrev am_T3 : Type := Nat × List (Nat × Instr × Nat × Nat × Nat × Nat) × List (List Nat)
def am_trok (t : am_T3) : Prop := (t.2.1.zip t.2.2).all (am_row2 t.1) = true ∧ t.2.1.length = t.2.2.length
set_option maxRecDepth 100000 in
theorem am_tk_0 : am_trok (0, am_ct_0, am_ps_0) := ⟨am_join1 (by decide +kernel) am_k_0_0, by decide +kernel⟩
set_option maxRecDepth 100000 in
theorem am_tk_1 : am_trok (1, am_ct_1, am_ps_1) := ⟨am_join1 (by decide +kernel) am_k_1_0, by decide +kernel⟩
set_option maxRecDepth 100000 in
theorem am_tk_2 : am_trok (2, am_ct_2, am_ps_2) := ⟨am_join1 (by decide +kernel) am_k_2_0, by decide +kernel⟩
set_option maxRecDepth 100000 in
theorem am_tk_3 : am_trok (3, am_ct_3, am_ps_3) := ⟨am_join1 (by decide +kernel) am_k_3_0, by decide +kernel⟩
set_option maxRecDepth 100000 in
theorem am_tk_4 : am_trok (4, am_ct_4, am_ps_4) := ⟨am_join1 (by decide +kernel) am_k_4_0, by decide +kernel⟩
set_option maxRecDepth 100000 in
theorem am_tk_5 : am_trok (5, am_ct_5, am_ps_5) := ⟨am_join1 (by decide +kernel) am_k_5_0, by decide +kernel⟩
set_option maxRecDepth 100000 in
theorem am_tk_6 : am_trok (6, am_ct_6, am_ps_6) := ⟨am_join1 (by decide +kernel) am_k_6_0, by decide +kernel⟩
set_option maxRecDepth 100000 in
theorem am_tk_7 : am_trok (7, am_ct_7, am_ps_7) := ⟨am_join1 (by decide +kernel) am_k_7_0, by decide +kernel⟩
set_option maxRecDepth 100000 in
theorem am_tk_8 : am_trok (8, am_ct_8, am_ps_8) := ⟨am_join1 (by decide +kernel) am_k_8_0, by decide +kernel⟩
set_option maxRecDepth 100000 in
theorem am_tk_9 : am_trok (9, am_ct_9, am_ps_9) := ⟨am_join1 (by decide +kernel) am_k_9_0, by decide +kernel⟩
set_option maxRecDepth 100000 in
theorem am_tk_10 : am_trok (10, am_ct_10, am_ps_10) := ⟨am_join1 (by decide +kernel) am_k_10_0, by decide +kernel⟩
set_option maxRecDepth 100000 in
theorem am_tk_11 : am_trok (11, am_ct_11, am_ps_11) := ⟨am_join1 (by decide +kernel) am_k_11_0, by decide +kernel⟩
set_option maxRecDepth 100000 in
theorem am_tk_12 : am_trok (12, am_ct_12, am_ps_12) := ⟨am_join1 (by decide +kernel) am_k_12_0, by decide +kernel⟩
set_option maxRecDepth 100000 in
theorem am_tk_13 : am_trok (13, am_ct_13, am_ps_13) := ⟨am_join1 (by decide +kernel) am_k_13_0, by decide +kernel⟩
set_option maxRecDepth 100000 in
theorem am_tk_14 : am_trok (14, am_ct_14, am_ps_14) := ⟨am_join1 (by decide +kernel) am_k_14_0, by decide +kernel⟩
set_option maxRecDepth 100000 in
theorem am_tk_15 : am_trok (15, am_ct_15, am_ps_15) := ⟨am_join1 (by decide +kernel) am_k_15_0, by decide +kernel⟩
set_option maxRecDepth 100000 in
theorem am_tk_16 : am_trok (16, am_ct_16, am_ps_16) := ⟨am_join1 (by decide +kernel) am_k_16_0, by decide +kernel⟩
set_option maxRecDepth 100000 in
theorem am_tk_17 : am_trok (17, am_ct_17, am_ps_17) := ⟨am_join1 (by decide +kernel) am_k_17_0, by decide +kernel⟩
set_option maxRecDepth 100000 in
theorem am_tk_18 : am_trok (18, am_ct_18, am_ps_18) := ⟨am_join1 (by decide +kernel) am_k_18_0, by decide +kernel⟩
set_option maxRecDepth 100000 in
theorem am_tk_19 : am_trok (19, am_ct_19, am_ps_19) := ⟨am_join1 (by decide +kernel) am_k_19_0, by decide +kernel⟩
set_option maxRecDepth 100000 in
theorem am_tk_20 : am_trok (20, am_ct_20, am_ps_20) := ⟨am_join1 (by decide +kernel) am_k_20_0, by decide +kernel⟩
set_option maxRecDepth 100000 in
theorem am_tk_21 : am_trok (21, am_ct_21, am_ps_21) := ⟨am_join1 (by decide +kernel) am_k_21_0, by decide +kernel⟩
set_option maxRecDepth 100000 in
theorem am_tk_22 : am_trok (22, am_ct_22, am_ps_22) := ⟨am_join1 (by decide +kernel) am_k_22_0, by decide +kernel⟩
set_option maxRecDepth 100000 in
theorem am_tk_23 : am_trok (23, am_ct_23, am_ps_23) := ⟨am_join1 (by decide +kernel) am_k_23_0, by decide +kernel⟩
set_option maxRecDepth 100000 in
theorem am_tk_24 : am_trok (24, am_ct_24, am_ps_24) := ⟨am_join1 (by decide +kernel) am_k_24_0, by decide +kernel⟩
set_option maxRecDepth 100000 in
theorem am_tk_25 : am_trok (25, am_ct_25, am_ps_25) := ⟨am_join1 (by decide +kernel) am_k_25_0, by decide +kernel⟩
set_option maxRecDepth 100000 in
theorem am_tk_26 : am_trok (26, am_ct_26, am_ps_26) := ⟨am_join1 (by decide +kernel) am_k_26_0, by decide +kernel⟩
set_option maxRecDepth 100000 in
theorem am_tk_27 : am_trok (27, am_ct_27, am_ps_27) := ⟨am_join1 (by decide +kernel) am_k_27_0, by decide +kernel⟩
set_option maxRecDepth 100000 in
theorem am_tk_28 : am_trok (28, am_ct_28, am_ps_28) := ⟨am_join1 (by decide +kernel) am_k_28_0, by decide +kernel⟩
set_option maxRecDepth 100000 in
theorem am_tk_29 : am_trok (29, am_ct_29, am_ps_29) := ⟨am_join1 (by decide +kernel) am_k_29_0, by decide +kernel⟩
set_option maxRecDepth 100000 in
theorem am_tk_30 : am_trok (30, am_ct_30, am_ps_30) := ⟨am_join1 (by decide +kernel) am_k_30_0, by decide +kernel⟩
set_option maxRecDepth 100000 in
theorem am_tk_31 : am_trok (31, am_ct_31, am_ps_31) := ⟨am_join1 (by decide +kernel) am_k_31_0, by decide +kernel⟩
set_option maxRecDepth 100000 in
theorem am_tk_32 : am_trok (32, am_ct_32, am_ps_32) := ⟨am_join1 (by decide +kernel) am_k_32_0, by decide +kernel⟩
set_option maxRecDepth 100000 in
theorem am_tk_33 : am_trok (33, am_ct_33, am_ps_33) := ⟨am_join1 (by decide +kernel) am_k_33_0, by decide +kernel⟩
set_option maxRecDepth 100000 in
theorem am_tk_34 : am_trok (34, am_ct_34, am_ps_34) := ⟨am_join1 (by decide +kernel) am_k_34_0, by decide +kernel⟩
set_option maxRecDepth 100000 in
theorem am_tk_35 : am_trok (35, am_ct_35, am_ps_35) := ⟨am_join1 (by decide +kernel) am_k_35_0, by decide +kernel⟩
set_option maxRecDepth 100000 in
theorem am_tk_36 : am_trok (36, am_ct_36, am_ps_36) := ⟨am_join1 (by decide +kernel) am_k_36_0, by decide +kernel⟩
set_option maxRecDepth 100000 in
theorem am_tk_37 : am_trok (37, am_ct_37, am_ps_37) := ⟨am_join1 (by decide +kernel) am_k_37_0, by decide +kernel⟩
set_option maxRecDepth 100000 in
theorem am_tk_38 : am_trok (38, am_ct_38, am_ps_38) := ⟨am_join1 (by decide +kernel) am_k_38_0, by decide +kernel⟩
set_option maxRecDepth 100000 in
theorem am_tk_39 : am_trok (39, am_ct_39, am_ps_39) := ⟨am_join1 (by decide +kernel) am_k_39_0, by decide +kernel⟩
set_option maxRecDepth 100000 in
theorem am_tk_40 : am_trok (40, am_ct_40, am_ps_40) := ⟨am_join1 (by decide +kernel) am_k_40_0, by decide +kernel⟩
set_option maxRecDepth 100000 in
theorem am_tk_41 : am_trok (41, am_ct_41, am_ps_41) := ⟨am_join1 (by decide +kernel) am_k_41_0, by decide +kernel⟩
set_option maxRecDepth 100000 in
theorem am_tk_42 : am_trok (42, am_ct_42, am_ps_42) := ⟨am_join1 (by decide +kernel) am_k_42_0, by decide +kernel⟩
set_option maxRecDepth 100000 in
theorem am_tk_43 : am_trok (43, am_ct_43, am_ps_43) := ⟨am_join1 (by decide +kernel) am_k_43_0, by decide +kernel⟩
set_option maxRecDepth 100000 in
theorem am_tk_44 : am_trok (44, am_ct_44, am_ps_44) := ⟨am_join1 (by decide +kernel) am_k_44_0, by decide +kernel⟩
set_option maxRecDepth 100000 in
theorem am_tk_45 : am_trok (45, am_ct_45, am_ps_45) := by
  refine ⟨am_join 2 (by decide +kernel) (fun j hj => ?_), by decide +kernel⟩
  match j, hj with
  | 0, _ => exact am_k_45_0
  | 1, _ => exact am_k_45_100
  | z + 2, hj => exact absurd hj (by omega)
set_option maxRecDepth 100000 in
theorem am_tk_46 : am_trok (46, am_ct_46, am_ps_46) := ⟨am_join1 (by decide +kernel) am_k_46_0, by decide +kernel⟩
set_option maxRecDepth 100000 in
theorem am_tk_47 : am_trok (47, am_ct_47, am_ps_47) := ⟨am_join1 (by decide +kernel) am_k_47_0, by decide +kernel⟩
set_option maxRecDepth 100000 in
theorem am_tk_48 : am_trok (48, am_ct_48, am_ps_48) := by
  refine ⟨am_join 3 (by decide +kernel) (fun j hj => ?_), by decide +kernel⟩
  match j, hj with
  | 0, _ => exact am_k_48_0
  | 1, _ => exact am_k_48_100
  | 2, _ => exact am_k_48_200
  | z + 3, hj => exact absurd hj (by omega)
set_option maxRecDepth 100000 in
theorem am_tk_49 : am_trok (49, am_ct_49, am_ps_49) := ⟨am_join1 (by decide +kernel) am_k_49_0, by decide +kernel⟩
set_option maxRecDepth 100000 in
theorem am_tk_50 : am_trok (50, am_ct_50, am_ps_50) := ⟨am_join1 (by decide +kernel) am_k_50_0, by decide +kernel⟩
set_option maxRecDepth 100000 in
theorem am_tk_51 : am_trok (51, am_ct_51, am_ps_51) := ⟨am_join1 (by decide +kernel) am_k_51_0, by decide +kernel⟩
set_option maxRecDepth 100000 in
theorem am_tk_52 : am_trok (52, am_ct_52, am_ps_52) := ⟨am_join1 (by decide +kernel) am_k_52_0, by decide +kernel⟩
set_option maxRecDepth 100000 in
theorem am_tk_53 : am_trok (53, am_ct_53, am_ps_53) := ⟨am_join1 (by decide +kernel) am_k_53_0, by decide +kernel⟩
set_option maxRecDepth 100000 in
theorem am_tk_54 : am_trok (54, am_ct_54, am_ps_54) := ⟨am_join1 (by decide +kernel) am_k_54_0, by decide +kernel⟩
set_option maxRecDepth 100000 in
theorem am_tk_55 : am_trok (55, am_ct_55, am_ps_55) := ⟨am_join1 (by decide +kernel) am_k_55_0, by decide +kernel⟩
set_option maxRecDepth 100000 in
theorem am_tk_56 : am_trok (56, am_ct_56, am_ps_56) := ⟨am_join1 (by decide +kernel) am_k_56_0, by decide +kernel⟩
set_option maxRecDepth 100000 in
theorem am_tk_57 : am_trok (57, am_ct_57, am_ps_57) := ⟨am_join1 (by decide +kernel) am_k_57_0, by decide +kernel⟩
set_option maxRecDepth 100000 in
theorem am_tk_58 : am_trok (58, am_ct_58, am_ps_58) := ⟨am_join1 (by decide +kernel) am_k_58_0, by decide +kernel⟩
set_option maxRecDepth 100000 in
theorem am_tk_59 : am_trok (59, am_ct_59, am_ps_59) := ⟨am_join1 (by decide +kernel) am_k_59_0, by decide +kernel⟩
set_option maxRecDepth 100000 in
theorem am_tk_60 : am_trok (60, am_ct_60, am_ps_60) := ⟨am_join1 (by decide +kernel) am_k_60_0, by decide +kernel⟩
set_option maxRecDepth 100000 in
theorem am_tk_61 : am_trok (61, am_ct_61, am_ps_61) := ⟨am_join1 (by decide +kernel) am_k_61_0, by decide +kernel⟩
set_option maxRecDepth 100000 in
theorem am_tk_62 : am_trok (62, am_ct_62, am_ps_62) := ⟨am_join1 (by decide +kernel) am_k_62_0, by decide +kernel⟩
set_option maxRecDepth 100000 in
theorem am_tk_63 : am_trok (63, am_ct_63, am_ps_63) := ⟨am_join1 (by decide +kernel) am_k_63_0, by decide +kernel⟩
set_option maxRecDepth 100000 in
theorem am_tk_64 : am_trok (64, am_ct_64, am_ps_64) := ⟨am_join1 (by decide +kernel) am_k_64_0, by decide +kernel⟩
set_option maxRecDepth 100000 in
theorem am_tk_65 : am_trok (65, am_ct_65, am_ps_65) := ⟨am_join1 (by decide +kernel) am_k_65_0, by decide +kernel⟩
set_option maxRecDepth 100000 in
theorem am_tk_66 : am_trok (66, am_ct_66, am_ps_66) := by
  refine ⟨am_join 3 (by decide +kernel) (fun j hj => ?_), by decide +kernel⟩
  match j, hj with
  | 0, _ => exact am_k_66_0
  | 1, _ => exact am_k_66_100
  | 2, _ => exact am_k_66_200
  | z + 3, hj => exact absurd hj (by omega)
set_option maxRecDepth 100000 in
theorem am_tk_67 : am_trok (67, am_ct_67, am_ps_67) := ⟨am_join1 (by decide +kernel) am_k_67_0, by decide +kernel⟩
set_option maxRecDepth 100000 in
theorem am_tk_68 : am_trok (68, am_ct_68, am_ps_68) := ⟨am_join1 (by decide +kernel) am_k_68_0, by decide +kernel⟩
set_option maxRecDepth 100000 in
theorem am_tk_69 : am_trok (69, am_ct_69, am_ps_69) := ⟨am_join1 (by decide +kernel) am_k_69_0, by decide +kernel⟩
set_option maxRecDepth 100000 in
theorem am_tk_70 : am_trok (70, am_ct_70, am_ps_70) := ⟨am_join1 (by decide +kernel) am_k_70_0, by decide +kernel⟩
set_option maxRecDepth 100000 in
theorem am_tk_71 : am_trok (71, am_ct_71, am_ps_71) := ⟨am_join1 (by decide +kernel) am_k_71_0, by decide +kernel⟩
set_option maxRecDepth 100000 in
theorem am_tk_72 : am_trok (72, am_ct_72, am_ps_72) := ⟨am_join1 (by decide +kernel) am_k_72_0, by decide +kernel⟩
set_option maxRecDepth 100000 in
theorem am_tk_73 : am_trok (73, am_ct_73, am_ps_73) := ⟨am_join1 (by decide +kernel) am_k_73_0, by decide +kernel⟩
set_option maxRecDepth 100000 in
theorem am_tk_74 : am_trok (74, am_ct_74, am_ps_74) := ⟨am_join1 (by decide +kernel) am_k_74_0, by decide +kernel⟩
set_option maxRecDepth 100000 in
theorem am_tk_75 : am_trok (75, am_ct_75, am_ps_75) := ⟨am_join1 (by decide +kernel) am_k_75_0, by decide +kernel⟩
set_option maxRecDepth 100000 in
theorem am_tk_76 : am_trok (76, am_ct_76, am_ps_76) := ⟨am_join1 (by decide +kernel) am_k_76_0, by decide +kernel⟩
set_option maxRecDepth 100000 in
theorem am_tk_77 : am_trok (77, am_ct_77, am_ps_77) := ⟨am_join1 (by decide +kernel) am_k_77_0, by decide +kernel⟩
set_option maxRecDepth 100000 in
theorem am_tk_78 : am_trok (78, am_ct_78, am_ps_78) := ⟨am_join1 (by decide +kernel) am_k_78_0, by decide +kernel⟩
set_option maxRecDepth 100000 in
theorem am_tk_79 : am_trok (79, am_ct_79, am_ps_79) := ⟨am_join1 (by decide +kernel) am_k_79_0, by decide +kernel⟩
set_option maxRecDepth 100000 in
theorem am_tk_80 : am_trok (80, am_ct_80, am_ps_80) := ⟨am_join1 (by decide +kernel) am_k_80_0, by decide +kernel⟩
set_option maxRecDepth 100000 in
theorem am_tk_81 : am_trok (81, am_ct_81, am_ps_81) := ⟨am_join1 (by decide +kernel) am_k_81_0, by decide +kernel⟩
set_option maxRecDepth 100000 in
theorem am_tk_82 : am_trok (82, am_ct_82, am_ps_82) := ⟨am_join1 (by decide +kernel) am_k_82_0, by decide +kernel⟩
set_option maxRecDepth 100000 in
theorem am_tk_83 : am_trok (83, am_ct_83, am_ps_83) := ⟨am_join1 (by decide +kernel) am_k_83_0, by decide +kernel⟩
set_option maxRecDepth 100000 in
theorem am_tk_84 : am_trok (84, am_ct_84, am_ps_84) := ⟨am_join1 (by decide +kernel) am_k_84_0, by decide +kernel⟩
set_option maxRecDepth 100000 in
theorem am_tk_85 : am_trok (85, am_ct_85, am_ps_85) := ⟨am_join1 (by decide +kernel) am_k_85_0, by decide +kernel⟩
set_option maxRecDepth 100000 in
theorem am_tk_86 : am_trok (86, am_ct_86, am_ps_86) := ⟨am_join1 (by decide +kernel) am_k_86_0, by decide +kernel⟩
set_option maxRecDepth 100000 in
theorem am_tk_87 : am_trok (87, am_ct_87, am_ps_87) := ⟨am_join1 (by decide +kernel) am_k_87_0, by decide +kernel⟩
set_option maxRecDepth 100000 in
theorem am_tk_88 : am_trok (88, am_ct_88, am_ps_88) := ⟨am_join1 (by decide +kernel) am_k_88_0, by decide +kernel⟩
set_option maxRecDepth 100000 in
theorem am_tk_89 : am_trok (89, am_ct_89, am_ps_89) := ⟨am_join1 (by decide +kernel) am_k_89_0, by decide +kernel⟩
set_option maxRecDepth 100000 in
theorem am_tk_90 : am_trok (90, am_ct_90, am_ps_90) := ⟨am_join1 (by decide +kernel) am_k_90_0, by decide +kernel⟩
set_option maxRecDepth 100000 in
theorem am_tk_91 : am_trok (91, am_ct_91, am_ps_91) := ⟨am_join1 (by decide +kernel) am_k_91_0, by decide +kernel⟩
set_option maxRecDepth 100000 in
theorem am_tk_92 : am_trok (92, am_ct_92, am_ps_92) := ⟨am_join1 (by decide +kernel) am_k_92_0, by decide +kernel⟩
set_option maxRecDepth 100000 in
theorem am_tk_93 : am_trok (93, am_ct_93, am_ps_93) := ⟨am_join1 (by decide +kernel) am_k_93_0, by decide +kernel⟩
set_option maxRecDepth 100000 in
theorem am_tk_94 : am_trok (94, am_ct_94, am_ps_94) := ⟨am_join1 (by decide +kernel) am_k_94_0, by decide +kernel⟩
set_option maxRecDepth 100000 in
theorem am_tk_95 : am_trok (95, am_ct_95, am_ps_95) := ⟨am_join1 (by decide +kernel) am_k_95_0, by decide +kernel⟩
set_option maxRecDepth 100000 in
theorem am_tk_96 : am_trok (96, am_ct_96, am_ps_96) := ⟨am_join1 (by decide +kernel) am_k_96_0, by decide +kernel⟩
set_option maxRecDepth 100000 in
theorem am_tk_97 : am_trok (97, am_ct_97, am_ps_97) := ⟨am_join1 (by decide +kernel) am_k_97_0, by decide +kernel⟩
set_option maxRecDepth 100000 in
theorem am_tk_98 : am_trok (98, am_ct_98, am_ps_98) := ⟨am_join1 (by decide +kernel) am_k_98_0, by decide +kernel⟩
set_option maxRecDepth 100000 in
theorem am_tk_99 : am_trok (99, am_ct_99, am_ps_99) := ⟨am_join1 (by decide +kernel) am_k_99_0, by decide +kernel⟩
set_option maxRecDepth 100000 in
theorem am_tk_100 : am_trok (100, am_ct_100, am_ps_100) := ⟨am_join1 (by decide +kernel) am_k_100_0, by decide +kernel⟩
set_option maxRecDepth 100000 in
theorem am_tk_101 : am_trok (101, am_ct_101, am_ps_101) := ⟨am_join1 (by decide +kernel) am_k_101_0, by decide +kernel⟩
set_option maxRecDepth 100000 in
theorem am_tk_102 : am_trok (102, am_ct_102, am_ps_102) := ⟨am_join1 (by decide +kernel) am_k_102_0, by decide +kernel⟩
set_option maxRecDepth 100000 in
theorem am_tk_103 : am_trok (103, am_ct_103, am_ps_103) := ⟨am_join1 (by decide +kernel) am_k_103_0, by decide +kernel⟩
set_option maxRecDepth 100000 in
theorem am_tk_104 : am_trok (104, am_ct_104, am_ps_104) := by
  refine ⟨am_join 2 (by decide +kernel) (fun j hj => ?_), by decide +kernel⟩
  match j, hj with
  | 0, _ => exact am_k_104_0
  | 1, _ => exact am_k_104_100
  | z + 2, hj => exact absurd hj (by omega)
set_option maxRecDepth 100000 in
theorem am_tk_105 : am_trok (105, am_ct_105, am_ps_105) := by
  refine ⟨am_join 4 (by decide +kernel) (fun j hj => ?_), by decide +kernel⟩
  match j, hj with
  | 0, _ => exact am_k_105_0
  | 1, _ => exact am_k_105_100
  | 2, _ => exact am_k_105_200
  | 3, _ => exact am_k_105_300
  | z + 4, hj => exact absurd hj (by omega)
set_option maxRecDepth 100000 in
theorem am_tk_106 : am_trok (106, am_ct_106, am_ps_106) := ⟨am_join1 (by decide +kernel) am_k_106_0, by decide +kernel⟩
def am_tri_0 : List am_T3 := [(0, am_ct_0, am_ps_0), (1, am_ct_1, am_ps_1), (2, am_ct_2, am_ps_2), (3, am_ct_3, am_ps_3), (4, am_ct_4, am_ps_4), (5, am_ct_5, am_ps_5), (6, am_ct_6, am_ps_6), (7, am_ct_7, am_ps_7), (8, am_ct_8, am_ps_8), (9, am_ct_9, am_ps_9), (10, am_ct_10, am_ps_10), (11, am_ct_11, am_ps_11), (12, am_ct_12, am_ps_12), (13, am_ct_13, am_ps_13), (14, am_ct_14, am_ps_14), (15, am_ct_15, am_ps_15)]
theorem am_tri_ok_0 : ∀ t ∈ am_tri_0, am_trok t := List.forall_mem_cons.mpr ⟨am_tk_0, List.forall_mem_cons.mpr ⟨am_tk_1, List.forall_mem_cons.mpr ⟨am_tk_2, List.forall_mem_cons.mpr ⟨am_tk_3, List.forall_mem_cons.mpr ⟨am_tk_4, List.forall_mem_cons.mpr ⟨am_tk_5, List.forall_mem_cons.mpr ⟨am_tk_6, List.forall_mem_cons.mpr ⟨am_tk_7, List.forall_mem_cons.mpr ⟨am_tk_8, List.forall_mem_cons.mpr ⟨am_tk_9, List.forall_mem_cons.mpr ⟨am_tk_10, List.forall_mem_cons.mpr ⟨am_tk_11, List.forall_mem_cons.mpr ⟨am_tk_12, List.forall_mem_cons.mpr ⟨am_tk_13, List.forall_mem_cons.mpr ⟨am_tk_14, List.forall_mem_cons.mpr ⟨am_tk_15, fun _ h => absurd h List.not_mem_nil⟩⟩⟩⟩⟩⟩⟩⟩⟩⟩⟩⟩⟩⟩⟩⟩
def am_tri_1 : List am_T3 := [(16, am_ct_16, am_ps_16), (17, am_ct_17, am_ps_17), (18, am_ct_18, am_ps_18), (19, am_ct_19, am_ps_19), (20, am_ct_20, am_ps_20), (21, am_ct_21, am_ps_21), (22, am_ct_22, am_ps_22), (23, am_ct_23, am_ps_23), (24, am_ct_24, am_ps_24), (25, am_ct_25, am_ps_25), (26, am_ct_26, am_ps_26), (27, am_ct_27, am_ps_27), (28, am_ct_28, am_ps_28), (29, am_ct_29, am_ps_29), (30, am_ct_30, am_ps_30), (31, am_ct_31, am_ps_31)]
theorem am_tri_ok_1 : ∀ t ∈ am_tri_1, am_trok t := List.forall_mem_cons.mpr ⟨am_tk_16, List.forall_mem_cons.mpr ⟨am_tk_17, List.forall_mem_cons.mpr ⟨am_tk_18, List.forall_mem_cons.mpr ⟨am_tk_19, List.forall_mem_cons.mpr ⟨am_tk_20, List.forall_mem_cons.mpr ⟨am_tk_21, List.forall_mem_cons.mpr ⟨am_tk_22, List.forall_mem_cons.mpr ⟨am_tk_23, List.forall_mem_cons.mpr ⟨am_tk_24, List.forall_mem_cons.mpr ⟨am_tk_25, List.forall_mem_cons.mpr ⟨am_tk_26, List.forall_mem_cons.mpr ⟨am_tk_27, List.forall_mem_cons.mpr ⟨am_tk_28, List.forall_mem_cons.mpr ⟨am_tk_29, List.forall_mem_cons.mpr ⟨am_tk_30, List.forall_mem_cons.mpr ⟨am_tk_31, fun _ h => absurd h List.not_mem_nil⟩⟩⟩⟩⟩⟩⟩⟩⟩⟩⟩⟩⟩⟩⟩⟩
def am_tri_2 : List am_T3 := [(32, am_ct_32, am_ps_32), (33, am_ct_33, am_ps_33), (34, am_ct_34, am_ps_34), (35, am_ct_35, am_ps_35), (36, am_ct_36, am_ps_36), (37, am_ct_37, am_ps_37), (38, am_ct_38, am_ps_38), (39, am_ct_39, am_ps_39), (40, am_ct_40, am_ps_40), (41, am_ct_41, am_ps_41), (42, am_ct_42, am_ps_42), (43, am_ct_43, am_ps_43), (44, am_ct_44, am_ps_44), (45, am_ct_45, am_ps_45), (46, am_ct_46, am_ps_46), (47, am_ct_47, am_ps_47)]
theorem am_tri_ok_2 : ∀ t ∈ am_tri_2, am_trok t := List.forall_mem_cons.mpr ⟨am_tk_32, List.forall_mem_cons.mpr ⟨am_tk_33, List.forall_mem_cons.mpr ⟨am_tk_34, List.forall_mem_cons.mpr ⟨am_tk_35, List.forall_mem_cons.mpr ⟨am_tk_36, List.forall_mem_cons.mpr ⟨am_tk_37, List.forall_mem_cons.mpr ⟨am_tk_38, List.forall_mem_cons.mpr ⟨am_tk_39, List.forall_mem_cons.mpr ⟨am_tk_40, List.forall_mem_cons.mpr ⟨am_tk_41, List.forall_mem_cons.mpr ⟨am_tk_42, List.forall_mem_cons.mpr ⟨am_tk_43, List.forall_mem_cons.mpr ⟨am_tk_44, List.forall_mem_cons.mpr ⟨am_tk_45, List.forall_mem_cons.mpr ⟨am_tk_46, List.forall_mem_cons.mpr ⟨am_tk_47, fun _ h => absurd h List.not_mem_nil⟩⟩⟩⟩⟩⟩⟩⟩⟩⟩⟩⟩⟩⟩⟩⟩
def am_tri_3 : List am_T3 := [(48, am_ct_48, am_ps_48), (49, am_ct_49, am_ps_49), (50, am_ct_50, am_ps_50), (51, am_ct_51, am_ps_51), (52, am_ct_52, am_ps_52), (53, am_ct_53, am_ps_53), (54, am_ct_54, am_ps_54), (55, am_ct_55, am_ps_55), (56, am_ct_56, am_ps_56), (57, am_ct_57, am_ps_57), (58, am_ct_58, am_ps_58), (59, am_ct_59, am_ps_59), (60, am_ct_60, am_ps_60), (61, am_ct_61, am_ps_61), (62, am_ct_62, am_ps_62), (63, am_ct_63, am_ps_63)]
theorem am_tri_ok_3 : ∀ t ∈ am_tri_3, am_trok t := List.forall_mem_cons.mpr ⟨am_tk_48, List.forall_mem_cons.mpr ⟨am_tk_49, List.forall_mem_cons.mpr ⟨am_tk_50, List.forall_mem_cons.mpr ⟨am_tk_51, List.forall_mem_cons.mpr ⟨am_tk_52, List.forall_mem_cons.mpr ⟨am_tk_53, List.forall_mem_cons.mpr ⟨am_tk_54, List.forall_mem_cons.mpr ⟨am_tk_55, List.forall_mem_cons.mpr ⟨am_tk_56, List.forall_mem_cons.mpr ⟨am_tk_57, List.forall_mem_cons.mpr ⟨am_tk_58, List.forall_mem_cons.mpr ⟨am_tk_59, List.forall_mem_cons.mpr ⟨am_tk_60, List.forall_mem_cons.mpr ⟨am_tk_61, List.forall_mem_cons.mpr ⟨am_tk_62, List.forall_mem_cons.mpr ⟨am_tk_63, fun _ h => absurd h List.not_mem_nil⟩⟩⟩⟩⟩⟩⟩⟩⟩⟩⟩⟩⟩⟩⟩⟩
def am_tri_4 : List am_T3 := [(64, am_ct_64, am_ps_64), (65, am_ct_65, am_ps_65), (66, am_ct_66, am_ps_66), (67, am_ct_67, am_ps_67), (68, am_ct_68, am_ps_68), (69, am_ct_69, am_ps_69), (70, am_ct_70, am_ps_70), (71, am_ct_71, am_ps_71), (72, am_ct_72, am_ps_72), (73, am_ct_73, am_ps_73), (74, am_ct_74, am_ps_74), (75, am_ct_75, am_ps_75), (76, am_ct_76, am_ps_76), (77, am_ct_77, am_ps_77), (78, am_ct_78, am_ps_78), (79, am_ct_79, am_ps_79)]
theorem am_tri_ok_4 : ∀ t ∈ am_tri_4, am_trok t := List.forall_mem_cons.mpr ⟨am_tk_64, List.forall_mem_cons.mpr ⟨am_tk_65, List.forall_mem_cons.mpr ⟨am_tk_66, List.forall_mem_cons.mpr ⟨am_tk_67, List.forall_mem_cons.mpr ⟨am_tk_68, List.forall_mem_cons.mpr ⟨am_tk_69, List.forall_mem_cons.mpr ⟨am_tk_70, List.forall_mem_cons.mpr ⟨am_tk_71, List.forall_mem_cons.mpr ⟨am_tk_72, List.forall_mem_cons.mpr ⟨am_tk_73, List.forall_mem_cons.mpr ⟨am_tk_74, List.forall_mem_cons.mpr ⟨am_tk_75, List.forall_mem_cons.mpr ⟨am_tk_76, List.forall_mem_cons.mpr ⟨am_tk_77, List.forall_mem_cons.mpr ⟨am_tk_78, List.forall_mem_cons.mpr ⟨am_tk_79, fun _ h => absurd h List.not_mem_nil⟩⟩⟩⟩⟩⟩⟩⟩⟩⟩⟩⟩⟩⟩⟩⟩
def am_tri_5 : List am_T3 := [(80, am_ct_80, am_ps_80), (81, am_ct_81, am_ps_81), (82, am_ct_82, am_ps_82), (83, am_ct_83, am_ps_83), (84, am_ct_84, am_ps_84), (85, am_ct_85, am_ps_85), (86, am_ct_86, am_ps_86), (87, am_ct_87, am_ps_87), (88, am_ct_88, am_ps_88), (89, am_ct_89, am_ps_89), (90, am_ct_90, am_ps_90), (91, am_ct_91, am_ps_91), (92, am_ct_92, am_ps_92), (93, am_ct_93, am_ps_93), (94, am_ct_94, am_ps_94), (95, am_ct_95, am_ps_95)]
theorem am_tri_ok_5 : ∀ t ∈ am_tri_5, am_trok t := List.forall_mem_cons.mpr ⟨am_tk_80, List.forall_mem_cons.mpr ⟨am_tk_81, List.forall_mem_cons.mpr ⟨am_tk_82, List.forall_mem_cons.mpr ⟨am_tk_83, List.forall_mem_cons.mpr ⟨am_tk_84, List.forall_mem_cons.mpr ⟨am_tk_85, List.forall_mem_cons.mpr ⟨am_tk_86, List.forall_mem_cons.mpr ⟨am_tk_87, List.forall_mem_cons.mpr ⟨am_tk_88, List.forall_mem_cons.mpr ⟨am_tk_89, List.forall_mem_cons.mpr ⟨am_tk_90, List.forall_mem_cons.mpr ⟨am_tk_91, List.forall_mem_cons.mpr ⟨am_tk_92, List.forall_mem_cons.mpr ⟨am_tk_93, List.forall_mem_cons.mpr ⟨am_tk_94, List.forall_mem_cons.mpr ⟨am_tk_95, fun _ h => absurd h List.not_mem_nil⟩⟩⟩⟩⟩⟩⟩⟩⟩⟩⟩⟩⟩⟩⟩⟩
def am_tri_6 : List am_T3 := [(96, am_ct_96, am_ps_96), (97, am_ct_97, am_ps_97), (98, am_ct_98, am_ps_98), (99, am_ct_99, am_ps_99), (100, am_ct_100, am_ps_100), (101, am_ct_101, am_ps_101), (102, am_ct_102, am_ps_102), (103, am_ct_103, am_ps_103), (104, am_ct_104, am_ps_104), (105, am_ct_105, am_ps_105), (106, am_ct_106, am_ps_106)]
theorem am_tri_ok_6 : ∀ t ∈ am_tri_6, am_trok t := List.forall_mem_cons.mpr ⟨am_tk_96, List.forall_mem_cons.mpr ⟨am_tk_97, List.forall_mem_cons.mpr ⟨am_tk_98, List.forall_mem_cons.mpr ⟨am_tk_99, List.forall_mem_cons.mpr ⟨am_tk_100, List.forall_mem_cons.mpr ⟨am_tk_101, List.forall_mem_cons.mpr ⟨am_tk_102, List.forall_mem_cons.mpr ⟨am_tk_103, List.forall_mem_cons.mpr ⟨am_tk_104, List.forall_mem_cons.mpr ⟨am_tk_105, List.forall_mem_cons.mpr ⟨am_tk_106, fun _ h => absurd h List.not_mem_nil⟩⟩⟩⟩⟩⟩⟩⟩⟩⟩⟩
def am_tri : List am_T3 := am_tri_0 ++ (am_tri_1 ++ (am_tri_2 ++ (am_tri_3 ++ (am_tri_4 ++ (am_tri_5 ++ (am_tri_6))))))
theorem am_tri_all : ∀ t ∈ am_tri, am_trok t := List.forall_mem_append.mpr ⟨am_tri_ok_0, List.forall_mem_append.mpr ⟨am_tri_ok_1, List.forall_mem_append.mpr ⟨am_tri_ok_2, List.forall_mem_append.mpr ⟨am_tri_ok_3, List.forall_mem_append.mpr ⟨am_tri_ok_4, List.forall_mem_append.mpr ⟨am_tri_ok_5, am_tri_ok_6⟩⟩⟩⟩⟩⟩
set_option maxRecDepth 100000 in
theorem am_tri_cts : am_cts = am_tri.map (fun t => t.2.1) := rfl
set_option maxRecDepth 100000 in
theorem am_tri_ix : am_tri.map (fun t => t.1) = List.range 107 := by decide +kernel
theorem am_tri_at {i : Nat} {q : Nat × Instr × Nat × Nat × Nat × Nat} (h : q ∈ am_ct i) : ∃ t ∈ am_tri, t.1 = i ∧ t.2.1 = am_ct i := by
  unfold am_ct at h ⊢
  have hi : i < am_cts.length := by
    rcases Nat.lt_or_ge i am_cts.length with z | z
    · exact z
    · rw [List.getD_eq_getElem?_getD, List.getElem?_eq_none z] at h
      cases h
  have hl : am_cts.length = am_tri.length := by rw [am_tri_cts, List.length_map]
  have ht : am_tri[i]? = some (am_tri[i]'(by omega)) := List.getElem?_eq_getElem (by omega)
  refine ⟨_, List.mem_of_getElem? ht, ?_, ?_⟩
  · have h1 : (am_tri.map (fun t => t.1))[i]? = some (am_tri[i]'(by omega)).1 := by rw [List.getElem?_map, ht]; rfl
    rw [am_tri_ix, List.getElem?_eq_some_iff] at h1
    obtain ⟨h2, h3⟩ := h1
    rw [List.getElem_range] at h3
    exact h3.symm
  · have h1 : am_cts[i]? = some (am_tri[i]'(by omega)).2.1 := by rw [am_tri_cts, List.getElem?_map, ht]; rfl
    rw [List.getD_eq_getElem?_getD, h1]
    rfl
theorem am_fetch_mem {i pc : Nat} {q : Instr × Nat × Nat × Nat × Nat} (h : am_fetch i pc = some q) : (pc, q) ∈ am_ct i := by
  unfold am_fetch at h
  obtain ⟨z, h1, h2⟩ := Option.map_eq_some_iff.mp h
  have h3 := List.find?_some h1
  have h4 := List.mem_of_find?_eq_some h1
  rw [beq_iff_eq] at h3
  rw [← h3, ← h2]
  exact h4
def am_rowfacts (i pc : Nat) (q : Instr × Nat × Nat × Nat × Nat) : Prop := decode (am_b i) pc = .ok (q.1, q.2.1) ∧ am_chk i (pc, q) = true ∧ (∀ w ∈ am_word i (pc, q), w ∈ am_GW) ∧ (∀ w ∈ am_nword i (pc, q), w ∈ am_NW)
theorem am_row_of {i pc : Nat} {q : Instr × Nat × Nat × Nat × Nat} (h : am_fetch i pc = some q) : am_rowfacts i pc q := by
  have hm := am_fetch_mem h
  obtain ⟨t, ht, h1, h2⟩ := am_tri_at hm
  obtain ⟨h3, h4⟩ := am_tri_all t ht
  rw [← h2] at hm
  obtain ⟨j, hj⟩ := List.getElem?_of_mem hm
  have hlt : j < t.2.1.length := (List.getElem?_eq_some_iff.mp hj).1
  have hz : (t.2.1.zip t.2.2)[j]? = some ((pc, q), t.2.2[j]'(by omega)) := by
    rw [List.getElem?_zip_eq_some]
    exact ⟨hj, List.getElem?_eq_getElem (by omega)⟩
  have h5 := List.all_eq_true.mp h3 _ (List.mem_of_getElem? hz)
  rw [h1] at h5
  unfold am_row2 am_rowok at h5
  simp only [Bool.and_eq_true, decide_eq_true_eq] at h5
  obtain ⟨⟨a1, a2⟩, a3, a4, a5⟩ := h5
  have key : ∀ w ∈ am_word i (pc, q) ++ am_nword i (pc, q), w ∈ lw_tbl := by
    intro w hw
    have hw2 : some w ∈ (am_word i (pc, q) ++ am_nword i (pc, q)).map some := List.mem_map_of_mem hw
    rw [a3] at hw2
    obtain ⟨p, -, hp⟩ := List.mem_map.mp hw2
    exact List.mem_of_getElem? hp
  exact ⟨a1, a2, fun w hw => List.mem_filter.mpr ⟨key w (List.mem_append_left _ hw), List.all_eq_true.mp a4 w hw⟩, fun w hw => List.mem_filter.mpr ⟨key w (List.mem_append_right _ hw), List.all_eq_true.mp a5 w hw⟩⟩
