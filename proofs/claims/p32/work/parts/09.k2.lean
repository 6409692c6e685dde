set_option maxRecDepth 100000 in
theorem am_k_0_0 : (((am_ct_0.zip am_ps_0).drop 0).take 100).all (am_row2 0) = true := by decide +kernel
set_option maxRecDepth 100000 in
theorem am_k_1_0 : (((am_ct_1.zip am_ps_1).drop 0).take 100).all (am_row2 1) = true := by decide +kernel
set_option maxRecDepth 100000 in
theorem am_k_2_0 : (((am_ct_2.zip am_ps_2).drop 0).take 100).all (am_row2 2) = true := by decide +kernel
set_option maxRecDepth 100000 in
theorem am_k_3_0 : (((am_ct_3.zip am_ps_3).drop 0).take 100).all (am_row2 3) = true := by decide +kernel
set_option maxRecDepth 100000 in
theorem am_k_4_0 : (((am_ct_4.zip am_ps_4).drop 0).take 100).all (am_row2 4) = true := by decide +kernel
set_option maxRecDepth 100000 in
theorem am_k_5_0 : (((am_ct_5.zip am_ps_5).drop 0).take 100).all (am_row2 5) = true := by decide +kernel
set_option maxRecDepth 100000 in
theorem am_k_6_0 : (((am_ct_6.zip am_ps_6).drop 0).take 100).all (am_row2 6) = true := by decide +kernel
set_option maxRecDepth 100000 in
theorem am_k_7_0 : (((am_ct_7.zip am_ps_7).drop 0).take 100).all (am_row2 7) = true := by decide +kernel
set_option maxRecDepth 100000 in
theorem am_k_8_0 : (((am_ct_8.zip am_ps_8).drop 0).take 100).all (am_row2 8) = true := by decide +kernel
set_option maxRecDepth 100000 in
theorem am_k_9_0 : (((am_ct_9.zip am_ps_9).drop 0).take 100).all (am_row2 9) = true := by decide +kernel
set_option maxRecDepth 100000 in
theorem am_k_10_0 : (((am_ct_10.zip am_ps_10).drop 0).take 100).all (am_row2 10) = true := by decide +kernel
set_option maxRecDepth 100000 in
theorem am_k_11_0 : (((am_ct_11.zip am_ps_11).drop 0).take 100).all (am_row2 11) = true := by decide +kernel
set_option maxRecDepth 100000 in
theorem am_k_12_0 : (((am_ct_12.zip am_ps_12).drop 0).take 100).all (am_row2 12) = true := by decide +kernel
set_option maxRecDepth 100000 in
theorem am_k_13_0 : (((am_ct_13.zip am_ps_13).drop 0).take 100).all (am_row2 13) = true := by decide +kernel
set_option maxRecDepth 100000 in
theorem am_k_14_0 : (((am_ct_14.zip am_ps_14).drop 0).take 100).all (am_row2 14) = true := by decide +kernel
set_option maxRecDepth 100000 in
theorem am_k_15_0 : (((am_ct_15.zip am_ps_15).drop 0).take 100).all (am_row2 15) = true := by decide +kernel
set_option maxRecDepth 100000 in
theorem am_k_16_0 : (((am_ct_16.zip am_ps_16).drop 0).take 100).all (am_row2 16) = true := by decide +kernel
set_option maxRecDepth 100000 in
theorem am_k_17_0 : (((am_ct_17.zip am_ps_17).drop 0).take 100).all (am_row2 17) = true := by decide +kernel
set_option maxRecDepth 100000 in
theorem am_k_18_0 : (((am_ct_18.zip am_ps_18).drop 0).take 100).all (am_row2 18) = true := by decide +kernel
set_option maxRecDepth 100000 in
theorem am_k_19_0 : (((am_ct_19.zip am_ps_19).drop 0).take 100).all (am_row2 19) = true := by decide +kernel
set_option maxRecDepth 100000 in
theorem am_k_20_0 : (((am_ct_20.zip am_ps_20).drop 0).take 100).all (am_row2 20) = true := by decide +kernel
set_option maxRecDepth 100000 in
theorem am_k_21_0 : (((am_ct_21.zip am_ps_21).drop 0).take 100).all (am_row2 21) = true := by decide +kernel
set_option maxRecDepth 100000 in
theorem am_k_22_0 : (((am_ct_22.zip am_ps_22).drop 0).take 100).all (am_row2 22) = true := by decide +kernel
set_option maxRecDepth 100000 in
theorem am_k_23_0 : (((am_ct_23.zip am_ps_23).drop 0).take 100).all (am_row2 23) = true := by decide +kernel
set_option maxRecDepth 100000 in
theorem am_k_24_0 : (((am_ct_24.zip am_ps_24).drop 0).take 100).all (am_row2 24) = true := by decide +kernel
set_option maxRecDepth 100000 in
theorem am_k_25_0 : (((am_ct_25.zip am_ps_25).drop 0).take 100).all (am_row2 25) = true := by decide +kernel
set_option maxRecDepth 100000 in
theorem am_k_26_0 : (((am_ct_26.zip am_ps_26).drop 0).take 100).all (am_row2 26) = true := by decide +kernel
set_option maxRecDepth 100000 in
theorem am_k_27_0 : (((am_ct_27.zip am_ps_27).drop 0).take 100).all (am_row2 27) = true := by decide +kernel
set_option maxRecDepth 100000 in
theorem am_k_28_0 : (((am_ct_28.zip am_ps_28).drop 0).take 100).all (am_row2 28) = true := by decide +kernel
set_option maxRecDepth 100000 in
theorem am_k_29_0 : (((am_ct_29.zip am_ps_29).drop 0).take 100).all (am_row2 29) = true := by decide +kernel
set_option maxRecDepth 100000 in
theorem am_k_30_0 : (((am_ct_30.zip am_ps_30).drop 0).take 100).all (am_row2 30) = true := by decide +kernel
set_option maxRecDepth 100000 in
theorem am_k_31_0 : (((am_ct_31.zip am_ps_31).drop 0).take 100).all (am_row2 31) = true := by decide +kernel
set_option maxRecDepth 100000 in
theorem am_k_32_0 : (((am_ct_32.zip am_ps_32).drop 0).take 100).all (am_row2 32) = true := by decide +kernel
set_option maxRecDepth 100000 in
theorem am_k_33_0 : (((am_ct_33.zip am_ps_33).drop 0).take 100).all (am_row2 33) = true := by decide +kernel
set_option maxRecDepth 100000 in
theorem am_k_34_0 : (((am_ct_34.zip am_ps_34).drop 0).take 100).all (am_row2 34) = true := by decide +kernel
set_option maxRecDepth 100000 in
theorem am_k_35_0 : (((am_ct_35.zip am_ps_35).drop 0).take 100).all (am_row2 35) = true := by decide +kernel
set_option maxRecDepth 100000 in
theorem am_k_36_0 : (((am_ct_36.zip am_ps_36).drop 0).take 100).all (am_row2 36) = true := by decide +kernel
set_option maxRecDepth 100000 in
theorem am_k_37_0 : (((am_ct_37.zip am_ps_37).drop 0).take 100).all (am_row2 37) = true := by decide +kernel
set_option maxRecDepth 100000 in
theorem am_k_38_0 : (((am_ct_38.zip am_ps_38).drop 0).take 100).all (am_row2 38) = true := by decide +kernel
set_option maxRecDepth 100000 in
theorem am_k_39_0 : (((am_ct_39.zip am_ps_39).drop 0).take 100).all (am_row2 39) = true := by decide +kernel
set_option maxRecDepth 100000 in
theorem am_k_40_0 : (((am_ct_40.zip am_ps_40).drop 0).take 100).all (am_row2 40) = true := by decide +kernel
set_option maxRecDepth 100000 in
theorem am_k_41_0 : (((am_ct_41.zip am_ps_41).drop 0).take 100).all (am_row2 41) = true := by decide +kernel
set_option maxRecDepth 100000 in
theorem am_k_42_0 : (((am_ct_42.zip am_ps_42).drop 0).take 100).all (am_row2 42) = true := by decide +kernel
set_option maxRecDepth 100000 in
theorem am_k_43_0 : (((am_ct_43.zip am_ps_43).drop 0).take 100).all (am_row2 43) = true := by decide +kernel
set_option maxRecDepth 100000 in
theorem am_k_44_0 : (((am_ct_44.zip am_ps_44).drop 0).take 100).all (am_row2 44) = true := by decide +kernel
set_option maxRecDepth 100000 in
theorem am_k_46_0 : (((am_ct_46.zip am_ps_46).drop 0).take 100).all (am_row2 46) = true := by decide +kernel
set_option maxRecDepth 100000 in
theorem am_k_47_0 : (((am_ct_47.zip am_ps_47).drop 0).take 100).all (am_row2 47) = true := by decide +kernel
set_option maxRecDepth 100000 in
theorem am_k_49_0 : (((am_ct_49.zip am_ps_49).drop 0).take 100).all (am_row2 49) = true := by decide +kernel
set_option maxRecDepth 100000 in
theorem am_k_50_0 : (((am_ct_50.zip am_ps_50).drop 0).take 100).all (am_row2 50) = true := by decide +kernel
set_option maxRecDepth 100000 in
theorem am_k_51_0 : (((am_ct_51.zip am_ps_51).drop 0).take 100).all (am_row2 51) = true := by decide +kernel
set_option maxRecDepth 100000 in
theorem am_k_52_0 : (((am_ct_52.zip am_ps_52).drop 0).take 100).all (am_row2 52) = true := by decide +kernel
set_option maxRecDepth 100000 in
theorem am_k_53_0 : (((am_ct_53.zip am_ps_53).drop 0).take 100).all (am_row2 53) = true := by decide +kernel
set_option maxRecDepth 100000 in
theorem am_k_54_0 : (((am_ct_54.zip am_ps_54).drop 0).take 100).all (am_row2 54) = true := by decide +kernel
set_option maxRecDepth 100000 in
theorem am_k_55_0 : (((am_ct_55.zip am_ps_55).drop 0).take 100).all (am_row2 55) = true := by decide +kernel
set_option maxRecDepth 100000 in
theorem am_k_56_0 : (((am_ct_56.zip am_ps_56).drop 0).take 100).all (am_row2 56) = true := by decide +kernel
set_option maxRecDepth 100000 in
theorem am_k_57_0 : (((am_ct_57.zip am_ps_57).drop 0).take 100).all (am_row2 57) = true := by decide +kernel
set_option maxRecDepth 100000 in
theorem am_k_58_0 : (((am_ct_58.zip am_ps_58).drop 0).take 100).all (am_row2 58) = true := by decide +kernel
set_option maxRecDepth 100000 in
theorem am_k_59_0 : (((am_ct_59.zip am_ps_59).drop 0).take 100).all (am_row2 59) = true := by decide +kernel
set_option maxRecDepth 100000 in
theorem am_k_60_0 : (((am_ct_60.zip am_ps_60).drop 0).take 100).all (am_row2 60) = true := by decide +kernel
set_option maxRecDepth 100000 in
theorem am_k_61_0 : (((am_ct_61.zip am_ps_61).drop 0).take 100).all (am_row2 61) = true := by decide +kernel
set_option maxRecDepth 100000 in
theorem am_k_62_0 : (((am_ct_62.zip am_ps_62).drop 0).take 100).all (am_row2 62) = true := by decide +kernel
set_option maxRecDepth 100000 in
theorem am_k_63_0 : (((am_ct_63.zip am_ps_63).drop 0).take 100).all (am_row2 63) = true := by decide +kernel
set_option maxRecDepth 100000 in
theorem am_k_64_0 : (((am_ct_64.zip am_ps_64).drop 0).take 100).all (am_row2 64) = true := by decide +kernel
set_option maxRecDepth 100000 in
theorem am_k_65_0 : (((am_ct_65.zip am_ps_65).drop 0).take 100).all (am_row2 65) = true := by decide +kernel
set_option maxRecDepth 100000 in
theorem am_k_67_0 : (((am_ct_67.zip am_ps_67).drop 0).take 100).all (am_row2 67) = true := by decide +kernel
set_option maxRecDepth 100000 in
theorem am_k_68_0 : (((am_ct_68.zip am_ps_68).drop 0).take 100).all (am_row2 68) = true := by decide +kernel
set_option maxRecDepth 100000 in
theorem am_k_69_0 : (((am_ct_69.zip am_ps_69).drop 0).take 100).all (am_row2 69) = true := by decide +kernel
set_option maxRecDepth 100000 in
theorem am_k_70_0 : (((am_ct_70.zip am_ps_70).drop 0).take 100).all (am_row2 70) = true := by decide +kernel
set_option maxRecDepth 100000 in
theorem am_k_71_0 : (((am_ct_71.zip am_ps_71).drop 0).take 100).all (am_row2 71) = true := by decide +kernel
set_option maxRecDepth 100000 in
theorem am_k_72_0 : (((am_ct_72.zip am_ps_72).drop 0).take 100).all (am_row2 72) = true := by decide +kernel
set_option maxRecDepth 100000 in
theorem am_k_73_0 : (((am_ct_73.zip am_ps_73).drop 0).take 100).all (am_row2 73) = true := by decide +kernel
set_option maxRecDepth 100000 in
theorem am_k_74_0 : (((am_ct_74.zip am_ps_74).drop 0).take 100).all (am_row2 74) = true := by decide +kernel
set_option maxRecDepth 100000 in
theorem am_k_75_0 : (((am_ct_75.zip am_ps_75).drop 0).take 100).all (am_row2 75) = true := by decide +kernel
set_option maxRecDepth 100000 in
theorem am_k_76_0 : (((am_ct_76.zip am_ps_76).drop 0).take 100).all (am_row2 76) = true := by decide +kernel
set_option maxRecDepth 100000 in
theorem am_k_77_0 : (((am_ct_77.zip am_ps_77).drop 0).take 100).all (am_row2 77) = true := by decide +kernel
set_option maxRecDepth 100000 in
theorem am_k_78_0 : (((am_ct_78.zip am_ps_78).drop 0).take 100).all (am_row2 78) = true := by decide +kernel
set_option maxRecDepth 100000 in
theorem am_k_79_0 : (((am_ct_79.zip am_ps_79).drop 0).take 100).all (am_row2 79) = true := by decide +kernel
set_option maxRecDepth 100000 in
theorem am_k_80_0 : (((am_ct_80.zip am_ps_80).drop 0).take 100).all (am_row2 80) = true := by decide +kernel
set_option maxRecDepth 100000 in
theorem am_k_81_0 : (((am_ct_81.zip am_ps_81).drop 0).take 100).all (am_row2 81) = true := by decide +kernel
set_option maxRecDepth 100000 in
theorem am_k_82_0 : (((am_ct_82.zip am_ps_82).drop 0).take 100).all (am_row2 82) = true := by decide +kernel
set_option maxRecDepth 100000 in
theorem am_k_83_0 : (((am_ct_83.zip am_ps_83).drop 0).take 100).all (am_row2 83) = true := by decide +kernel
set_option maxRecDepth 100000 in
theorem am_k_84_0 : (((am_ct_84.zip am_ps_84).drop 0).take 100).all (am_row2 84) = true := by decide +kernel
set_option maxRecDepth 100000 in
theorem am_k_85_0 : (((am_ct_85.zip am_ps_85).drop 0).take 100).all (am_row2 85) = true := by decide +kernel
set_option maxRecDepth 100000 in
theorem am_k_86_0 : (((am_ct_86.zip am_ps_86).drop 0).take 100).all (am_row2 86) = true := by decide +kernel
set_option maxRecDepth 100000 in
theorem am_k_87_0 : (((am_ct_87.zip am_ps_87).drop 0).take 100).all (am_row2 87) = true := by decide +kernel
set_option maxRecDepth 100000 in
theorem am_k_88_0 : (((am_ct_88.zip am_ps_88).drop 0).take 100).all (am_row2 88) = true := by decide +kernel
set_option maxRecDepth 100000 in
theorem am_k_89_0 : (((am_ct_89.zip am_ps_89).drop 0).take 100).all (am_row2 89) = true := by decide +kernel
set_option maxRecDepth 100000 in
theorem am_k_90_0 : (((am_ct_90.zip am_ps_90).drop 0).take 100).all (am_row2 90) = true := by decide +kernel
set_option maxRecDepth 100000 in
theorem am_k_91_0 : (((am_ct_91.zip am_ps_91).drop 0).take 100).all (am_row2 91) = true := by decide +kernel
set_option maxRecDepth 100000 in
theorem am_k_92_0 : (((am_ct_92.zip am_ps_92).drop 0).take 100).all (am_row2 92) = true := by decide +kernel
set_option maxRecDepth 100000 in
theorem am_k_93_0 : (((am_ct_93.zip am_ps_93).drop 0).take 100).all (am_row2 93) = true := by decide +kernel
set_option maxRecDepth 100000 in
theorem am_k_94_0 : (((am_ct_94.zip am_ps_94).drop 0).take 100).all (am_row2 94) = true := by decide +kernel
set_option maxRecDepth 100000 in
theorem am_k_95_0 : (((am_ct_95.zip am_ps_95).drop 0).take 100).all (am_row2 95) = true := by decide +kernel
set_option maxRecDepth 100000 in
theorem am_k_96_0 : (((am_ct_96.zip am_ps_96).drop 0).take 100).all (am_row2 96) = true := by decide +kernel
set_option maxRecDepth 100000 in
theorem am_k_97_0 : (((am_ct_97.zip am_ps_97).drop 0).take 100).all (am_row2 97) = true := by decide +kernel
set_option maxRecDepth 100000 in
theorem am_k_98_0 : (((am_ct_98.zip am_ps_98).drop 0).take 100).all (am_row2 98) = true := by decide +kernel
set_option maxRecDepth 100000 in
theorem am_k_99_0 : (((am_ct_99.zip am_ps_99).drop 0).take 100).all (am_row2 99) = true := by decide +kernel
set_option maxRecDepth 100000 in
theorem am_k_100_0 : (((am_ct_100.zip am_ps_100).drop 0).take 100).all (am_row2 100) = true := by decide +kernel
set_option maxRecDepth 100000 in
theorem am_k_101_0 : (((am_ct_101.zip am_ps_101).drop 0).take 100).all (am_row2 101) = true := by decide +kernel
set_option maxRecDepth 100000 in
theorem am_k_102_0 : (((am_ct_102.zip am_ps_102).drop 0).take 100).all (am_row2 102) = true := by decide +kernel
set_option maxRecDepth 100000 in
theorem am_k_103_0 : (((am_ct_103.zip am_ps_103).drop 0).take 100).all (am_row2 103) = true := by decide +kernel
