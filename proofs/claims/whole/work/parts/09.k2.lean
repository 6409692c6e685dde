set_option maxRecDepth 100000 in
theorem am_k_0_0 : (((am_ct_0.zip am_ps_0).drop 0).take 100).all (am_row2 0) = true := by decide +kernel
set_option maxRecDepth 100000 in
theorem am_k_1_0 : (((am_ct_1.zip am_ps_1).drop 0).take 100).all (am_row2 1) = true := by decide +kernel
set_option maxRecDepth 100000 in
theorem am_k_2_0 : (((am_ct_2.zip am_ps_2).drop 0).take 100).all (am_row2 2) = true := by decide +kernel
set_option maxRecDepth 100000 in
theorem am_k_3_0 : (((am_ct_3.zip am_ps_3).drop 0).take 100).all (am_row2 3) = true := by decide +kernel
set_option maxRecDepth 100000 in
theorem am_k_4_0 : (((am_ct_4.zip am_ps_4).drop 0).take 100).all (am_row2 4) = true := by decide +kernel
set_option maxRecDepth 100000 in
theorem am_k_5_0 : (((am_ct_5.zip am_ps_5).drop 0).take 100).all (am_row2 5) = true := by decide +kernel
set_option maxRecDepth 100000 in
theorem am_k_6_0 : (((am_ct_6.zip am_ps_6).drop 0).take 100).all (am_row2 6) = true := by decide +kernel
set_option maxRecDepth 100000 in
theorem am_k_7_0 : (((am_ct_7.zip am_ps_7).drop 0).take 100).all (am_row2 7) = true := by decide +kernel
set_option maxRecDepth 100000 in
theorem am_k_8_0 : (((am_ct_8.zip am_ps_8).drop 0).take 100).all (am_row2 8) = true := by decide +kernel
set_option maxRecDepth 100000 in
theorem am_k_9_0 : (((am_ct_9.zip am_ps_9).drop 0).take 100).all (am_row2 9) = true := by decide +kernel
set_option maxRecDepth 100000 in
theorem am_k_10_0 : (((am_ct_10.zip am_ps_10).drop 0).take 100).all (am_row2 10) = true := by decide +kernel
set_option maxRecDepth 100000 in
theorem am_k_11_0 : (((am_ct_11.zip am_ps_11).drop 0).take 100).all (am_row2 11) = true := by decide +kernel
set_option maxRecDepth 100000 in
theorem am_k_13_0 : (((am_ct_13.zip am_ps_13).drop 0).take 100).all (am_row2 13) = true := by decide +kernel
set_option maxRecDepth 100000 in
theorem am_k_14_0 : (((am_ct_14.zip am_ps_14).drop 0).take 100).all (am_row2 14) = true := by decide +kernel
set_option maxRecDepth 100000 in
theorem am_k_15_0 : (((am_ct_15.zip am_ps_15).drop 0).take 100).all (am_row2 15) = true := by decide +kernel
set_option maxRecDepth 100000 in
theorem am_k_16_0 : (((am_ct_16.zip am_ps_16).drop 0).take 100).all (am_row2 16) = true := by decide +kernel
set_option maxRecDepth 100000 in
theorem am_k_17_0 : (((am_ct_17.zip am_ps_17).drop 0).take 100).all (am_row2 17) = true := by decide +kernel
set_option maxRecDepth 100000 in
theorem am_k_18_0 : (((am_ct_18.zip am_ps_18).drop 0).take 100).all (am_row2 18) = true := by decide +kernel
set_option maxRecDepth 100000 in
theorem am_k_19_0 : (((am_ct_19.zip am_ps_19).drop 0).take 100).all (am_row2 19) = true := by decide +kernel
set_option maxRecDepth 100000 in
theorem am_k_20_0 : (((am_ct_20.zip am_ps_20).drop 0).take 100).all (am_row2 20) = true := by decide +kernel
set_option maxRecDepth 100000 in
theorem am_k_21_0 : (((am_ct_21.zip am_ps_21).drop 0).take 100).all (am_row2 21) = true := by decide +kernel
set_option maxRecDepth 100000 in
theorem am_k_22_0 : (((am_ct_22.zip am_ps_22).drop 0).take 100).all (am_row2 22) = true := by decide +kernel
set_option maxRecDepth 100000 in
theorem am_k_23_0 : (((am_ct_23.zip am_ps_23).drop 0).take 100).all (am_row2 23) = true := by decide +kernel
set_option maxRecDepth 100000 in
theorem am_k_24_0 : (((am_ct_24.zip am_ps_24).drop 0).take 100).all (am_row2 24) = true := by decide +kernel
set_option maxRecDepth 100000 in
theorem am_k_25_0 : (((am_ct_25.zip am_ps_25).drop 0).take 100).all (am_row2 25) = true := by decide +kernel
set_option maxRecDepth 100000 in
theorem am_k_36_0 : (((am_ct_36.zip am_ps_36).drop 0).take 100).all (am_row2 36) = true := by decide +kernel
set_option maxRecDepth 100000 in
theorem am_k_37_0 : (((am_ct_37.zip am_ps_37).drop 0).take 100).all (am_row2 37) = true := by decide +kernel
set_option maxRecDepth 100000 in
theorem am_k_38_0 : (((am_ct_38.zip am_ps_38).drop 0).take 100).all (am_row2 38) = true := by decide +kernel
set_option maxRecDepth 100000 in
theorem am_k_39_0 : (((am_ct_39.zip am_ps_39).drop 0).take 100).all (am_row2 39) = true := by decide +kernel
set_option maxRecDepth 100000 in
theorem am_k_40_0 : (((am_ct_40.zip am_ps_40).drop 0).take 100).all (am_row2 40) = true := by decide +kernel
set_option maxRecDepth 100000 in
theorem am_k_41_0 : (((am_ct_41.zip am_ps_41).drop 0).take 100).all (am_row2 41) = true := by decide +kernel
set_option maxRecDepth 100000 in
theorem am_k_42_0 : (((am_ct_42.zip am_ps_42).drop 0).take 100).all (am_row2 42) = true := by decide +kernel
set_option maxRecDepth 100000 in
theorem am_k_43_0 : (((am_ct_43.zip am_ps_43).drop 0).take 100).all (am_row2 43) = true := by decide +kernel
set_option maxRecDepth 100000 in
theorem am_k_51_0 : (((am_ct_51.zip am_ps_51).drop 0).take 100).all (am_row2 51) = true := by decide +kernel
set_option maxRecDepth 100000 in
theorem am_k_52_0 : (((am_ct_52.zip am_ps_52).drop 0).take 100).all (am_row2 52) = true := by decide +kernel
set_option maxRecDepth 100000 in
theorem am_k_53_0 : (((am_ct_53.zip am_ps_53).drop 0).take 100).all (am_row2 53) = true := by decide +kernel
set_option maxRecDepth 100000 in
theorem am_k_55_0 : (((am_ct_55.zip am_ps_55).drop 0).take 100).all (am_row2 55) = true := by decide +kernel
set_option maxRecDepth 100000 in
theorem am_k_56_0 : (((am_ct_56.zip am_ps_56).drop 0).take 100).all (am_row2 56) = true := by decide +kernel
set_option maxRecDepth 100000 in
theorem am_k_57_0 : (((am_ct_57.zip am_ps_57).drop 0).take 100).all (am_row2 57) = true := by decide +kernel
set_option maxRecDepth 100000 in
theorem am_k_58_0 : (((am_ct_58.zip am_ps_58).drop 0).take 100).all (am_row2 58) = true := by decide +kernel
set_option maxRecDepth 100000 in
theorem am_k_61_0 : (((am_ct_61.zip am_ps_61).drop 0).take 100).all (am_row2 61) = true := by decide +kernel
set_option maxRecDepth 100000 in
theorem am_k_62_0 : (((am_ct_62.zip am_ps_62).drop 0).take 100).all (am_row2 62) = true := by decide +kernel
set_option maxRecDepth 100000 in
theorem am_k_64_0 : (((am_ct_64.zip am_ps_64).drop 0).take 100).all (am_row2 64) = true := by decide +kernel
set_option maxRecDepth 100000 in
theorem am_k_65_0 : (((am_ct_65.zip am_ps_65).drop 0).take 100).all (am_row2 65) = true := by decide +kernel
set_option maxRecDepth 100000 in
theorem am_k_66_0 : (((am_ct_66.zip am_ps_66).drop 0).take 100).all (am_row2 66) = true := by decide +kernel
set_option maxRecDepth 100000 in
theorem am_k_67_0 : (((am_ct_67.zip am_ps_67).drop 0).take 100).all (am_row2 67) = true := by decide +kernel
set_option maxRecDepth 100000 in
theorem am_k_71_0 : (((am_ct_71.zip am_ps_71).drop 0).take 100).all (am_row2 71) = true := by decide +kernel
set_option maxRecDepth 100000 in
theorem am_k_72_0 : (((am_ct_72.zip am_ps_72).drop 0).take 100).all (am_row2 72) = true := by decide +kernel
set_option maxRecDepth 100000 in
theorem am_k_73_0 : (((am_ct_73.zip am_ps_73).drop 0).take 100).all (am_row2 73) = true := by decide +kernel
set_option maxRecDepth 100000 in
theorem am_k_74_0 : (((am_ct_74.zip am_ps_74).drop 0).take 100).all (am_row2 74) = true := by decide +kernel
set_option maxRecDepth 100000 in
theorem am_k_75_0 : (((am_ct_75.zip am_ps_75).drop 0).take 100).all (am_row2 75) = true := by decide +kernel
set_option maxRecDepth 100000 in
theorem am_k_76_0 : (((am_ct_76.zip am_ps_76).drop 0).take 100).all (am_row2 76) = true := by decide +kernel
set_option maxRecDepth 100000 in
theorem am_k_77_0 : (((am_ct_77.zip am_ps_77).drop 0).take 100).all (am_row2 77) = true := by decide +kernel
set_option maxRecDepth 100000 in
theorem am_k_78_0 : (((am_ct_78.zip am_ps_78).drop 0).take 100).all (am_row2 78) = true := by decide +kernel
set_option maxRecDepth 100000 in
theorem am_k_79_0 : (((am_ct_79.zip am_ps_79).drop 0).take 100).all (am_row2 79) = true := by decide +kernel
set_option maxRecDepth 100000 in
theorem am_k_80_0 : (((am_ct_80.zip am_ps_80).drop 0).take 100).all (am_row2 80) = true := by decide +kernel
set_option maxRecDepth 100000 in
theorem am_k_81_0 : (((am_ct_81.zip am_ps_81).drop 0).take 100).all (am_row2 81) = true := by decide +kernel
set_option maxRecDepth 100000 in
theorem am_k_82_0 : (((am_ct_82.zip am_ps_82).drop 0).take 100).all (am_row2 82) = true := by decide +kernel
set_option maxRecDepth 100000 in
theorem am_k_91_0 : (((am_ct_91.zip am_ps_91).drop 0).take 100).all (am_row2 91) = true := by decide +kernel
set_option maxRecDepth 100000 in
theorem am_k_92_0 : (((am_ct_92.zip am_ps_92).drop 0).take 100).all (am_row2 92) = true := by decide +kernel
set_option maxRecDepth 100000 in
theorem am_k_93_0 : (((am_ct_93.zip am_ps_93).drop 0).take 100).all (am_row2 93) = true := by decide +kernel
set_option maxRecDepth 100000 in
theorem am_k_94_0 : (((am_ct_94.zip am_ps_94).drop 0).take 100).all (am_row2 94) = true := by decide +kernel
set_option maxRecDepth 100000 in
theorem am_k_96_0 : (((am_ct_96.zip am_ps_96).drop 0).take 100).all (am_row2 96) = true := by decide +kernel
set_option maxRecDepth 100000 in
theorem am_k_97_0 : (((am_ct_97.zip am_ps_97).drop 0).take 100).all (am_row2 97) = true := by decide +kernel
set_option maxRecDepth 100000 in
theorem am_k_98_0 : (((am_ct_98.zip am_ps_98).drop 0).take 100).all (am_row2 98) = true := by decide +kernel
set_option maxRecDepth 100000 in
theorem am_k_99_0 : (((am_ct_99.zip am_ps_99).drop 0).take 100).all (am_row2 99) = true := by decide +kernel
set_option maxRecDepth 100000 in
theorem am_k_101_0 : (((am_ct_101.zip am_ps_101).drop 0).take 100).all (am_row2 101) = true := by decide +kernel
set_option maxRecDepth 100000 in
theorem am_k_102_0 : (((am_ct_102.zip am_ps_102).drop 0).take 100).all (am_row2 102) = true := by decide +kernel
set_option maxRecDepth 100000 in
theorem am_k_104_0 : (((am_ct_104.zip am_ps_104).drop 0).take 100).all (am_row2 104) = true := by decide +kernel
set_option maxRecDepth 100000 in
theorem am_k_105_0 : (((am_ct_105.zip am_ps_105).drop 0).take 100).all (am_row2 105) = true := by decide +kernel
set_option maxRecDepth 100000 in
theorem am_k_106_0 : (((am_ct_106.zip am_ps_106).drop 0).take 100).all (am_row2 106) = true := by decide +kernel
set_option maxRecDepth 100000 in
theorem am_k_107_0 : (((am_ct_107.zip am_ps_107).drop 0).take 100).all (am_row2 107) = true := by decide +kernel
set_option maxRecDepth 100000 in
theorem am_k_108_0 : (((am_ct_108.zip am_ps_108).drop 0).take 100).all (am_row2 108) = true := by decide +kernel
set_option maxRecDepth 100000 in
theorem am_k_109_0 : (((am_ct_109.zip am_ps_109).drop 0).take 100).all (am_row2 109) = true := by decide +kernel
set_option maxRecDepth 100000 in
theorem am_k_110_0 : (((am_ct_110.zip am_ps_110).drop 0).take 100).all (am_row2 110) = true := by decide +kernel
set_option maxRecDepth 100000 in
theorem am_k_111_0 : (((am_ct_111.zip am_ps_111).drop 0).take 100).all (am_row2 111) = true := by decide +kernel
set_option maxRecDepth 100000 in
theorem am_k_112_0 : (((am_ct_112.zip am_ps_112).drop 0).take 100).all (am_row2 112) = true := by decide +kernel
set_option maxRecDepth 100000 in
theorem am_k_113_0 : (((am_ct_113.zip am_ps_113).drop 0).take 100).all (am_row2 113) = true := by decide +kernel
set_option maxRecDepth 100000 in
theorem am_k_114_0 : (((am_ct_114.zip am_ps_114).drop 0).take 100).all (am_row2 114) = true := by decide +kernel
set_option maxRecDepth 100000 in
theorem am_k_115_0 : (((am_ct_115.zip am_ps_115).drop 0).take 100).all (am_row2 115) = true := by decide +kernel
set_option maxRecDepth 100000 in
theorem am_k_116_0 : (((am_ct_116.zip am_ps_116).drop 0).take 100).all (am_row2 116) = true := by decide +kernel
set_option maxRecDepth 100000 in
theorem am_k_117_0 : (((am_ct_117.zip am_ps_117).drop 0).take 100).all (am_row2 117) = true := by decide +kernel
set_option maxRecDepth 100000 in
theorem am_k_118_0 : (((am_ct_118.zip am_ps_118).drop 0).take 100).all (am_row2 118) = true := by decide +kernel
set_option maxRecDepth 100000 in
theorem am_k_128_0 : (((am_ct_128.zip am_ps_128).drop 0).take 100).all (am_row2 128) = true := by decide +kernel
set_option maxRecDepth 100000 in
theorem am_k_129_0 : (((am_ct_129.zip am_ps_129).drop 0).take 100).all (am_row2 129) = true := by decide +kernel
set_option maxRecDepth 100000 in
theorem am_k_130_0 : (((am_ct_130.zip am_ps_130).drop 0).take 100).all (am_row2 130) = true := by decide +kernel
set_option maxRecDepth 100000 in
theorem am_k_131_0 : (((am_ct_131.zip am_ps_131).drop 0).take 100).all (am_row2 131) = true := by decide +kernel
set_option maxRecDepth 100000 in
theorem am_k_132_0 : (((am_ct_132.zip am_ps_132).drop 0).take 100).all (am_row2 132) = true := by decide +kernel
set_option maxRecDepth 100000 in
theorem am_k_133_0 : (((am_ct_133.zip am_ps_133).drop 0).take 100).all (am_row2 133) = true := by decide +kernel
set_option maxRecDepth 100000 in
theorem am_k_134_0 : (((am_ct_134.zip am_ps_134).drop 0).take 100).all (am_row2 134) = true := by decide +kernel
set_option maxRecDepth 100000 in
theorem am_k_135_0 : (((am_ct_135.zip am_ps_135).drop 0).take 100).all (am_row2 135) = true := by decide +kernel
set_option maxRecDepth 100000 in
theorem am_k_136_0 : (((am_ct_136.zip am_ps_136).drop 0).take 100).all (am_row2 136) = true := by decide +kernel
set_option maxRecDepth 100000 in
theorem am_k_137_0 : (((am_ct_137.zip am_ps_137).drop 0).take 100).all (am_row2 137) = true := by decide +kernel
set_option maxRecDepth 100000 in
theorem am_k_139_0 : (((am_ct_139.zip am_ps_139).drop 0).take 100).all (am_row2 139) = true := by decide +kernel
set_option maxRecDepth 100000 in
theorem am_k_140_0 : (((am_ct_140.zip am_ps_140).drop 0).take 100).all (am_row2 140) = true := by decide +kernel
set_option maxRecDepth 100000 in
theorem am_k_141_0 : (((am_ct_141.zip am_ps_141).drop 0).take 100).all (am_row2 141) = true := by decide +kernel
set_option maxRecDepth 100000 in
theorem am_k_142_0 : (((am_ct_142.zip am_ps_142).drop 0).take 100).all (am_row2 142) = true := by decide +kernel
set_option maxRecDepth 100000 in
theorem am_k_143_0 : (((am_ct_143.zip am_ps_143).drop 0).take 100).all (am_row2 143) = true := by decide +kernel
set_option maxRecDepth 100000 in
theorem am_k_145_0 : (((am_ct_145.zip am_ps_145).drop 0).take 100).all (am_row2 145) = true := by decide +kernel
set_option maxRecDepth 100000 in
theorem am_k_146_0 : (((am_ct_146.zip am_ps_146).drop 0).take 100).all (am_row2 146) = true := by decide +kernel
set_option maxRecDepth 100000 in
theorem am_k_147_0 : (((am_ct_147.zip am_ps_147).drop 0).take 100).all (am_row2 147) = true := by decide +kernel
set_option maxRecDepth 100000 in
theorem am_k_150_0 : (((am_ct_150.zip am_ps_150).drop 0).take 100).all (am_row2 150) = true := by decide +kernel
set_option maxRecDepth 100000 in
theorem am_k_151_0 : (((am_ct_151.zip am_ps_151).drop 0).take 100).all (am_row2 151) = true := by decide +kernel
set_option maxRecDepth 100000 in
theorem am_k_152_0 : (((am_ct_152.zip am_ps_152).drop 0).take 100).all (am_row2 152) = true := by decide +kernel
set_option maxRecDepth 100000 in
theorem am_k_154_0 : (((am_ct_154.zip am_ps_154).drop 0).take 100).all (am_row2 154) = true := by decide +kernel
set_option maxRecDepth 100000 in
theorem am_k_155_0 : (((am_ct_155.zip am_ps_155).drop 0).take 100).all (am_row2 155) = true := by decide +kernel
set_option maxRecDepth 100000 in
theorem am_k_156_0 : (((am_ct_156.zip am_ps_156).drop 0).take 100).all (am_row2 156) = true := by decide +kernel
set_option maxRecDepth 100000 in
theorem am_k_157_0 : (((am_ct_157.zip am_ps_157).drop 0).take 100).all (am_row2 157) = true := by decide +kernel
set_option maxRecDepth 100000 in
theorem am_k_161_0 : (((am_ct_161.zip am_ps_161).drop 0).take 100).all (am_row2 161) = true := by decide +kernel
set_option maxRecDepth 100000 in
theorem am_k_162_0 : (((am_ct_162.zip am_ps_162).drop 0).take 100).all (am_row2 162) = true := by decide +kernel
set_option maxRecDepth 100000 in
theorem am_k_163_0 : (((am_ct_163.zip am_ps_163).drop 0).take 100).all (am_row2 163) = true := by decide +kernel
set_option maxRecDepth 100000 in
theorem am_k_164_0 : (((am_ct_164.zip am_ps_164).drop 0).take 100).all (am_row2 164) = true := by decide +kernel
set_option maxRecDepth 100000 in
theorem am_k_167_0 : (((am_ct_167.zip am_ps_167).drop 0).take 100).all (am_row2 167) = true := by decide +kernel
set_option maxRecDepth 100000 in
theorem am_k_168_0 : (((am_ct_168.zip am_ps_168).drop 0).take 100).all (am_row2 168) = true := by decide +kernel
set_option maxRecDepth 100000 in
theorem am_k_169_0 : (((am_ct_169.zip am_ps_169).drop 0).take 100).all (am_row2 169) = true := by decide +kernel
set_option maxRecDepth 100000 in
theorem am_k_172_0 : (((am_ct_172.zip am_ps_172).drop 0).take 100).all (am_row2 172) = true := by decide +kernel
set_option maxRecDepth 100000 in
theorem am_k_173_0 : (((am_ct_173.zip am_ps_173).drop 0).take 100).all (am_row2 173) = true := by decide +kernel
set_option maxRecDepth 100000 in
theorem am_k_175_0 : (((am_ct_175.zip am_ps_175).drop 0).take 100).all (am_row2 175) = true := by decide +kernel
set_option maxRecDepth 100000 in
theorem am_k_176_0 : (((am_ct_176.zip am_ps_176).drop 0).take 100).all (am_row2 176) = true := by decide +kernel
set_option maxRecDepth 100000 in
theorem am_k_177_0 : (((am_ct_177.zip am_ps_177).drop 0).take 100).all (am_row2 177) = true := by decide +kernel
set_option maxRecDepth 100000 in
theorem am_k_178_0 : (((am_ct_178.zip am_ps_178).drop 0).take 100).all (am_row2 178) = true := by decide +kernel
set_option maxRecDepth 100000 in
theorem am_k_179_0 : (((am_ct_179.zip am_ps_179).drop 0).take 100).all (am_row2 179) = true := by decide +kernel
set_option maxRecDepth 100000 in
theorem am_k_182_0 : (((am_ct_182.zip am_ps_182).drop 0).take 100).all (am_row2 182) = true := by decide +kernel
set_option maxRecDepth 100000 in
theorem am_k_183_0 : (((am_ct_183.zip am_ps_183).drop 0).take 100).all (am_row2 183) = true := by decide +kernel
set_option maxRecDepth 100000 in
theorem am_k_184_0 : (((am_ct_184.zip am_ps_184).drop 0).take 100).all (am_row2 184) = true := by decide +kernel
set_option maxRecDepth 100000 in
theorem am_k_187_0 : (((am_ct_187.zip am_ps_187).drop 0).take 100).all (am_row2 187) = true := by decide +kernel
set_option maxRecDepth 100000 in
theorem am_k_188_0 : (((am_ct_188.zip am_ps_188).drop 0).take 100).all (am_row2 188) = true := by decide +kernel
set_option maxRecDepth 100000 in
theorem am_k_189_0 : (((am_ct_189.zip am_ps_189).drop 0).take 100).all (am_row2 189) = true := by decide +kernel
set_option maxRecDepth 100000 in
theorem am_k_190_0 : (((am_ct_190.zip am_ps_190).drop 0).take 100).all (am_row2 190) = true := by decide +kernel
set_option maxRecDepth 100000 in
theorem am_k_191_0 : (((am_ct_191.zip am_ps_191).drop 0).take 100).all (am_row2 191) = true := by decide +kernel
set_option maxRecDepth 100000 in
theorem am_k_192_0 : (((am_ct_192.zip am_ps_192).drop 0).take 100).all (am_row2 192) = true := by decide +kernel
set_option maxRecDepth 100000 in
theorem am_k_193_0 : (((am_ct_193.zip am_ps_193).drop 0).take 100).all (am_row2 193) = true := by decide +kernel
set_option maxRecDepth 100000 in
theorem am_k_194_0 : (((am_ct_194.zip am_ps_194).drop 0).take 100).all (am_row2 194) = true := by decide +kernel
set_option maxRecDepth 100000 in
theorem am_k_195_0 : (((am_ct_195.zip am_ps_195).drop 0).take 100).all (am_row2 195) = true := by decide +kernel
set_option maxRecDepth 100000 in
theorem am_k_196_0 : (((am_ct_196.zip am_ps_196).drop 0).take 100).all (am_row2 196) = true := by decide +kernel
set_option maxRecDepth 100000 in
theorem am_k_197_0 : (((am_ct_197.zip am_ps_197).drop 0).take 100).all (am_row2 197) = true := by decide +kernel
set_option maxRecDepth 100000 in
theorem am_k_198_0 : (((am_ct_198.zip am_ps_198).drop 0).take 100).all (am_row2 198) = true := by decide +kernel
set_option maxRecDepth 100000 in
theorem am_k_207_0 : (((am_ct_207.zip am_ps_207).drop 0).take 100).all (am_row2 207) = true := by decide +kernel
set_option maxRecDepth 100000 in
theorem am_k_208_0 : (((am_ct_208.zip am_ps_208).drop 0).take 100).all (am_row2 208) = true := by decide +kernel
set_option maxRecDepth 100000 in
theorem am_k_210_0 : (((am_ct_210.zip am_ps_210).drop 0).take 100).all (am_row2 210) = true := by decide +kernel
set_option maxRecDepth 100000 in
theorem am_k_211_0 : (((am_ct_211.zip am_ps_211).drop 0).take 100).all (am_row2 211) = true := by decide +kernel
set_option maxRecDepth 100000 in
theorem am_k_212_0 : (((am_ct_212.zip am_ps_212).drop 0).take 100).all (am_row2 212) = true := by decide +kernel
set_option maxRecDepth 100000 in
theorem am_k_213_0 : (((am_ct_213.zip am_ps_213).drop 0).take 100).all (am_row2 213) = true := by decide +kernel
set_option maxRecDepth 100000 in
theorem am_k_214_0 : (((am_ct_214.zip am_ps_214).drop 0).take 100).all (am_row2 214) = true := by decide +kernel
set_option maxRecDepth 100000 in
theorem am_k_215_0 : (((am_ct_215.zip am_ps_215).drop 0).take 100).all (am_row2 215) = true := by decide +kernel
set_option maxRecDepth 100000 in
theorem am_k_216_0 : (((am_ct_216.zip am_ps_216).drop 0).take 100).all (am_row2 216) = true := by decide +kernel
set_option maxRecDepth 100000 in
theorem am_k_220_0 : (((am_ct_220.zip am_ps_220).drop 0).take 100).all (am_row2 220) = true := by decide +kernel
set_option maxRecDepth 100000 in
theorem am_k_221_0 : (((am_ct_221.zip am_ps_221).drop 0).take 100).all (am_row2 221) = true := by decide +kernel
set_option maxRecDepth 100000 in
theorem am_k_222_0 : (((am_ct_222.zip am_ps_222).drop 0).take 100).all (am_row2 222) = true := by decide +kernel
set_option maxRecDepth 100000 in
theorem am_k_224_0 : (((am_ct_224.zip am_ps_224).drop 0).take 100).all (am_row2 224) = true := by decide +kernel
set_option maxRecDepth 100000 in
theorem am_k_225_0 : (((am_ct_225.zip am_ps_225).drop 0).take 100).all (am_row2 225) = true := by decide +kernel
set_option maxRecDepth 100000 in
theorem am_k_226_0 : (((am_ct_226.zip am_ps_226).drop 0).take 100).all (am_row2 226) = true := by decide +kernel
set_option maxRecDepth 100000 in
theorem am_k_228_0 : (((am_ct_228.zip am_ps_228).drop 0).take 100).all (am_row2 228) = true := by decide +kernel
set_option maxRecDepth 100000 in
theorem am_k_229_0 : (((am_ct_229.zip am_ps_229).drop 0).take 100).all (am_row2 229) = true := by decide +kernel
set_option maxRecDepth 100000 in
theorem am_k_230_0 : (((am_ct_230.zip am_ps_230).drop 0).take 100).all (am_row2 230) = true := by decide +kernel
set_option maxRecDepth 100000 in
theorem am_k_232_0 : (((am_ct_232.zip am_ps_232).drop 0).take 100).all (am_row2 232) = true := by decide +kernel
set_option maxRecDepth 100000 in
theorem am_k_233_0 : (((am_ct_233.zip am_ps_233).drop 0).take 100).all (am_row2 233) = true := by decide +kernel
set_option maxRecDepth 100000 in
theorem am_k_234_0 : (((am_ct_234.zip am_ps_234).drop 0).take 100).all (am_row2 234) = true := by decide +kernel
set_option maxRecDepth 100000 in
theorem am_k_237_0 : (((am_ct_237.zip am_ps_237).drop 0).take 100).all (am_row2 237) = true := by decide +kernel
set_option maxRecDepth 100000 in
theorem am_k_238_0 : (((am_ct_238.zip am_ps_238).drop 0).take 100).all (am_row2 238) = true := by decide +kernel
