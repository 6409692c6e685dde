set_option maxRecDepth 100000 in
theorem am_k_12_0 : (((am_ct_12.zip am_ps_12).drop 0).take 100).all (am_row2 12) = true := by decide +kernel
set_option maxRecDepth 100000 in
theorem am_k_26_0 : (((am_ct_26.zip am_ps_26).drop 0).take 100).all (am_row2 26) = true := by decide +kernel
set_option maxRecDepth 100000 in
theorem am_k_27_0 : (((am_ct_27.zip am_ps_27).drop 0).take 100).all (am_row2 27) = true := by decide +kernel
set_option maxRecDepth 100000 in
theorem am_k_28_0 : (((am_ct_28.zip am_ps_28).drop 0).take 100).all (am_row2 28) = true := by decide +kernel
set_option maxRecDepth 100000 in
theorem am_k_29_0 : (((am_ct_29.zip am_ps_29).drop 0).take 100).all (am_row2 29) = true := by decide +kernel
set_option maxRecDepth 100000 in
theorem am_k_30_0 : (((am_ct_30.zip am_ps_30).drop 0).take 100).all (am_row2 30) = true := by decide +kernel
set_option maxRecDepth 100000 in
theorem am_k_31_0 : (((am_ct_31.zip am_ps_31).drop 0).take 100).all (am_row2 31) = true := by decide +kernel
set_option maxRecDepth 100000 in
theorem am_k_32_0 : (((am_ct_32.zip am_ps_32).drop 0).take 100).all (am_row2 32) = true := by decide +kernel
set_option maxRecDepth 100000 in
theorem am_k_33_0 : (((am_ct_33.zip am_ps_33).drop 0).take 100).all (am_row2 33) = true := by decide +kernel
set_option maxRecDepth 100000 in
theorem am_k_34_0 : (((am_ct_34.zip am_ps_34).drop 0).take 100).all (am_row2 34) = true := by decide +kernel
set_option maxRecDepth 100000 in
theorem am_k_35_0 : (((am_ct_35.zip am_ps_35).drop 0).take 100).all (am_row2 35) = true := by decide +kernel
set_option maxRecDepth 100000 in
theorem am_k_44_0 : (((am_ct_44.zip am_ps_44).drop 0).take 100).all (am_row2 44) = true := by decide +kernel
set_option maxRecDepth 100000 in
theorem am_k_45_0 : (((am_ct_45.zip am_ps_45).drop 0).take 100).all (am_row2 45) = true := by decide +kernel
set_option maxRecDepth 100000 in
theorem am_k_46_0 : (((am_ct_46.zip am_ps_46).drop 0).take 100).all (am_row2 46) = true := by decide +kernel
set_option maxRecDepth 100000 in
theorem am_k_47_0 : (((am_ct_47.zip am_ps_47).drop 0).take 100).all (am_row2 47) = true := by decide +kernel
set_option maxRecDepth 100000 in
theorem am_k_48_0 : (((am_ct_48.zip am_ps_48).drop 0).take 100).all (am_row2 48) = true := by decide +kernel
set_option maxRecDepth 100000 in
theorem am_k_49_0 : (((am_ct_49.zip am_ps_49).drop 0).take 100).all (am_row2 49) = true := by decide +kernel
set_option maxRecDepth 100000 in
theorem am_k_50_0 : (((am_ct_50.zip am_ps_50).drop 0).take 100).all (am_row2 50) = true := by decide +kernel
set_option maxRecDepth 100000 in
theorem am_k_54_0 : (((am_ct_54.zip am_ps_54).drop 0).take 100).all (am_row2 54) = true := by decide +kernel
set_option maxRecDepth 100000 in
theorem am_k_59_0 : (((am_ct_59.zip am_ps_59).drop 0).take 100).all (am_row2 59) = true := by decide +kernel
set_option maxRecDepth 100000 in
theorem am_k_60_0 : (((am_ct_60.zip am_ps_60).drop 0).take 100).all (am_row2 60) = true := by decide +kernel
set_option maxRecDepth 100000 in
theorem am_k_63_0 : (((am_ct_63.zip am_ps_63).drop 0).take 100).all (am_row2 63) = true := by decide +kernel
set_option maxRecDepth 100000 in
theorem am_k_68_0 : (((am_ct_68.zip am_ps_68).drop 0).take 100).all (am_row2 68) = true := by decide +kernel
set_option maxRecDepth 100000 in
theorem am_k_69_0 : (((am_ct_69.zip am_ps_69).drop 0).take 100).all (am_row2 69) = true := by decide +kernel
set_option maxRecDepth 100000 in
theorem am_k_70_0 : (((am_ct_70.zip am_ps_70).drop 0).take 100).all (am_row2 70) = true := by decide +kernel
set_option maxRecDepth 100000 in
theorem am_k_83_0 : (((am_ct_83.zip am_ps_83).drop 0).take 100).all (am_row2 83) = true := by decide +kernel
set_option maxRecDepth 100000 in
theorem am_k_84_0 : (((am_ct_84.zip am_ps_84).drop 0).take 100).all (am_row2 84) = true := by decide +kernel
set_option maxRecDepth 100000 in
theorem am_k_85_0 : (((am_ct_85.zip am_ps_85).drop 0).take 100).all (am_row2 85) = true := by decide +kernel
set_option maxRecDepth 100000 in
theorem am_k_86_0 : (((am_ct_86.zip am_ps_86).drop 0).take 100).all (am_row2 86) = true := by decide +kernel
set_option maxRecDepth 100000 in
theorem am_k_87_0 : (((am_ct_87.zip am_ps_87).drop 0).take 100).all (am_row2 87) = true := by decide +kernel
set_option maxRecDepth 100000 in
theorem am_k_88_0 : (((am_ct_88.zip am_ps_88).drop 0).take 100).all (am_row2 88) = true := by decide +kernel
set_option maxRecDepth 100000 in
theorem am_k_89_0 : (((am_ct_89.zip am_ps_89).drop 0).take 100).all (am_row2 89) = true := by decide +kernel
set_option maxRecDepth 100000 in
theorem am_k_90_0 : (((am_ct_90.zip am_ps_90).drop 0).take 100).all (am_row2 90) = true := by decide +kernel
set_option maxRecDepth 100000 in
theorem am_k_95_0 : (((am_ct_95.zip am_ps_95).drop 0).take 100).all (am_row2 95) = true := by decide +kernel
set_option maxRecDepth 100000 in
theorem am_k_100_0 : (((am_ct_100.zip am_ps_100).drop 0).take 100).all (am_row2 100) = true := by decide +kernel
set_option maxRecDepth 100000 in
theorem am_k_103_0 : (((am_ct_103.zip am_ps_103).drop 0).take 100).all (am_row2 103) = true := by decide +kernel
set_option maxRecDepth 100000 in
theorem am_k_119_0 : (((am_ct_119.zip am_ps_119).drop 0).take 100).all (am_row2 119) = true := by decide +kernel
set_option maxRecDepth 100000 in
theorem am_k_120_0 : (((am_ct_120.zip am_ps_120).drop 0).take 100).all (am_row2 120) = true := by decide +kernel
set_option maxRecDepth 100000 in
theorem am_k_121_0 : (((am_ct_121.zip am_ps_121).drop 0).take 100).all (am_row2 121) = true := by decide +kernel
set_option maxRecDepth 100000 in
theorem am_k_122_0 : (((am_ct_122.zip am_ps_122).drop 0).take 100).all (am_row2 122) = true := by decide +kernel
set_option maxRecDepth 100000 in
theorem am_k_123_0 : (((am_ct_123.zip am_ps_123).drop 0).take 100).all (am_row2 123) = true := by decide +kernel
set_option maxRecDepth 100000 in
theorem am_k_124_0 : (((am_ct_124.zip am_ps_124).drop 0).take 100).all (am_row2 124) = true := by decide +kernel
set_option maxRecDepth 100000 in
theorem am_k_125_0 : (((am_ct_125.zip am_ps_125).drop 0).take 100).all (am_row2 125) = true := by decide +kernel
set_option maxRecDepth 100000 in
theorem am_k_126_0 : (((am_ct_126.zip am_ps_126).drop 0).take 100).all (am_row2 126) = true := by decide +kernel
set_option maxRecDepth 100000 in
theorem am_k_127_0 : (((am_ct_127.zip am_ps_127).drop 0).take 100).all (am_row2 127) = true := by decide +kernel
set_option maxRecDepth 100000 in
theorem am_k_138_0 : (((am_ct_138.zip am_ps_138).drop 0).take 100).all (am_row2 138) = true := by decide +kernel
set_option maxRecDepth 100000 in
theorem am_k_144_0 : (((am_ct_144.zip am_ps_144).drop 0).take 100).all (am_row2 144) = true := by decide +kernel
set_option maxRecDepth 100000 in
theorem am_k_148_0 : (((am_ct_148.zip am_ps_148).drop 0).take 100).all (am_row2 148) = true := by decide +kernel
set_option maxRecDepth 100000 in
theorem am_k_149_0 : (((am_ct_149.zip am_ps_149).drop 0).take 100).all (am_row2 149) = true := by decide +kernel
set_option maxRecDepth 100000 in
theorem am_k_153_0 : (((am_ct_153.zip am_ps_153).drop 0).take 100).all (am_row2 153) = true := by decide +kernel
set_option maxRecDepth 100000 in
theorem am_k_158_0 : (((am_ct_158.zip am_ps_158).drop 0).take 100).all (am_row2 158) = true := by decide +kernel
set_option maxRecDepth 100000 in
theorem am_k_159_0 : (((am_ct_159.zip am_ps_159).drop 0).take 100).all (am_row2 159) = true := by decide +kernel
set_option maxRecDepth 100000 in
theorem am_k_160_0 : (((am_ct_160.zip am_ps_160).drop 0).take 100).all (am_row2 160) = true := by decide +kernel
set_option maxRecDepth 100000 in
theorem am_k_165_0 : (((am_ct_165.zip am_ps_165).drop 0).take 100).all (am_row2 165) = true := by decide +kernel
set_option maxRecDepth 100000 in
theorem am_k_166_0 : (((am_ct_166.zip am_ps_166).drop 0).take 100).all (am_row2 166) = true := by decide +kernel
set_option maxRecDepth 100000 in
theorem am_k_170_0 : (((am_ct_170.zip am_ps_170).drop 0).take 100).all (am_row2 170) = true := by decide +kernel
set_option maxRecDepth 100000 in
theorem am_k_171_0 : (((am_ct_171.zip am_ps_171).drop 0).take 100).all (am_row2 171) = true := by decide +kernel
set_option maxRecDepth 100000 in
theorem am_k_174_0 : (((am_ct_174.zip am_ps_174).drop 0).take 100).all (am_row2 174) = true := by decide +kernel
set_option maxRecDepth 100000 in
theorem am_k_180_0 : (((am_ct_180.zip am_ps_180).drop 0).take 100).all (am_row2 180) = true := by decide +kernel
set_option maxRecDepth 100000 in
theorem am_k_181_0 : (((am_ct_181.zip am_ps_181).drop 0).take 100).all (am_row2 181) = true := by decide +kernel
set_option maxRecDepth 100000 in
theorem am_k_185_0 : (((am_ct_185.zip am_ps_185).drop 0).take 100).all (am_row2 185) = true := by decide +kernel
set_option maxRecDepth 100000 in
theorem am_k_186_0 : (((am_ct_186.zip am_ps_186).drop 0).take 100).all (am_row2 186) = true := by decide +kernel
set_option maxRecDepth 100000 in
theorem am_k_199_0 : (((am_ct_199.zip am_ps_199).drop 0).take 100).all (am_row2 199) = true := by decide +kernel
set_option maxRecDepth 100000 in
theorem am_k_200_0 : (((am_ct_200.zip am_ps_200).drop 0).take 100).all (am_row2 200) = true := by decide +kernel
set_option maxRecDepth 100000 in
theorem am_k_201_0 : (((am_ct_201.zip am_ps_201).drop 0).take 100).all (am_row2 201) = true := by decide +kernel
set_option maxRecDepth 100000 in
theorem am_k_202_0 : (((am_ct_202.zip am_ps_202).drop 0).take 100).all (am_row2 202) = true := by decide +kernel
set_option maxRecDepth 100000 in
theorem am_k_203_0 : (((am_ct_203.zip am_ps_203).drop 0).take 100).all (am_row2 203) = true := by decide +kernel
set_option maxRecDepth 100000 in
theorem am_k_204_0 : (((am_ct_204.zip am_ps_204).drop 0).take 100).all (am_row2 204) = true := by decide +kernel
set_option maxRecDepth 100000 in
theorem am_k_205_0 : (((am_ct_205.zip am_ps_205).drop 0).take 100).all (am_row2 205) = true := by decide +kernel
set_option maxRecDepth 100000 in
theorem am_k_206_0 : (((am_ct_206.zip am_ps_206).drop 0).take 100).all (am_row2 206) = true := by decide +kernel
set_option maxRecDepth 100000 in
theorem am_k_209_0 : (((am_ct_209.zip am_ps_209).drop 0).take 100).all (am_row2 209) = true := by decide +kernel
set_option maxRecDepth 100000 in
theorem am_k_217_0 : (((am_ct_217.zip am_ps_217).drop 0).take 100).all (am_row2 217) = true := by decide +kernel
set_option maxRecDepth 100000 in
theorem am_k_218_0 : (((am_ct_218.zip am_ps_218).drop 0).take 100).all (am_row2 218) = true := by decide +kernel
set_option maxRecDepth 100000 in
theorem am_k_219_0 : (((am_ct_219.zip am_ps_219).drop 0).take 100).all (am_row2 219) = true := by decide +kernel
set_option maxRecDepth 100000 in
theorem am_k_223_0 : (((am_ct_223.zip am_ps_223).drop 0).take 100).all (am_row2 223) = true := by decide +kernel
set_option maxRecDepth 100000 in
theorem am_k_227_0 : (((am_ct_227.zip am_ps_227).drop 0).take 100).all (am_row2 227) = true := by decide +kernel
set_option maxRecDepth 100000 in
theorem am_k_231_0 : (((am_ct_231.zip am_ps_231).drop 0).take 100).all (am_row2 231) = true := by decide +kernel
set_option maxRecDepth 100000 in
theorem am_k_235_0 : (((am_ct_235.zip am_ps_235).drop 0).take 100).all (am_row2 235) = true := by decide +kernel
set_option maxRecDepth 100000 in
theorem am_k_236_0 : (((am_ct_236.zip am_ps_236).drop 0).take 100).all (am_row2 236) = true := by decide +kernel
set_option maxRecDepth 100000 in
theorem am_k_239_0 : (((am_ct_239.zip am_ps_239).drop 0).take 100).all (am_row2 239) = true := by decide +kernel
