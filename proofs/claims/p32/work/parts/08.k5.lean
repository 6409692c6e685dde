set_option maxRecDepth 100000 in
theorem am_k_105_200 : (((am_ct_105.zip am_ps_105).drop 200).take 100).all (am_row2 105) = true := by decide +kernel
set_option maxRecDepth 100000 in
theorem am_k_105_300 : (((am_ct_105.zip am_ps_105).drop 300).take 100).all (am_row2 105) = true := by decide +kernel
