set_option maxRecDepth 100000 in
theorem am_k_105_0 : (((am_ct_105.zip am_ps_105).drop 0).take 100).all (am_row2 105) = true := by decide +kernel
set_option maxRecDepth 100000 in
theorem am_k_105_100 : (((am_ct_105.zip am_ps_105).drop 100).take 100).all (am_row2 105) = true := by decide +kernel
