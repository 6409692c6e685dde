set_option maxRecDepth 100000 in
theorem am_k_106_0 : (((am_ct_106.zip am_ps_106).drop 0).take 100).all (am_row2 106) = true := by decide +kernel
