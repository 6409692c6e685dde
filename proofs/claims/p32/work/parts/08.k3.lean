set_option maxRecDepth 100000 in
theorem am_k_104_0 : (((am_ct_104.zip am_ps_104).drop 0).take 100).all (am_row2 104) = true := by decide +kernel
set_option maxRecDepth 100000 in
theorem am_k_104_100 : (((am_ct_104.zip am_ps_104).drop 100).take 100).all (am_row2 104) = true := by decide +kernel
