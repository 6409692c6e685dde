set_option maxRecDepth 100000 in
theorem am_k_45_0 : (((am_ct_45.zip am_ps_45).drop 0).take 100).all (am_row2 45) = true := by decide +kernel
set_option maxRecDepth 100000 in
theorem am_k_45_100 : (((am_ct_45.zip am_ps_45).drop 100).take 100).all (am_row2 45) = true := by decide +kernel
set_option maxRecDepth 100000 in
theorem am_k_48_0 : (((am_ct_48.zip am_ps_48).drop 0).take 100).all (am_row2 48) = true := by decide +kernel
set_option maxRecDepth 100000 in
theorem am_k_48_100 : (((am_ct_48.zip am_ps_48).drop 100).take 100).all (am_row2 48) = true := by decide +kernel
set_option maxRecDepth 100000 in
theorem am_k_48_200 : (((am_ct_48.zip am_ps_48).drop 200).take 100).all (am_row2 48) = true := by decide +kernel
