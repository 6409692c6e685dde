set_option maxRecDepth 100000 in
theorem am_k_66_0 : (((am_ct_66.zip am_ps_66).drop 0).take 100).all (am_row2 66) = true := by decide +kernel
set_option maxRecDepth 100000 in
theorem am_k_66_100 : (((am_ct_66.zip am_ps_66).drop 100).take 100).all (am_row2 66) = true := by decide +kernel
set_option maxRecDepth 100000 in
theorem am_k_66_200 : (((am_ct_66.zip am_ps_66).drop 200).take 100).all (am_row2 66) = true := by decide +kernel
