set_option maxRecDepth 100000 in
theorem am_k_240_0 : (((am_ct_240.zip am_ps_240).drop 0).take 100).all (am_row2 240) = true := by decide +kernel
set_option maxRecDepth 100000 in
theorem am_k_240_100 : (((am_ct_240.zip am_ps_240).drop 100).take 100).all (am_row2 240) = true := by decide +kernel
set_option maxRecDepth 100000 in
theorem am_k_240_200 : (((am_ct_240.zip am_ps_240).drop 200).take 100).all (am_row2 240) = true := by decide +kernel
set_option maxRecDepth 100000 in
theorem am_k_240_300 : (((am_ct_240.zip am_ps_240).drop 300).take 100).all (am_row2 240) = true := by decide +kernel
set_option maxRecDepth 100000 in
theorem am_k_240_400 : (((am_ct_240.zip am_ps_240).drop 400).take 100).all (am_row2 240) = true := by decide +kernel
set_option maxRecDepth 100000 in
theorem am_k_240_500 : (((am_ct_240.zip am_ps_240).drop 500).take 100).all (am_row2 240) = true := by decide +kernel
set_option maxRecDepth 100000 in
theorem am_k_240_600 : (((am_ct_240.zip am_ps_240).drop 600).take 100).all (am_row2 240) = true := by decide +kernel
set_option maxRecDepth 100000 in
theorem am_k_240_700 : (((am_ct_240.zip am_ps_240).drop 700).take 100).all (am_row2 240) = true := by decide +kernel
set_option maxRecDepth 100000 in
theorem am_k_240_800 : (((am_ct_240.zip am_ps_240).drop 800).take 100).all (am_row2 240) = true := by decide +kernel
set_option maxRecDepth 100000 in
theorem am_k_240_900 : (((am_ct_240.zip am_ps_240).drop 900).take 100).all (am_row2 240) = true := by decide +kernel
set_option maxRecDepth 100000 in
theorem am_k_240_1000 : (((am_ct_240.zip am_ps_240).drop 1000).take 100).all (am_row2 240) = true := by decide +kernel
