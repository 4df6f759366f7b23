set_option maxRecDepth 100000 in
theorem ztck_c30 : (List.range' 30 10).all ztck = true := by decide +kernel
set_option maxRecDepth 100000 in
theorem ztck_c40 : (List.range' 40 10).all ztck = true := by decide +kernel
set_option maxRecDepth 100000 in
theorem ztck_c50 : (List.range' 50 10).all ztck = true := by decide +kernel
