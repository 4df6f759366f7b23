set_option maxRecDepth 100000 in
theorem ztck_c0 : (List.range' 0 10).all ztck = true := by decide +kernel
set_option maxRecDepth 100000 in
theorem ztck_c10 : (List.range' 10 10).all ztck = true := by decide +kernel
set_option maxRecDepth 100000 in
theorem ztck_c20 : (List.range' 20 10).all ztck = true := by decide +kernel
