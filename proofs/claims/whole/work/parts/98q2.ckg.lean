set_option maxRecDepth 100000 in
theorem ztck_c60 : (List.range' 60 10).all ztck = true := by decide +kernel
set_option maxRecDepth 100000 in
theorem ztck_c70 : (List.range' 70 10).all ztck = true := by decide +kernel
set_option maxRecDepth 100000 in
theorem ztck_c80 : (List.range' 80 10).all ztck = true := by decide +kernel
