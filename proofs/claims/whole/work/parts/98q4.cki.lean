set_option maxRecDepth 100000 in
theorem ztck_c112 : (List.range' 112 10).all ztck = true := by decide +kernel
set_option maxRecDepth 100000 in
theorem ztck_c122 : (List.range' 122 10).all ztck = true := by decide +kernel
