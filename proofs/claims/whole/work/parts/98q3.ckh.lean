set_option maxRecDepth 100000 in
theorem ztck_c90 : (List.range' 90 11).all ztck = true := by decide +kernel
set_option maxRecDepth 100000 in
theorem ztck_c101 : (List.range' 101 11).all ztck = true := by decide +kernel
