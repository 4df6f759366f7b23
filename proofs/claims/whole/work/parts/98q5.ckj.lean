set_option maxRecDepth 100000 in
theorem ztck_c132 : (List.range' 132 10).all ztck = true := by decide +kernel
set_option maxRecDepth 100000 in
theorem ztck_c142 : (List.range' 142 10).all ztck = true := by decide +kernel
