set_option maxRecDepth 100000 in
theorem zmck_c128 : (List.range' 128 8).all zmck = true := by decide +kernel
set_option maxRecDepth 100000 in
theorem zmck_c136 : (List.range' 136 8).all zmck = true := by decide +kernel
set_option maxRecDepth 100000 in
theorem zmck_c144 : (List.range' 144 8).all zmck = true := by decide +kernel
