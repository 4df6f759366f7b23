set_option maxRecDepth 100000 in
theorem zmck_c52 : (List.range' 52 13).all zmck = true := by decide +kernel
set_option maxRecDepth 100000 in
theorem zmck_c65 : (List.range' 65 13).all zmck = true := by decide +kernel
set_option maxRecDepth 100000 in
theorem zmck_c78 : (List.range' 78 13).all zmck = true := by decide +kernel
set_option maxRecDepth 100000 in
theorem zmck_c91 : (List.range' 91 13).all zmck = true := by decide +kernel
