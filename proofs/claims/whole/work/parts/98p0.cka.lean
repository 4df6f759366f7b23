set_option maxRecDepth 100000 in
theorem zmck_c0 : (List.range' 0 13).all zmck = true := by decide +kernel
set_option maxRecDepth 100000 in
theorem zmck_c13 : (List.range' 13 13).all zmck = true := by decide +kernel
set_option maxRecDepth 100000 in
theorem zmck_c26 : (List.range' 26 13).all zmck = true := by decide +kernel
set_option maxRecDepth 100000 in
theorem zmck_c39 : (List.range' 39 13).all zmck = true := by decide +kernel
