set_option maxRecDepth 100000 in
theorem zmck_c104 : (List.range' 104 8).all zmck = true := by decide +kernel
set_option maxRecDepth 100000 in
theorem zmck_c112 : (List.range' 112 8).all zmck = true := by decide +kernel
set_option maxRecDepth 100000 in
theorem zmck_c120 : (List.range' 120 8).all zmck = true := by decide +kernel
