set_option maxRecDepth 100000 in
theorem ltck_c80 : ((tb_165.drop 80).take 40).all (fun q => lchk q.1 q.2) = true := by decide +kernel
set_option maxRecDepth 100000 in
theorem ltck_c120 : ((tb_165.drop 120).take 40).all (fun q => lchk q.1 q.2) = true := by decide +kernel
