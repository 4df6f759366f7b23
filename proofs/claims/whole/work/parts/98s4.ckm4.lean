set_option maxRecDepth 100000 in
theorem ltck_c320 : ((tb_165.drop 320).take 40).all (fun q => lchk q.1 q.2) = true := by decide +kernel
set_option maxRecDepth 100000 in
theorem ltck_c360 : ((tb_165.drop 360).take 40).all (fun q => lchk q.1 q.2) = true := by decide +kernel
