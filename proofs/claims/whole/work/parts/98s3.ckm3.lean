set_option maxRecDepth 100000 in
theorem ltck_c240 : ((tb_165.drop 240).take 40).all (fun q => lchk q.1 q.2) = true := by decide +kernel
set_option maxRecDepth 100000 in
theorem ltck_c280 : ((tb_165.drop 280).take 40).all (fun q => lchk q.1 q.2) = true := by decide +kernel
