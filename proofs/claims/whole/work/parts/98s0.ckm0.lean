set_option maxRecDepth 100000 in
theorem ltck_c0 : ((tb_165.drop 0).take 40).all (fun q => lchk q.1 q.2) = true := by decide +kernel
set_option maxRecDepth 100000 in
theorem ltck_c40 : ((tb_165.drop 40).take 40).all (fun q => lchk q.1 q.2) = true := by decide +kernel
