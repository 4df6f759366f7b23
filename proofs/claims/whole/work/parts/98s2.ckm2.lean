set_option maxRecDepth 100000 in
theorem ltck_c160 : ((tb_165.drop 160).take 40).all (fun q => lchk q.1 q.2) = true := by decide +kernel
set_option maxRecDepth 100000 in
theorem ltck_c200 : ((tb_165.drop 200).take 40).all (fun q => lchk q.1 q.2) = true := by decide +kernel
