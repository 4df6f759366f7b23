/-! The law's table is checked. -/
theorem all_cut {α : Type} (p : α → Bool) (n : Nat) {l : List α} (h1 : (l.take n).all p = true) (h2 : (l.drop n).all p = true) : l.all p = true := by
  rw [← List.take_append_drop n l, List.all_append, h1, h2]; rfl
set_option maxRecDepth 100000 in
theorem ltck_d400 : (tb_165.drop 400).all (fun q => lchk q.1 q.2) = true := by decide +kernel
theorem ltck_d360 : (tb_165.drop 360).all (fun q => lchk q.1 q.2) = true := all_cut _ 40 ltck_c360 (by rw [List.drop_drop]; exact ltck_d400)
theorem ltck_d320 : (tb_165.drop 320).all (fun q => lchk q.1 q.2) = true := all_cut _ 40 ltck_c320 (by rw [List.drop_drop]; exact ltck_d360)
theorem ltck_d280 : (tb_165.drop 280).all (fun q => lchk q.1 q.2) = true := all_cut _ 40 ltck_c280 (by rw [List.drop_drop]; exact ltck_d320)
theorem ltck_d240 : (tb_165.drop 240).all (fun q => lchk q.1 q.2) = true := all_cut _ 40 ltck_c240 (by rw [List.drop_drop]; exact ltck_d280)
theorem ltck_d200 : (tb_165.drop 200).all (fun q => lchk q.1 q.2) = true := all_cut _ 40 ltck_c200 (by rw [List.drop_drop]; exact ltck_d240)
theorem ltck_d160 : (tb_165.drop 160).all (fun q => lchk q.1 q.2) = true := all_cut _ 40 ltck_c160 (by rw [List.drop_drop]; exact ltck_d200)
theorem ltck_d120 : (tb_165.drop 120).all (fun q => lchk q.1 q.2) = true := all_cut _ 40 ltck_c120 (by rw [List.drop_drop]; exact ltck_d160)
theorem ltck_d80 : (tb_165.drop 80).all (fun q => lchk q.1 q.2) = true := all_cut _ 40 ltck_c80 (by rw [List.drop_drop]; exact ltck_d120)
theorem ltck_d40 : (tb_165.drop 40).all (fun q => lchk q.1 q.2) = true := all_cut _ 40 ltck_c40 (by rw [List.drop_drop]; exact ltck_d80)
theorem ltck_d0 : (tb_165.drop 0).all (fun q => lchk q.1 q.2) = true := all_cut _ 40 ltck_c0 (by rw [List.drop_drop]; exact ltck_d40)
theorem ltck_ok : ltck = true := ltck_d0
