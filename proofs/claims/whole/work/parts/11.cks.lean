/-! The tables are checked. -/
set_option maxRecDepth 100000 in
theorem zmck_c0 : (List.range' 0 19).all zmck = true := by decide +kernel
set_option maxRecDepth 100000 in
theorem zmck_c1 : (List.range' 19 19).all zmck = true := by decide +kernel
set_option maxRecDepth 100000 in
theorem zmck_c2 : (List.range' 38 19).all zmck = true := by decide +kernel
set_option maxRecDepth 100000 in
theorem zmck_c3 : (List.range' 57 19).all zmck = true := by decide +kernel
set_option maxRecDepth 100000 in
theorem zmck_c4 : (List.range' 76 19).all zmck = true := by decide +kernel
set_option maxRecDepth 100000 in
theorem zmck_c5 : (List.range' 95 19).all zmck = true := by decide +kernel
set_option maxRecDepth 100000 in
theorem zmck_c6 : (List.range' 114 19).all zmck = true := by decide +kernel
set_option maxRecDepth 100000 in
theorem zmck_c7 : (List.range' 133 19).all zmck = true := by decide +kernel
theorem zmck_ok : ∀ j, j < 152 → zmck j = true := by
  intro j hj
  rcases (show ((0 ≤ j ∧ j < 19) ∨ (19 ≤ j ∧ j < 38) ∨ (38 ≤ j ∧ j < 57) ∨ (57 ≤ j ∧ j < 76) ∨ (76 ≤ j ∧ j < 95) ∨ (95 ≤ j ∧ j < 114) ∨ (114 ≤ j ∧ j < 133) ∨ (133 ≤ j ∧ j < 152)) by omega) with h | h | h | h | h | h | h | h
  · exact List.all_eq_true.mp zmck_c0 j (by rw [List.mem_range'_1]; omega)
  · exact List.all_eq_true.mp zmck_c1 j (by rw [List.mem_range'_1]; omega)
  · exact List.all_eq_true.mp zmck_c2 j (by rw [List.mem_range'_1]; omega)
  · exact List.all_eq_true.mp zmck_c3 j (by rw [List.mem_range'_1]; omega)
  · exact List.all_eq_true.mp zmck_c4 j (by rw [List.mem_range'_1]; omega)
  · exact List.all_eq_true.mp zmck_c5 j (by rw [List.mem_range'_1]; omega)
  · exact List.all_eq_true.mp zmck_c6 j (by rw [List.mem_range'_1]; omega)
  · exact List.all_eq_true.mp zmck_c7 j (by rw [List.mem_range'_1]; omega)
set_option maxRecDepth 100000 in
theorem ztck_c0 : (List.range' 0 19).all ztck = true := by decide +kernel
set_option maxRecDepth 100000 in
theorem ztck_c1 : (List.range' 19 19).all ztck = true := by decide +kernel
set_option maxRecDepth 100000 in
theorem ztck_c2 : (List.range' 38 19).all ztck = true := by decide +kernel
set_option maxRecDepth 100000 in
theorem ztck_c3 : (List.range' 57 19).all ztck = true := by decide +kernel
set_option maxRecDepth 100000 in
theorem ztck_c4 : (List.range' 76 19).all ztck = true := by decide +kernel
set_option maxRecDepth 100000 in
theorem ztck_c5 : (List.range' 95 19).all ztck = true := by decide +kernel
set_option maxRecDepth 100000 in
theorem ztck_c6 : (List.range' 114 19).all ztck = true := by decide +kernel
set_option maxRecDepth 100000 in
theorem ztck_c7 : (List.range' 133 19).all ztck = true := by decide +kernel
theorem ztck_ok : ∀ j, j < 152 → ztck j = true := by
  intro j hj
  rcases (show ((0 ≤ j ∧ j < 19) ∨ (19 ≤ j ∧ j < 38) ∨ (38 ≤ j ∧ j < 57) ∨ (57 ≤ j ∧ j < 76) ∨ (76 ≤ j ∧ j < 95) ∨ (95 ≤ j ∧ j < 114) ∨ (114 ≤ j ∧ j < 133) ∨ (133 ≤ j ∧ j < 152)) by omega) with h | h | h | h | h | h | h | h
  · exact List.all_eq_true.mp ztck_c0 j (by rw [List.mem_range'_1]; omega)
  · exact List.all_eq_true.mp ztck_c1 j (by rw [List.mem_range'_1]; omega)
  · exact List.all_eq_true.mp ztck_c2 j (by rw [List.mem_range'_1]; omega)
  · exact List.all_eq_true.mp ztck_c3 j (by rw [List.mem_range'_1]; omega)
  · exact List.all_eq_true.mp ztck_c4 j (by rw [List.mem_range'_1]; omega)
  · exact List.all_eq_true.mp ztck_c5 j (by rw [List.mem_range'_1]; omega)
  · exact List.all_eq_true.mp ztck_c6 j (by rw [List.mem_range'_1]; omega)
  · exact List.all_eq_true.mp ztck_c7 j (by rw [List.mem_range'_1]; omega)
set_option maxRecDepth 100000 in
theorem ztck_law : (List.range' 152 14).all ztck = true := by decide +kernel
theorem zmet (l : Launch) (hnt : l.stackTraces = false) (D : va_G) (cy : Nat → ClassId) (A : Nat → Prop) (d : Nat) : zIH l D cy A d := zall l hnt D cy A zmck_ok ztck_ok d
