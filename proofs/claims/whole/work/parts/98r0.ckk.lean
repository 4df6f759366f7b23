/-! The tables are checked. -/
theorem zmck_ok : ∀ j, j < 152 → zmck j = true := by
  intro j hj
  rcases (show ((0 ≤ j ∧ j < 13) ∨ (13 ≤ j ∧ j < 26) ∨ (26 ≤ j ∧ j < 39) ∨ (39 ≤ j ∧ j < 52) ∨ (52 ≤ j ∧ j < 65) ∨ (65 ≤ j ∧ j < 78) ∨ (78 ≤ j ∧ j < 91) ∨ (91 ≤ j ∧ j < 104) ∨ (104 ≤ j ∧ j < 112) ∨ (112 ≤ j ∧ j < 120) ∨ (120 ≤ j ∧ j < 128) ∨ (128 ≤ j ∧ j < 136) ∨ (136 ≤ j ∧ j < 144) ∨ (144 ≤ j ∧ j < 152)) by omega) with h | h | h | h | h | h | h | h | h | h | h | h | h | h
  · exact List.all_eq_true.mp zmck_c0 j (by rw [List.mem_range'_1]; omega)
  · exact List.all_eq_true.mp zmck_c13 j (by rw [List.mem_range'_1]; omega)
  · exact List.all_eq_true.mp zmck_c26 j (by rw [List.mem_range'_1]; omega)
  · exact List.all_eq_true.mp zmck_c39 j (by rw [List.mem_range'_1]; omega)
  · exact List.all_eq_true.mp zmck_c52 j (by rw [List.mem_range'_1]; omega)
  · exact List.all_eq_true.mp zmck_c65 j (by rw [List.mem_range'_1]; omega)
  · exact List.all_eq_true.mp zmck_c78 j (by rw [List.mem_range'_1]; omega)
  · exact List.all_eq_true.mp zmck_c91 j (by rw [List.mem_range'_1]; omega)
  · exact List.all_eq_true.mp zmck_c104 j (by rw [List.mem_range'_1]; omega)
  · exact List.all_eq_true.mp zmck_c112 j (by rw [List.mem_range'_1]; omega)
  · exact List.all_eq_true.mp zmck_c120 j (by rw [List.mem_range'_1]; omega)
  · exact List.all_eq_true.mp zmck_c128 j (by rw [List.mem_range'_1]; omega)
  · exact List.all_eq_true.mp zmck_c136 j (by rw [List.mem_range'_1]; omega)
  · exact List.all_eq_true.mp zmck_c144 j (by rw [List.mem_range'_1]; omega)
theorem ztck_ok : ∀ j, j < 152 → ztck j = true := by
  intro j hj
  rcases (show ((0 ≤ j ∧ j < 10) ∨ (10 ≤ j ∧ j < 20) ∨ (20 ≤ j ∧ j < 30) ∨ (30 ≤ j ∧ j < 40) ∨ (40 ≤ j ∧ j < 50) ∨ (50 ≤ j ∧ j < 60) ∨ (60 ≤ j ∧ j < 70) ∨ (70 ≤ j ∧ j < 80) ∨ (80 ≤ j ∧ j < 90) ∨ (90 ≤ j ∧ j < 101) ∨ (101 ≤ j ∧ j < 112) ∨ (112 ≤ j ∧ j < 122) ∨ (122 ≤ j ∧ j < 132) ∨ (132 ≤ j ∧ j < 142) ∨ (142 ≤ j ∧ j < 152)) by omega) with h | h | h | h | h | h | h | h | h | h | h | h | h | h | h
  · exact List.all_eq_true.mp ztck_c0 j (by rw [List.mem_range'_1]; omega)
  · exact List.all_eq_true.mp ztck_c10 j (by rw [List.mem_range'_1]; omega)
  · exact List.all_eq_true.mp ztck_c20 j (by rw [List.mem_range'_1]; omega)
  · exact List.all_eq_true.mp ztck_c30 j (by rw [List.mem_range'_1]; omega)
  · exact List.all_eq_true.mp ztck_c40 j (by rw [List.mem_range'_1]; omega)
  · exact List.all_eq_true.mp ztck_c50 j (by rw [List.mem_range'_1]; omega)
  · exact List.all_eq_true.mp ztck_c60 j (by rw [List.mem_range'_1]; omega)
  · exact List.all_eq_true.mp ztck_c70 j (by rw [List.mem_range'_1]; omega)
  · exact List.all_eq_true.mp ztck_c80 j (by rw [List.mem_range'_1]; omega)
  · exact List.all_eq_true.mp ztck_c90 j (by rw [List.mem_range'_1]; omega)
  · exact List.all_eq_true.mp ztck_c101 j (by rw [List.mem_range'_1]; omega)
  · exact List.all_eq_true.mp ztck_c112 j (by rw [List.mem_range'_1]; omega)
  · exact List.all_eq_true.mp ztck_c122 j (by rw [List.mem_range'_1]; omega)
  · exact List.all_eq_true.mp ztck_c132 j (by rw [List.mem_range'_1]; omega)
  · exact List.all_eq_true.mp ztck_c142 j (by rw [List.mem_range'_1]; omega)
