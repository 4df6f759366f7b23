/-! The helpers' tables are checked. -/
set_option maxRecDepth 100000 in
theorem hmck_c : (List.range' 152 13).all hmck = true := by decide +kernel
theorem hmck_ok : ∀ j, 152 ≤ j → j < 165 → hmck j = true := fun j h1 h2 => List.all_eq_true.mp hmck_c j (by rw [List.mem_range'_1]; omega)
set_option maxRecDepth 100000 in
theorem htck_c : (List.range' 152 13).all htck = true := by decide +kernel
theorem htck_ok : ∀ j, 152 ≤ j → j < 165 → htck j = true := fun j h1 h2 => List.all_eq_true.mp htck_c j (by rw [List.mem_range'_1]; omega)
