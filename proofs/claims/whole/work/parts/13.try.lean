/-- a first look: begin() -/
theorem c_begin {q : Nat} {qa : Nat → Nat} {d c n a v f : Nat} {b : Bool} {r : rA} : rFun q qa (d + 1) 112 [zR (some q)] (c, n, a, b, v, f, r) (c, n, 0, false, v, f, r) none := by
  refine rFun.of (T := tb_112) (L := [some (zR (some q))]) (Nat.le_of_ble_eq_true rfl) rfl rfl ?_
  refine r_ald rfl rfl ?_
  refine r_ico (x := nI 0) rfl rfl ?_
  refine r_put (s' := (c, n, 0, b, v, f, r)) rfl (by decide) ⟨_, rfl⟩ rfl rfl ?_
  refine r_ald rfl rfl ?_
  refine r_ico (x := bI false) rfl rfl ?_
  refine r_put (s' := (c, n, 0, false, v, f, r)) rfl (by decide) ⟨_, rfl, Or.inl rfl⟩ rfl rfl ?_
  exact r_rtv rfl ⟨rfl, rfl⟩
