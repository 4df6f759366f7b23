def cm0 (row : Nat) (r : rA) : rA := rset (rset (rset (rset (rset (rset r 11 row (nI 0)) 5 row (nI 0)) 6 row (nI 0)) 7 row (nI 0)) 8 row (nI 0)) 10 row (nI 0)
/-- a comparator behind its second point; neg: it has no sign; p: where its version begins -/
def cm3 (row n a : Nat) (b neg : Bool) (p : Nat) (r : rA) : Nat × Bool × rA :=
  if ahd n a b (r 2) = nI 42 ∧ neg = true then (a + 1, b, rset r 10 row (nI 3)) else
    let w := bwF row n (numA n a b (r 2)) (numB n a b (r 2)) (rset (rset (rset r 6 row (r 6 row)) 7 row (numV n a b (r 2))) 11 row (nI 3))
    (w.1, w.2.1 || decide (24 < w.1 - p), w.2.2)
def cm2 (row n a : Nat) (b neg : Bool) (p : Nat) (r : rA) : Nat × Bool × rA :=
  if ahd n a b (r 2) = nI 42 ∧ neg = true then (a + 1, b, rset r 10 row (nI 3)) else
    let r1 := rset (rset (rset r 6 row (numV n a b (r 2))) 7 row (nI 0)) 11 row (nI 2)
    if ahd n (numA n a b (r 2)) (numB n a b (r 2)) (r 2) = nI 46 then cm3 row n (numA n a b (r 2) + 1) (numB n a b (r 2)) neg p r1 else (numA n a b (r 2), numB n a b (r 2), r1)
def cm1 (row n a : Nat) (b neg : Bool) (r : rA) : Nat × Bool × rA :=
  let r1 := rset (rset r 5 row (numV n a b (r 2))) 11 row (nI 1)
  if ahd n (numA n a b (r 2)) (numB n a b (r 2)) (r 2) = nI 46 then cm2 row n (numA n a b (r 2) + 1) (numB n a b (r 2)) neg a r1 else (numA n a b (r 2), numB n a b (r 2), r1)
/-- what comparator(row) does: at, bad, the arrays -/
def cmpF (row n a : Nat) (b : Bool) (r : rA) : Nat × Bool × rA :=
  if ahd n a b (r 2) = nI 42 then (a + 1, b, cm0 row r) else
    cm1 row n (sgF n a b (r 2)).1 b (decide ((sgF n a b (r 2)).2 < 0)) (rset (cm0 row r) 10 row (if 0 ≤ (sgF n a b (r 2)).2 then (sgF n a b (r 2)).2 else nI 1))
theorem sgF_le {n a : Nat} {b : Bool} {t : Nat → Int32} (h : a ≤ n) : a ≤ (sgF n a b t).1 ∧ (sgF n a b t).1 ≤ n := by
  have k : ∀ {x : Int32} {m : Nat}, ahd n m b t = x → x ≠ -1 → m < n := fun h1 h2 => (ahd_eq h1 h2).2.1
  unfold sgF
  split
  · rename_i g; have := k g (by decide +kernel); exact ⟨by show a ≤ a + 1; omega, by show a + 1 ≤ n; omega⟩
  · split
    · rename_i g; have := k g (by decide +kernel); exact ⟨by show a ≤ a + 1; omega, by show a + 1 ≤ n; omega⟩
    · split
      · rename_i g; have := k g (by decide +kernel); exact ⟨by show a ≤ a + 1; omega, by show a + 1 ≤ n; omega⟩
      · split
        · rename_i g; have := k g (by decide +kernel)
          split
          · rename_i g2; have := k g2 (by decide +kernel); exact ⟨by show a ≤ a + 1 + 1; omega, by show a + 1 + 1 ≤ n; omega⟩
          · exact ⟨by show a ≤ a + 1; omega, by show a + 1 ≤ n; omega⟩
        · split
          · rename_i g; have := k g (by decide +kernel)
            split
            · rename_i g2; have := k g2 (by decide +kernel); exact ⟨by show a ≤ a + 1 + 1; omega, by show a + 1 + 1 ≤ n; omega⟩
            · exact ⟨by show a ≤ a + 1; omega, by show a + 1 ≤ n; omega⟩
          · exact ⟨Nat.le_refl _, h⟩
set_option maxHeartbeats 2000000 in
theorem l_cm3 {q : Nat} {qa : Nat → Nat} {d c n a v f row p : Nat} {b : Bool} {sv : Int32} {x5 : Option zV} {r : rA} {Q : rS → (Option zV ⊕ Nat) → Prop} (hrow : row < 900) (hn : n ≤ 160) (ha : a < n) (hpa : p ≤ a) (hp : r 11 row = nI 2) (hQ : Q (c, n, (cm3 row n (a + 1) b (decide (sv < 0)) p r).1, (cm3 row n (a + 1) b (decide (sv < 0)) p r).2.1, v, f, (cm3 row n (a + 1) b (decide (sv < 0)) p r).2.2) (.inl none)) : rEv q qa (d + 4) tb_109 Q 135 [some (zR (some q)), some (zI (nI row)), some (zI (sv)), some (zI (nI p)), some (zI (nI 1)), x5] [] (c, n, a, b, v, f, r) := by
  refine r_ald rfl rfl ?_
  refine r_dup rfl rfl ?_
  refine r_get rfl rfl ?_
  refine r_ico (x := (nI 1)) rfl rfl ?_
  refine r_ibi (v := (nI (a + 1))) rfl (nI_add _ _) ?_
  refine r_put (s' := (c, n, a + 1, b, v, f, r)) rfl (Nat.le_of_ble_eq_true rfl) ⟨_, rfl⟩ rfl rfl ?_
  refine r_ald rfl rfl ?_
  refine r_call (as := [zR (some q)]) (r := []) (s' := (c, n, a + 1, b, v, f, r)) (v := some (zI (ahd n (a + 1) b (r 2)))) rfl rfl rfl (Nat.le_of_ble_eq_true rfl) (Or.inr ⟨rfl, rfl, _, rfl⟩) (c_ahead (by omega) (by omega)) ?_
  refine r_ico (x := (nI 42)) rfl rfl ?_
  refine r_cmp rfl (fun h_1 => ?_) (fun h_1 => ?_)
  · replace h_1 : ¬ (ahd n (a + 1) b (r 2)) = (nI 42) := h_1
    rw [cm3, if_neg (fun z => h_1 z.1)] at hQ
    refine r_ald rfl rfl ?_
    obtain ⟨a8, ha8⟩ : ∃ x, x = numA n (a + 1) b (r 2) := ⟨_, rfl⟩
    obtain ⟨b8, hb8⟩ : ∃ x, x = numB n (a + 1) b (r 2) := ⟨_, rfl⟩
    obtain ⟨v8, hv8⟩ : ∃ x, x = numV n (a + 1) b (r 2) := ⟨_, rfl⟩
    have la8 := numA_le (n := n) (a := a + 1) (b := b) (t := r 2) (by omega)
    rw [← ha8] at la8
    refine r_call (as := [zR (some q)]) (r := []) (s' := (c, n, a8, b8, v, f, r)) (v := some (zI (v8))) rfl rfl rfl (Nat.le_of_ble_eq_true rfl) (Or.inr ⟨rfl, rfl, _, rfl⟩) (by rw [ha8, hb8, hv8]; exact c_number (by omega) (by omega)) ?_
    refine r_ist (ls' := [some (zR (some q)), some (zI (nI row)), some (zI (sv)), some (zI (nI p)), some (zI (nI 1)), some (zI (v8))]) rfl (Nat.le_of_ble_eq_true rfl) rfl ?_
    refine r_ald rfl rfl ?_
    refine r_get rfl rfl ?_
    refine r_ild rfl rfl ?_
    refine r_ald rfl rfl ?_
    refine r_get rfl rfl ?_
    refine r_ild rfl rfl ?_
    refine r_ialdN (k0 := 11) rfl rfl (by omega) (by decide) ?_
    refine r_top (y := (nI 2)) (by simp [rar, rset, upd, hp]) ?_
    refine r_ico (x := (nI 1)) rfl rfl ?_
    refine r_cmpN (by omega) (by omega) rfl (fun h_2 => ?_) (fun h_2 => ?_)
    · replace h_2 : ¬ 2 = 1 := h_2
      refine r_ald rfl rfl ?_
      refine r_get rfl rfl ?_
      refine r_ild rfl rfl ?_
      refine r_ialdN (k0 := 6) rfl rfl (by omega) (by decide) ?_
      refine r_iastN (k0 := 6) (x' := (r 6 row)) rfl rfl (by omega) (by decide) rfl ?_
      refine r_ald rfl rfl ?_
      refine r_get rfl rfl ?_
      refine r_ild rfl rfl ?_
      refine r_ald rfl rfl ?_
      refine r_get rfl rfl ?_
      refine r_ild rfl rfl ?_
      refine r_ialdN (k0 := 11) rfl rfl (by omega) (by decide) ?_
      refine r_top (y := (nI 2)) (by simp [rar, rset, upd, hp]) ?_
      refine r_ico (x := (nI 2)) rfl rfl ?_
      refine r_cmpN (by omega) (by omega) rfl (fun h_3 => ?_) (fun h_3 => ?_)
      · replace h_3 : ¬ 2 = 2 := h_3
        omega
      · replace h_3 : 2 = 2 := Decidable.of_not_not h_3
        refine r_ild rfl rfl ?_
        refine r_go rfl ?_
        refine r_iastN (k0 := 7) (x' := (v8)) rfl rfl (by omega) (by decide) rfl ?_
        refine r_ald rfl rfl ?_
        refine r_get rfl rfl ?_
        refine r_ild rfl rfl ?_
        refine r_dup2 rfl rfl rfl ?_
        refine r_ialdN (k0 := 11) rfl rfl (by omega) (by decide) ?_
        refine r_top (y := (nI 2)) (by simp [rar, rset, upd, hp]) ?_
        refine r_ico (x := (nI 1)) rfl rfl ?_
        refine r_ibi (v := (nI 3)) rfl (nI_add 2 1) ?_
        refine r_iastN (k0 := 11) (x' := (nI 3)) rfl rfl (by omega) (by decide) rfl ?_
        refine r_ald rfl rfl ?_
        refine r_call (as := [zR (some q)]) (r := []) (s' := (c, n, a8, b8, v, f, rset (rset (rset r 6 row (r 6 row)) 7 row (v8)) 11 row (nI 3))) (v := some (zI (ahd n a8 b8 (r 2)))) rfl rfl rfl (Nat.le_of_ble_eq_true rfl) (Or.inr ⟨rfl, rfl, _, rfl⟩) (c_ahead (by omega) (by omega)) ?_
        refine r_ico (x := (nI 46)) rfl rfl ?_
        refine r_cmp rfl (fun h_4 => ?_) (fun h_4 => ?_)
        · replace h_4 : ¬ (ahd n a8 b8 (r 2)) = (nI 46) := h_4
          refine r_ico (x := (nI 0)) rfl rfl ?_
          refine r_ist (ls' := [some (zR (some q)), some (zI (nI row)), some (zI (sv)), some (zI (nI p)), some (zI (nI 0)), some (zI (v8))]) rfl (Nat.le_of_ble_eq_true rfl) rfl ?_
          refine r_go rfl ?_
          refine r_ild rfl rfl ?_
          refine r_ifN (by omega) rfl (fun h_5 => ?_) (fun h_5 => ?_)
          · replace h_5 : 0 = 0 := h_5
            refine r_ald rfl rfl ?_
            refine r_get rfl rfl ?_
            refine r_ild rfl rfl ?_
            refine r_ialdN (k0 := 11) rfl rfl (by omega) (by decide) ?_
            refine r_top (y := (nI 3)) (by simp [rar, rset, upd, hp]) ?_
            refine r_ico (x := (nI 3)) rfl rfl ?_
            refine r_cmpN (by omega) (by omega) rfl (fun h_6 => ?_) (fun h_6 => ?_)
            · replace h_6 : ¬ 3 = 3 := h_6
              omega
            · replace h_6 : 3 = 3 := Decidable.of_not_not h_6
              refine r_ald rfl rfl ?_
              refine r_ild rfl rfl ?_
              obtain ⟨w9, hw9⟩ : ∃ x, x = bwF row n a8 b8 (rset (rset (rset r 6 row (r 6 row)) 7 row (v8)) 11 row (nI 3)) := ⟨_, rfl⟩
              have lw9 := bwF_le (row := row) (n := n) (a := a8) (b := b8) (r := rset (rset (rset r 6 row (r 6 row)) 7 row (v8)) 11 row (nI 3)) (by omega)
              have tw9 : w9.2.2 2 = r 2 := by rw [hw9]; exact bwF_arr (by decide) (by decide)
              rw [← hw9] at lw9
              obtain ⟨a9, b9, r9⟩ := w9
              replace tw9 : r9 2 = r 2 := tw9
              replace lw9 : a8 ≤ a9 ∧ a9 ≤ n := lw9
              refine r_call (as := [zR (some q), zI (nI row)]) (r := []) (s' := (c, n, a9, b9, v, f, r9)) (v := none) rfl rfl rfl (Nat.le_of_ble_eq_true rfl) (Or.inr ⟨rfl, rfl, _, rfl⟩) (by have h9 := c_beforeWords (q := q) (qa := qa) (d := d) (c := c) (n := n) (a := a8) (v := v) (f := f) (row := row) (b := b8) (r := rset (rset (rset r 6 row (r 6 row)) 7 row (v8)) 11 row (nI 3)) (by omega) (by omega) (by omega); rw [← hw9] at h9; exact h9) ?_
              simp only [← ha8, ← hb8, ← hv8, ← hw9] at hQ
              refine r_ald rfl rfl ?_
              refine r_ald rfl rfl ?_
              refine r_get rfl rfl ?_
              refine r_ifB1 rfl (fun h_7 => ?_) (fun h_7 => ?_)
              · refine r_ico (x := (nI 1)) rfl rfl ?_
                refine r_go rfl ?_
                refine r_put (s' := (c, n, a9, true, v, f, r9)) rfl (Nat.le_of_ble_eq_true rfl) ⟨_, rfl, Or.inr rfl⟩ rfl rfl ?_
                refine r_rtv rfl ?_
                have e9 : (b9 || decide (24 < a9 - p)) = true := by first | (rw [h_7]; rfl) | (rw [h_6]; simp; omega)
                rw [e9] at hQ
                exact hQ
              · refine r_ald rfl rfl ?_
                refine r_get rfl rfl ?_
                refine r_ild rfl rfl ?_
                refine r_ibi (v := (nI (a9 - p))) rfl (pk_sub (by omega)) ?_
                refine r_ico (x := (nI 24)) rfl rfl ?_
                refine r_cmpN (by omega) (by omega) rfl (fun h_8 => ?_) (fun h_8 => ?_)
                · replace h_8 : a9 - p ≤ 24 := h_8
                  refine r_ico (x := (nI 0)) rfl rfl ?_
                  refine r_put (s' := (c, n, a9, false, v, f, r9)) rfl (Nat.le_of_ble_eq_true rfl) ⟨_, rfl, Or.inl rfl⟩ rfl rfl ?_
                  refine r_rtv rfl ?_
                  have e9 : (b9 || decide (24 < a9 - p)) = false := by first | (rw [h_8]; rfl) | (rw [h_7]; simp; omega)
                  rw [e9] at hQ
                  exact hQ
                · replace h_8 := Nat.not_le.mp h_8
                  refine r_ico (x := (nI 1)) rfl rfl ?_
                  refine r_go rfl ?_
                  refine r_put (s' := (c, n, a9, true, v, f, r9)) rfl (Nat.le_of_ble_eq_true rfl) ⟨_, rfl, Or.inr rfl⟩ rfl rfl ?_
                  refine r_rtv rfl ?_
                  have e9 : (b9 || decide (24 < a9 - p)) = true := by first | (rw [h_8]; rfl) | (rw [h_7]; simp; omega)
                  rw [e9] at hQ
                  exact hQ
          · replace h_5 : ¬ (0 = 0) := h_5
            omega
        · replace h_4 : (ahd n a8 b8 (r 2)) = (nI 46) := Decidable.of_not_not h_4
          refine r_ico (x := (nI 1)) rfl rfl ?_
          refine r_go rfl ?_
          refine r_ist (ls' := [some (zR (some q)), some (zI (nI row)), some (zI (sv)), some (zI (nI p)), some (zI (nI 1)), some (zI (v8))]) rfl (Nat.le_of_ble_eq_true rfl) rfl ?_
          refine r_go rfl ?_
          refine r_ild rfl rfl ?_
          refine r_ifN (by omega) rfl (fun h_9 => ?_) (fun h_9 => ?_)
          · replace h_9 : 1 = 0 := h_9
            omega
          · replace h_9 : ¬ (1 = 0) := h_9
            refine r_ald rfl rfl ?_
            refine r_get rfl rfl ?_
            refine r_ild rfl rfl ?_
            refine r_ialdN (k0 := 11) rfl rfl (by omega) (by decide) ?_
            refine r_top (y := (nI 3)) (by simp [rar, rset, upd, hp]) ?_
            refine r_ico (x := (nI 3)) rfl rfl ?_
            refine r_cmpN (by omega) (by omega) rfl (fun h_10 => ?_) (fun h_10 => ?_)
            · replace h_10 : 3 ≤ 3 := h_10
              refine r_ald rfl rfl ?_
              refine r_get rfl rfl ?_
              refine r_ild rfl rfl ?_
              refine r_ialdN (k0 := 11) rfl rfl (by omega) (by decide) ?_
              refine r_top (y := (nI 3)) (by simp [rar, rset, upd, hp]) ?_
              refine r_ico (x := (nI 3)) rfl rfl ?_
              refine r_cmpN (by omega) (by omega) rfl (fun h_11 => ?_) (fun h_11 => ?_)
              · replace h_11 : ¬ 3 = 3 := h_11
                omega
              · replace h_11 : 3 = 3 := Decidable.of_not_not h_11
                refine r_ald rfl rfl ?_
                refine r_ild rfl rfl ?_
                obtain ⟨w10, hw10⟩ : ∃ x, x = bwF row n a8 b8 (rset (rset (rset r 6 row (r 6 row)) 7 row (v8)) 11 row (nI 3)) := ⟨_, rfl⟩
                have lw10 := bwF_le (row := row) (n := n) (a := a8) (b := b8) (r := rset (rset (rset r 6 row (r 6 row)) 7 row (v8)) 11 row (nI 3)) (by omega)
                have tw10 : w10.2.2 2 = r 2 := by rw [hw10]; exact bwF_arr (by decide) (by decide)
                rw [← hw10] at lw10
                obtain ⟨a10, b10, r10⟩ := w10
                replace tw10 : r10 2 = r 2 := tw10
                replace lw10 : a8 ≤ a10 ∧ a10 ≤ n := lw10
                refine r_call (as := [zR (some q), zI (nI row)]) (r := []) (s' := (c, n, a10, b10, v, f, r10)) (v := none) rfl rfl rfl (Nat.le_of_ble_eq_true rfl) (Or.inr ⟨rfl, rfl, _, rfl⟩) (by have h9 := c_beforeWords (q := q) (qa := qa) (d := d) (c := c) (n := n) (a := a8) (v := v) (f := f) (row := row) (b := b8) (r := rset (rset (rset r 6 row (r 6 row)) 7 row (v8)) 11 row (nI 3)) (by omega) (by omega) (by omega); rw [← hw10] at h9; exact h9) ?_
                simp only [← ha8, ← hb8, ← hv8, ← hw10] at hQ
                refine r_ald rfl rfl ?_
                refine r_ald rfl rfl ?_
                refine r_get rfl rfl ?_
                refine r_ifB1 rfl (fun h_12 => ?_) (fun h_12 => ?_)
                · refine r_ico (x := (nI 1)) rfl rfl ?_
                  refine r_go rfl ?_
                  refine r_put (s' := (c, n, a10, true, v, f, r10)) rfl (Nat.le_of_ble_eq_true rfl) ⟨_, rfl, Or.inr rfl⟩ rfl rfl ?_
                  refine r_rtv rfl ?_
                  have e9 : (b10 || decide (24 < a10 - p)) = true := by first | (rw [h_12]; rfl) | (rw [h_11]; simp; omega)
                  rw [e9] at hQ
                  exact hQ
                · refine r_ald rfl rfl ?_
                  refine r_get rfl rfl ?_
                  refine r_ild rfl rfl ?_
                  refine r_ibi (v := (nI (a10 - p))) rfl (pk_sub (by omega)) ?_
                  refine r_ico (x := (nI 24)) rfl rfl ?_
                  refine r_cmpN (by omega) (by omega) rfl (fun h_13 => ?_) (fun h_13 => ?_)
                  · replace h_13 : a10 - p ≤ 24 := h_13
                    refine r_ico (x := (nI 0)) rfl rfl ?_
                    refine r_put (s' := (c, n, a10, false, v, f, r10)) rfl (Nat.le_of_ble_eq_true rfl) ⟨_, rfl, Or.inl rfl⟩ rfl rfl ?_
                    refine r_rtv rfl ?_
                    have e9 : (b10 || decide (24 < a10 - p)) = false := by first | (rw [h_13]; rfl) | (rw [h_12]; simp; omega)
                    rw [e9] at hQ
                    exact hQ
                  · replace h_13 := Nat.not_le.mp h_13
                    refine r_ico (x := (nI 1)) rfl rfl ?_
                    refine r_go rfl ?_
                    refine r_put (s' := (c, n, a10, true, v, f, r10)) rfl (Nat.le_of_ble_eq_true rfl) ⟨_, rfl, Or.inr rfl⟩ rfl rfl ?_
                    refine r_rtv rfl ?_
                    have e9 : (b10 || decide (24 < a10 - p)) = true := by first | (rw [h_13]; rfl) | (rw [h_12]; simp; omega)
                    rw [e9] at hQ
                    exact hQ
            · replace h_10 := Nat.not_le.mp h_10
              omega
    · replace h_2 : 2 = 1 := Decidable.of_not_not h_2
      omega
  · replace h_1 : (ahd n (a + 1) b (r 2)) = (nI 42) := Decidable.of_not_not h_1
    refine r_ild rfl rfl ?_
    refine r_if rfl (fun h_14 => ?_) (fun h_14 => ?_)
    · replace h_14 : 0 ≤ (sv) := h_14
      rw [cm3, if_neg (fun z => by simp at z; exact absurd z.2 (by simpa using h_14))] at hQ
      refine r_ald rfl rfl ?_
      obtain ⟨a11, ha11⟩ : ∃ x, x = numA n (a + 1) b (r 2) := ⟨_, rfl⟩
      obtain ⟨b11, hb11⟩ : ∃ x, x = numB n (a + 1) b (r 2) := ⟨_, rfl⟩
      obtain ⟨v11, hv11⟩ : ∃ x, x = numV n (a + 1) b (r 2) := ⟨_, rfl⟩
      have la11 := numA_le (n := n) (a := a + 1) (b := b) (t := r 2) (by omega)
      rw [← ha11] at la11
      refine r_call (as := [zR (some q)]) (r := []) (s' := (c, n, a11, b11, v, f, r)) (v := some (zI (v11))) rfl rfl rfl (Nat.le_of_ble_eq_true rfl) (Or.inr ⟨rfl, rfl, _, rfl⟩) (by rw [ha11, hb11, hv11]; exact c_number (by omega) (by omega)) ?_
      refine r_ist (ls' := [some (zR (some q)), some (zI (nI row)), some (zI (sv)), some (zI (nI p)), some (zI (nI 1)), some (zI (v11))]) rfl (Nat.le_of_ble_eq_true rfl) rfl ?_
      refine r_ald rfl rfl ?_
      refine r_get rfl rfl ?_
      refine r_ild rfl rfl ?_
      refine r_ald rfl rfl ?_
      refine r_get rfl rfl ?_
      refine r_ild rfl rfl ?_
      refine r_ialdN (k0 := 11) rfl rfl (by omega) (by decide) ?_
      refine r_top (y := (nI 2)) (by simp [rar, rset, upd, hp]) ?_
      refine r_ico (x := (nI 1)) rfl rfl ?_
      refine r_cmpN (by omega) (by omega) rfl (fun h_15 => ?_) (fun h_15 => ?_)
      · replace h_15 : ¬ 2 = 1 := h_15
        refine r_ald rfl rfl ?_
        refine r_get rfl rfl ?_
        refine r_ild rfl rfl ?_
        refine r_ialdN (k0 := 6) rfl rfl (by omega) (by decide) ?_
        refine r_iastN (k0 := 6) (x' := (r 6 row)) rfl rfl (by omega) (by decide) rfl ?_
        refine r_ald rfl rfl ?_
        refine r_get rfl rfl ?_
        refine r_ild rfl rfl ?_
        refine r_ald rfl rfl ?_
        refine r_get rfl rfl ?_
        refine r_ild rfl rfl ?_
        refine r_ialdN (k0 := 11) rfl rfl (by omega) (by decide) ?_
        refine r_top (y := (nI 2)) (by simp [rar, rset, upd, hp]) ?_
        refine r_ico (x := (nI 2)) rfl rfl ?_
        refine r_cmpN (by omega) (by omega) rfl (fun h_16 => ?_) (fun h_16 => ?_)
        · replace h_16 : ¬ 2 = 2 := h_16
          omega
        · replace h_16 : 2 = 2 := Decidable.of_not_not h_16
          refine r_ild rfl rfl ?_
          refine r_go rfl ?_
          refine r_iastN (k0 := 7) (x' := (v11)) rfl rfl (by omega) (by decide) rfl ?_
          refine r_ald rfl rfl ?_
          refine r_get rfl rfl ?_
          refine r_ild rfl rfl ?_
          refine r_dup2 rfl rfl rfl ?_
          refine r_ialdN (k0 := 11) rfl rfl (by omega) (by decide) ?_
          refine r_top (y := (nI 2)) (by simp [rar, rset, upd, hp]) ?_
          refine r_ico (x := (nI 1)) rfl rfl ?_
          refine r_ibi (v := (nI 3)) rfl (nI_add 2 1) ?_
          refine r_iastN (k0 := 11) (x' := (nI 3)) rfl rfl (by omega) (by decide) rfl ?_
          refine r_ald rfl rfl ?_
          refine r_call (as := [zR (some q)]) (r := []) (s' := (c, n, a11, b11, v, f, rset (rset (rset r 6 row (r 6 row)) 7 row (v11)) 11 row (nI 3))) (v := some (zI (ahd n a11 b11 (r 2)))) rfl rfl rfl (Nat.le_of_ble_eq_true rfl) (Or.inr ⟨rfl, rfl, _, rfl⟩) (c_ahead (by omega) (by omega)) ?_
          refine r_ico (x := (nI 46)) rfl rfl ?_
          refine r_cmp rfl (fun h_17 => ?_) (fun h_17 => ?_)
          · replace h_17 : ¬ (ahd n a11 b11 (r 2)) = (nI 46) := h_17
            refine r_ico (x := (nI 0)) rfl rfl ?_
            refine r_ist (ls' := [some (zR (some q)), some (zI (nI row)), some (zI (sv)), some (zI (nI p)), some (zI (nI 0)), some (zI (v11))]) rfl (Nat.le_of_ble_eq_true rfl) rfl ?_
            refine r_go rfl ?_
            refine r_ild rfl rfl ?_
            refine r_ifN (by omega) rfl (fun h_18 => ?_) (fun h_18 => ?_)
            · replace h_18 : 0 = 0 := h_18
              refine r_ald rfl rfl ?_
              refine r_get rfl rfl ?_
              refine r_ild rfl rfl ?_
              refine r_ialdN (k0 := 11) rfl rfl (by omega) (by decide) ?_
              refine r_top (y := (nI 3)) (by simp [rar, rset, upd, hp]) ?_
              refine r_ico (x := (nI 3)) rfl rfl ?_
              refine r_cmpN (by omega) (by omega) rfl (fun h_19 => ?_) (fun h_19 => ?_)
              · replace h_19 : ¬ 3 = 3 := h_19
                omega
              · replace h_19 : 3 = 3 := Decidable.of_not_not h_19
                refine r_ald rfl rfl ?_
                refine r_ild rfl rfl ?_
                obtain ⟨w12, hw12⟩ : ∃ x, x = bwF row n a11 b11 (rset (rset (rset r 6 row (r 6 row)) 7 row (v11)) 11 row (nI 3)) := ⟨_, rfl⟩
                have lw12 := bwF_le (row := row) (n := n) (a := a11) (b := b11) (r := rset (rset (rset r 6 row (r 6 row)) 7 row (v11)) 11 row (nI 3)) (by omega)
                have tw12 : w12.2.2 2 = r 2 := by rw [hw12]; exact bwF_arr (by decide) (by decide)
                rw [← hw12] at lw12
                obtain ⟨a12, b12, r12⟩ := w12
                replace tw12 : r12 2 = r 2 := tw12
                replace lw12 : a11 ≤ a12 ∧ a12 ≤ n := lw12
                refine r_call (as := [zR (some q), zI (nI row)]) (r := []) (s' := (c, n, a12, b12, v, f, r12)) (v := none) rfl rfl rfl (Nat.le_of_ble_eq_true rfl) (Or.inr ⟨rfl, rfl, _, rfl⟩) (by have h9 := c_beforeWords (q := q) (qa := qa) (d := d) (c := c) (n := n) (a := a11) (v := v) (f := f) (row := row) (b := b11) (r := rset (rset (rset r 6 row (r 6 row)) 7 row (v11)) 11 row (nI 3)) (by omega) (by omega) (by omega); rw [← hw12] at h9; exact h9) ?_
                simp only [← ha11, ← hb11, ← hv11, ← hw12] at hQ
                refine r_ald rfl rfl ?_
                refine r_ald rfl rfl ?_
                refine r_get rfl rfl ?_
                refine r_ifB1 rfl (fun h_20 => ?_) (fun h_20 => ?_)
                · refine r_ico (x := (nI 1)) rfl rfl ?_
                  refine r_go rfl ?_
                  refine r_put (s' := (c, n, a12, true, v, f, r12)) rfl (Nat.le_of_ble_eq_true rfl) ⟨_, rfl, Or.inr rfl⟩ rfl rfl ?_
                  refine r_rtv rfl ?_
                  have e9 : (b12 || decide (24 < a12 - p)) = true := by first | (rw [h_20]; rfl) | (rw [h_19]; simp; omega)
                  rw [e9] at hQ
                  exact hQ
                · refine r_ald rfl rfl ?_
                  refine r_get rfl rfl ?_
                  refine r_ild rfl rfl ?_
                  refine r_ibi (v := (nI (a12 - p))) rfl (pk_sub (by omega)) ?_
                  refine r_ico (x := (nI 24)) rfl rfl ?_
                  refine r_cmpN (by omega) (by omega) rfl (fun h_21 => ?_) (fun h_21 => ?_)
                  · replace h_21 : a12 - p ≤ 24 := h_21
                    refine r_ico (x := (nI 0)) rfl rfl ?_
                    refine r_put (s' := (c, n, a12, false, v, f, r12)) rfl (Nat.le_of_ble_eq_true rfl) ⟨_, rfl, Or.inl rfl⟩ rfl rfl ?_
                    refine r_rtv rfl ?_
                    have e9 : (b12 || decide (24 < a12 - p)) = false := by first | (rw [h_21]; rfl) | (rw [h_20]; simp; omega)
                    rw [e9] at hQ
                    exact hQ
                  · replace h_21 := Nat.not_le.mp h_21
                    refine r_ico (x := (nI 1)) rfl rfl ?_
                    refine r_go rfl ?_
                    refine r_put (s' := (c, n, a12, true, v, f, r12)) rfl (Nat.le_of_ble_eq_true rfl) ⟨_, rfl, Or.inr rfl⟩ rfl rfl ?_
                    refine r_rtv rfl ?_
                    have e9 : (b12 || decide (24 < a12 - p)) = true := by first | (rw [h_21]; rfl) | (rw [h_20]; simp; omega)
                    rw [e9] at hQ
                    exact hQ
            · replace h_18 : ¬ (0 = 0) := h_18
              omega
          · replace h_17 : (ahd n a11 b11 (r 2)) = (nI 46) := Decidable.of_not_not h_17
            refine r_ico (x := (nI 1)) rfl rfl ?_
            refine r_go rfl ?_
            refine r_ist (ls' := [some (zR (some q)), some (zI (nI row)), some (zI (sv)), some (zI (nI p)), some (zI (nI 1)), some (zI (v11))]) rfl (Nat.le_of_ble_eq_true rfl) rfl ?_
            refine r_go rfl ?_
            refine r_ild rfl rfl ?_
            refine r_ifN (by omega) rfl (fun h_22 => ?_) (fun h_22 => ?_)
            · replace h_22 : 1 = 0 := h_22
              omega
            · replace h_22 : ¬ (1 = 0) := h_22
              refine r_ald rfl rfl ?_
              refine r_get rfl rfl ?_
              refine r_ild rfl rfl ?_
              refine r_ialdN (k0 := 11) rfl rfl (by omega) (by decide) ?_
              refine r_top (y := (nI 3)) (by simp [rar, rset, upd, hp]) ?_
              refine r_ico (x := (nI 3)) rfl rfl ?_
              refine r_cmpN (by omega) (by omega) rfl (fun h_23 => ?_) (fun h_23 => ?_)
              · replace h_23 : 3 ≤ 3 := h_23
                refine r_ald rfl rfl ?_
                refine r_get rfl rfl ?_
                refine r_ild rfl rfl ?_
                refine r_ialdN (k0 := 11) rfl rfl (by omega) (by decide) ?_
                refine r_top (y := (nI 3)) (by simp [rar, rset, upd, hp]) ?_
                refine r_ico (x := (nI 3)) rfl rfl ?_
                refine r_cmpN (by omega) (by omega) rfl (fun h_24 => ?_) (fun h_24 => ?_)
                · replace h_24 : ¬ 3 = 3 := h_24
                  omega
                · replace h_24 : 3 = 3 := Decidable.of_not_not h_24
                  refine r_ald rfl rfl ?_
                  refine r_ild rfl rfl ?_
                  obtain ⟨w13, hw13⟩ : ∃ x, x = bwF row n a11 b11 (rset (rset (rset r 6 row (r 6 row)) 7 row (v11)) 11 row (nI 3)) := ⟨_, rfl⟩
                  have lw13 := bwF_le (row := row) (n := n) (a := a11) (b := b11) (r := rset (rset (rset r 6 row (r 6 row)) 7 row (v11)) 11 row (nI 3)) (by omega)
                  have tw13 : w13.2.2 2 = r 2 := by rw [hw13]; exact bwF_arr (by decide) (by decide)
                  rw [← hw13] at lw13
                  obtain ⟨a13, b13, r13⟩ := w13
                  replace tw13 : r13 2 = r 2 := tw13
                  replace lw13 : a11 ≤ a13 ∧ a13 ≤ n := lw13
                  refine r_call (as := [zR (some q), zI (nI row)]) (r := []) (s' := (c, n, a13, b13, v, f, r13)) (v := none) rfl rfl rfl (Nat.le_of_ble_eq_true rfl) (Or.inr ⟨rfl, rfl, _, rfl⟩) (by have h9 := c_beforeWords (q := q) (qa := qa) (d := d) (c := c) (n := n) (a := a11) (v := v) (f := f) (row := row) (b := b11) (r := rset (rset (rset r 6 row (r 6 row)) 7 row (v11)) 11 row (nI 3)) (by omega) (by omega) (by omega); rw [← hw13] at h9; exact h9) ?_
                  simp only [← ha11, ← hb11, ← hv11, ← hw13] at hQ
                  refine r_ald rfl rfl ?_
                  refine r_ald rfl rfl ?_
                  refine r_get rfl rfl ?_
                  refine r_ifB1 rfl (fun h_25 => ?_) (fun h_25 => ?_)
                  · refine r_ico (x := (nI 1)) rfl rfl ?_
                    refine r_go rfl ?_
                    refine r_put (s' := (c, n, a13, true, v, f, r13)) rfl (Nat.le_of_ble_eq_true rfl) ⟨_, rfl, Or.inr rfl⟩ rfl rfl ?_
                    refine r_rtv rfl ?_
                    have e9 : (b13 || decide (24 < a13 - p)) = true := by first | (rw [h_25]; rfl) | (rw [h_24]; simp; omega)
                    rw [e9] at hQ
                    exact hQ
                  · refine r_ald rfl rfl ?_
                    refine r_get rfl rfl ?_
                    refine r_ild rfl rfl ?_
                    refine r_ibi (v := (nI (a13 - p))) rfl (pk_sub (by omega)) ?_
                    refine r_ico (x := (nI 24)) rfl rfl ?_
                    refine r_cmpN (by omega) (by omega) rfl (fun h_26 => ?_) (fun h_26 => ?_)
                    · replace h_26 : a13 - p ≤ 24 := h_26
                      refine r_ico (x := (nI 0)) rfl rfl ?_
                      refine r_put (s' := (c, n, a13, false, v, f, r13)) rfl (Nat.le_of_ble_eq_true rfl) ⟨_, rfl, Or.inl rfl⟩ rfl rfl ?_
                      refine r_rtv rfl ?_
                      have e9 : (b13 || decide (24 < a13 - p)) = false := by first | (rw [h_26]; rfl) | (rw [h_25]; simp; omega)
                      rw [e9] at hQ
                      exact hQ
                    · replace h_26 := Nat.not_le.mp h_26
                      refine r_ico (x := (nI 1)) rfl rfl ?_
                      refine r_go rfl ?_
                      refine r_put (s' := (c, n, a13, true, v, f, r13)) rfl (Nat.le_of_ble_eq_true rfl) ⟨_, rfl, Or.inr rfl⟩ rfl rfl ?_
                      refine r_rtv rfl ?_
                      have e9 : (b13 || decide (24 < a13 - p)) = true := by first | (rw [h_26]; rfl) | (rw [h_25]; simp; omega)
                      rw [e9] at hQ
                      exact hQ
              · replace h_23 := Nat.not_le.mp h_23
                omega
      · replace h_15 : 2 = 1 := Decidable.of_not_not h_15
        omega
    · replace h_14 : ¬ (0 ≤ (sv)) := h_14
      refine r_ald rfl rfl ?_
      refine r_dup rfl rfl ?_
      refine r_get rfl rfl ?_
      refine r_ico (x := (nI 1)) rfl rfl ?_
      refine r_ibi (v := (nI (a + 1 + 1))) rfl (nI_add _ _) ?_
      refine r_put (s' := (c, n, a + 1 + 1, b, v, f, r)) rfl (Nat.le_of_ble_eq_true rfl) ⟨_, rfl⟩ rfl rfl ?_
      refine r_ald rfl rfl ?_
      refine r_get rfl rfl ?_
      refine r_ild rfl rfl ?_
      refine r_ico (x := (nI 3)) rfl rfl ?_
      refine r_iastN (k0 := 10) (x' := (nI 3)) rfl rfl (by omega) (by decide) rfl ?_
      refine r_rtv rfl ?_
      rw [cm3, if_pos ⟨h_1, by simpa using h_14⟩] at hQ
      exact hQ
set_option maxHeartbeats 2000000 in
theorem l_cm2 {q : Nat} {qa : Nat → Nat} {d c n a v f row p : Nat} {b : Bool} {sv : Int32} {x5 : Option zV} {r : rA} {Q : rS → (Option zV ⊕ Nat) → Prop} (hrow : row < 900) (hn : n ≤ 160) (ha : a < n) (hpa : p ≤ a) (hp : r 11 row = nI 1) (hQ : Q (c, n, (cm2 row n (a + 1) b (decide (sv < 0)) p r).1, (cm2 row n (a + 1) b (decide (sv < 0)) p r).2.1, v, f, (cm2 row n (a + 1) b (decide (sv < 0)) p r).2.2) (.inl none)) : rEv q qa (d + 4) tb_109 Q 135 [some (zR (some q)), some (zI (nI row)), some (zI (sv)), some (zI (nI p)), some (zI (nI 1)), x5] [] (c, n, a, b, v, f, r) := by
  refine r_ald rfl rfl ?_
  refine r_dup rfl rfl ?_
  refine r_get rfl rfl ?_
  refine r_ico (x := (nI 1)) rfl rfl ?_
  refine r_ibi (v := (nI (a + 1))) rfl (nI_add _ _) ?_
  refine r_put (s' := (c, n, a + 1, b, v, f, r)) rfl (Nat.le_of_ble_eq_true rfl) ⟨_, rfl⟩ rfl rfl ?_
  refine r_ald rfl rfl ?_
  refine r_call (as := [zR (some q)]) (r := []) (s' := (c, n, a + 1, b, v, f, r)) (v := some (zI (ahd n (a + 1) b (r 2)))) rfl rfl rfl (Nat.le_of_ble_eq_true rfl) (Or.inr ⟨rfl, rfl, _, rfl⟩) (c_ahead (by omega) (by omega)) ?_
  refine r_ico (x := (nI 42)) rfl rfl ?_
  refine r_cmp rfl (fun h_1 => ?_) (fun h_1 => ?_)
  · replace h_1 : ¬ (ahd n (a + 1) b (r 2)) = (nI 42) := h_1
    rw [cm2, if_neg (fun z => h_1 z.1)] at hQ
    refine r_ald rfl rfl ?_
    obtain ⟨a14, ha14⟩ : ∃ x, x = numA n (a + 1) b (r 2) := ⟨_, rfl⟩
    obtain ⟨b14, hb14⟩ : ∃ x, x = numB n (a + 1) b (r 2) := ⟨_, rfl⟩
    obtain ⟨v14, hv14⟩ : ∃ x, x = numV n (a + 1) b (r 2) := ⟨_, rfl⟩
    have la14 := numA_le (n := n) (a := a + 1) (b := b) (t := r 2) (by omega)
    rw [← ha14] at la14
    refine r_call (as := [zR (some q)]) (r := []) (s' := (c, n, a14, b14, v, f, r)) (v := some (zI (v14))) rfl rfl rfl (Nat.le_of_ble_eq_true rfl) (Or.inr ⟨rfl, rfl, _, rfl⟩) (by rw [ha14, hb14, hv14]; exact c_number (by omega) (by omega)) ?_
    refine r_ist (ls' := [some (zR (some q)), some (zI (nI row)), some (zI (sv)), some (zI (nI p)), some (zI (nI 1)), some (zI (v14))]) rfl (Nat.le_of_ble_eq_true rfl) rfl ?_
    refine r_ald rfl rfl ?_
    refine r_get rfl rfl ?_
    refine r_ild rfl rfl ?_
    refine r_ald rfl rfl ?_
    refine r_get rfl rfl ?_
    refine r_ild rfl rfl ?_
    refine r_ialdN (k0 := 11) rfl rfl (by omega) (by decide) ?_
    refine r_top (y := (nI 1)) (by simp [rar, rset, upd, hp]) ?_
    refine r_ico (x := (nI 1)) rfl rfl ?_
    refine r_cmpN (by omega) (by omega) rfl (fun h_2 => ?_) (fun h_2 => ?_)
    · replace h_2 : ¬ 1 = 1 := h_2
      omega
    · replace h_2 : 1 = 1 := Decidable.of_not_not h_2
      refine r_ild rfl rfl ?_
      refine r_go rfl ?_
      refine r_iastN (k0 := 6) (x' := (v14)) rfl rfl (by omega) (by decide) rfl ?_
      refine r_ald rfl rfl ?_
      refine r_get rfl rfl ?_
      refine r_ild rfl rfl ?_
      refine r_ald rfl rfl ?_
      refine r_get rfl rfl ?_
      refine r_ild rfl rfl ?_
      refine r_ialdN (k0 := 11) rfl rfl (by omega) (by decide) ?_
      refine r_top (y := (nI 1)) (by simp [rar, rset, upd, hp]) ?_
      refine r_ico (x := (nI 2)) rfl rfl ?_
      refine r_cmpN (by omega) (by omega) rfl (fun h_3 => ?_) (fun h_3 => ?_)
      · replace h_3 : ¬ 1 = 2 := h_3
        refine r_ico (x := (nI 0)) rfl rfl ?_
        refine r_iastN (k0 := 7) (x' := (nI 0)) rfl rfl (by omega) (by decide) rfl ?_
        refine r_ald rfl rfl ?_
        refine r_get rfl rfl ?_
        refine r_ild rfl rfl ?_
        refine r_dup2 rfl rfl rfl ?_
        refine r_ialdN (k0 := 11) rfl rfl (by omega) (by decide) ?_
        refine r_top (y := (nI 1)) (by simp [rar, rset, upd, hp]) ?_
        refine r_ico (x := (nI 1)) rfl rfl ?_
        refine r_ibi (v := (nI 2)) rfl (nI_add 1 1) ?_
        refine r_iastN (k0 := 11) (x' := (nI 2)) rfl rfl (by omega) (by decide) rfl ?_
        refine r_ald rfl rfl ?_
        refine r_call (as := [zR (some q)]) (r := []) (s' := (c, n, a14, b14, v, f, rset (rset (rset r 6 row (v14)) 7 row (nI 0)) 11 row (nI 2))) (v := some (zI (ahd n a14 b14 (r 2)))) rfl rfl rfl (Nat.le_of_ble_eq_true rfl) (Or.inr ⟨rfl, rfl, _, rfl⟩) (c_ahead (by omega) (by omega)) ?_
        refine r_ico (x := (nI 46)) rfl rfl ?_
        refine r_cmp rfl (fun h_4 => ?_) (fun h_4 => ?_)
        · replace h_4 : ¬ (ahd n a14 b14 (r 2)) = (nI 46) := h_4
          refine r_ico (x := (nI 0)) rfl rfl ?_
          refine r_ist (ls' := [some (zR (some q)), some (zI (nI row)), some (zI (sv)), some (zI (nI p)), some (zI (nI 0)), some (zI (v14))]) rfl (Nat.le_of_ble_eq_true rfl) rfl ?_
          refine r_go rfl ?_
          refine r_ild rfl rfl ?_
          refine r_ifN (by omega) rfl (fun h_5 => ?_) (fun h_5 => ?_)
          · replace h_5 : 0 = 0 := h_5
            rw [← ha14, ← hb14, ← hv14] at hQ
            simp only [if_neg h_4] at hQ
            refine r_ald rfl rfl ?_
            refine r_get rfl rfl ?_
            refine r_ild rfl rfl ?_
            refine r_ialdN (k0 := 11) rfl rfl (by omega) (by decide) ?_
            refine r_top (y := (nI 2)) (by simp [rar, rset, upd, hp]) ?_
            refine r_ico (x := (nI 3)) rfl rfl ?_
            refine r_cmpN (by omega) (by omega) rfl (fun h_6 => ?_) (fun h_6 => ?_)
            · replace h_6 : ¬ 2 = 3 := h_6
              refine r_rtv rfl ?_
              exact hQ
            · replace h_6 : 2 = 3 := Decidable.of_not_not h_6
              omega
          · replace h_5 : ¬ (0 = 0) := h_5
            omega
        · replace h_4 : (ahd n a14 b14 (r 2)) = (nI 46) := Decidable.of_not_not h_4
          refine r_ico (x := (nI 1)) rfl rfl ?_
          refine r_go rfl ?_
          refine r_ist (ls' := [some (zR (some q)), some (zI (nI row)), some (zI (sv)), some (zI (nI p)), some (zI (nI 1)), some (zI (v14))]) rfl (Nat.le_of_ble_eq_true rfl) rfl ?_
          refine r_go rfl ?_
          refine r_ild rfl rfl ?_
          refine r_ifN (by omega) rfl (fun h_7 => ?_) (fun h_7 => ?_)
          · replace h_7 : 1 = 0 := h_7
            omega
          · replace h_7 : ¬ (1 = 0) := h_7
            refine r_ald rfl rfl ?_
            refine r_get rfl rfl ?_
            refine r_ild rfl rfl ?_
            refine r_ialdN (k0 := 11) rfl rfl (by omega) (by decide) ?_
            refine r_top (y := (nI 2)) (by simp [rar, rset, upd, hp]) ?_
            refine r_ico (x := (nI 3)) rfl rfl ?_
            refine r_cmpN (by omega) (by omega) rfl (fun h_8 => ?_) (fun h_8 => ?_)
            · replace h_8 : 3 ≤ 2 := h_8
              omega
            · replace h_8 := Nat.not_le.mp h_8
              rw [← ha14, ← hb14, ← hv14] at hQ
              simp only [if_pos h_4] at hQ
              obtain ⟨-, g2, -⟩ := ahd_eq h_4 (by decide +kernel)
              exact l_cm3 hrow hn (by omega) (by omega) (by simp [rset, upd]) hQ
      · replace h_3 : 1 = 2 := Decidable.of_not_not h_3
        omega
  · replace h_1 : (ahd n (a + 1) b (r 2)) = (nI 42) := Decidable.of_not_not h_1
    refine r_ild rfl rfl ?_
    refine r_if rfl (fun h_9 => ?_) (fun h_9 => ?_)
    · replace h_9 : 0 ≤ (sv) := h_9
      rw [cm2, if_neg (fun z => by simp at z; exact absurd z.2 (by simpa using h_9))] at hQ
      refine r_ald rfl rfl ?_
      obtain ⟨a15, ha15⟩ : ∃ x, x = numA n (a + 1) b (r 2) := ⟨_, rfl⟩
      obtain ⟨b15, hb15⟩ : ∃ x, x = numB n (a + 1) b (r 2) := ⟨_, rfl⟩
      obtain ⟨v15, hv15⟩ : ∃ x, x = numV n (a + 1) b (r 2) := ⟨_, rfl⟩
      have la15 := numA_le (n := n) (a := a + 1) (b := b) (t := r 2) (by omega)
      rw [← ha15] at la15
      refine r_call (as := [zR (some q)]) (r := []) (s' := (c, n, a15, b15, v, f, r)) (v := some (zI (v15))) rfl rfl rfl (Nat.le_of_ble_eq_true rfl) (Or.inr ⟨rfl, rfl, _, rfl⟩) (by rw [ha15, hb15, hv15]; exact c_number (by omega) (by omega)) ?_
      refine r_ist (ls' := [some (zR (some q)), some (zI (nI row)), some (zI (sv)), some (zI (nI p)), some (zI (nI 1)), some (zI (v15))]) rfl (Nat.le_of_ble_eq_true rfl) rfl ?_
      refine r_ald rfl rfl ?_
      refine r_get rfl rfl ?_
      refine r_ild rfl rfl ?_
      refine r_ald rfl rfl ?_
      refine r_get rfl rfl ?_
      refine r_ild rfl rfl ?_
      refine r_ialdN (k0 := 11) rfl rfl (by omega) (by decide) ?_
      refine r_top (y := (nI 1)) (by simp [rar, rset, upd, hp]) ?_
      refine r_ico (x := (nI 1)) rfl rfl ?_
      refine r_cmpN (by omega) (by omega) rfl (fun h_10 => ?_) (fun h_10 => ?_)
      · replace h_10 : ¬ 1 = 1 := h_10
        omega
      · replace h_10 : 1 = 1 := Decidable.of_not_not h_10
        refine r_ild rfl rfl ?_
        refine r_go rfl ?_
        refine r_iastN (k0 := 6) (x' := (v15)) rfl rfl (by omega) (by decide) rfl ?_
        refine r_ald rfl rfl ?_
        refine r_get rfl rfl ?_
        refine r_ild rfl rfl ?_
        refine r_ald rfl rfl ?_
        refine r_get rfl rfl ?_
        refine r_ild rfl rfl ?_
        refine r_ialdN (k0 := 11) rfl rfl (by omega) (by decide) ?_
        refine r_top (y := (nI 1)) (by simp [rar, rset, upd, hp]) ?_
        refine r_ico (x := (nI 2)) rfl rfl ?_
        refine r_cmpN (by omega) (by omega) rfl (fun h_11 => ?_) (fun h_11 => ?_)
        · replace h_11 : ¬ 1 = 2 := h_11
          refine r_ico (x := (nI 0)) rfl rfl ?_
          refine r_iastN (k0 := 7) (x' := (nI 0)) rfl rfl (by omega) (by decide) rfl ?_
          refine r_ald rfl rfl ?_
          refine r_get rfl rfl ?_
          refine r_ild rfl rfl ?_
          refine r_dup2 rfl rfl rfl ?_
          refine r_ialdN (k0 := 11) rfl rfl (by omega) (by decide) ?_
          refine r_top (y := (nI 1)) (by simp [rar, rset, upd, hp]) ?_
          refine r_ico (x := (nI 1)) rfl rfl ?_
          refine r_ibi (v := (nI 2)) rfl (nI_add 1 1) ?_
          refine r_iastN (k0 := 11) (x' := (nI 2)) rfl rfl (by omega) (by decide) rfl ?_
          refine r_ald rfl rfl ?_
          refine r_call (as := [zR (some q)]) (r := []) (s' := (c, n, a15, b15, v, f, rset (rset (rset r 6 row (v15)) 7 row (nI 0)) 11 row (nI 2))) (v := some (zI (ahd n a15 b15 (r 2)))) rfl rfl rfl (Nat.le_of_ble_eq_true rfl) (Or.inr ⟨rfl, rfl, _, rfl⟩) (c_ahead (by omega) (by omega)) ?_
          refine r_ico (x := (nI 46)) rfl rfl ?_
          refine r_cmp rfl (fun h_12 => ?_) (fun h_12 => ?_)
          · replace h_12 : ¬ (ahd n a15 b15 (r 2)) = (nI 46) := h_12
            refine r_ico (x := (nI 0)) rfl rfl ?_
            refine r_ist (ls' := [some (zR (some q)), some (zI (nI row)), some (zI (sv)), some (zI (nI p)), some (zI (nI 0)), some (zI (v15))]) rfl (Nat.le_of_ble_eq_true rfl) rfl ?_
            refine r_go rfl ?_
            refine r_ild rfl rfl ?_
            refine r_ifN (by omega) rfl (fun h_13 => ?_) (fun h_13 => ?_)
            · replace h_13 : 0 = 0 := h_13
              rw [← ha15, ← hb15, ← hv15] at hQ
              simp only [if_neg h_12] at hQ
              refine r_ald rfl rfl ?_
              refine r_get rfl rfl ?_
              refine r_ild rfl rfl ?_
              refine r_ialdN (k0 := 11) rfl rfl (by omega) (by decide) ?_
              refine r_top (y := (nI 2)) (by simp [rar, rset, upd, hp]) ?_
              refine r_ico (x := (nI 3)) rfl rfl ?_
              refine r_cmpN (by omega) (by omega) rfl (fun h_14 => ?_) (fun h_14 => ?_)
              · replace h_14 : ¬ 2 = 3 := h_14
                refine r_rtv rfl ?_
                exact hQ
              · replace h_14 : 2 = 3 := Decidable.of_not_not h_14
                omega
            · replace h_13 : ¬ (0 = 0) := h_13
              omega
          · replace h_12 : (ahd n a15 b15 (r 2)) = (nI 46) := Decidable.of_not_not h_12
            refine r_ico (x := (nI 1)) rfl rfl ?_
            refine r_go rfl ?_
            refine r_ist (ls' := [some (zR (some q)), some (zI (nI row)), some (zI (sv)), some (zI (nI p)), some (zI (nI 1)), some (zI (v15))]) rfl (Nat.le_of_ble_eq_true rfl) rfl ?_
            refine r_go rfl ?_
            refine r_ild rfl rfl ?_
            refine r_ifN (by omega) rfl (fun h_15 => ?_) (fun h_15 => ?_)
            · replace h_15 : 1 = 0 := h_15
              omega
            · replace h_15 : ¬ (1 = 0) := h_15
              refine r_ald rfl rfl ?_
              refine r_get rfl rfl ?_
              refine r_ild rfl rfl ?_
              refine r_ialdN (k0 := 11) rfl rfl (by omega) (by decide) ?_
              refine r_top (y := (nI 2)) (by simp [rar, rset, upd, hp]) ?_
              refine r_ico (x := (nI 3)) rfl rfl ?_
              refine r_cmpN (by omega) (by omega) rfl (fun h_16 => ?_) (fun h_16 => ?_)
              · replace h_16 : 3 ≤ 2 := h_16
                omega
              · replace h_16 := Nat.not_le.mp h_16
                rw [← ha15, ← hb15, ← hv15] at hQ
                simp only [if_pos h_12] at hQ
                obtain ⟨-, g2, -⟩ := ahd_eq h_12 (by decide +kernel)
                exact l_cm3 hrow hn (by omega) (by omega) (by simp [rset, upd]) hQ
        · replace h_11 : 1 = 2 := Decidable.of_not_not h_11
          omega
    · replace h_9 : ¬ (0 ≤ (sv)) := h_9
      refine r_ald rfl rfl ?_
      refine r_dup rfl rfl ?_
      refine r_get rfl rfl ?_
      refine r_ico (x := (nI 1)) rfl rfl ?_
      refine r_ibi (v := (nI (a + 1 + 1))) rfl (nI_add _ _) ?_
      refine r_put (s' := (c, n, a + 1 + 1, b, v, f, r)) rfl (Nat.le_of_ble_eq_true rfl) ⟨_, rfl⟩ rfl rfl ?_
      refine r_ald rfl rfl ?_
      refine r_get rfl rfl ?_
      refine r_ild rfl rfl ?_
      refine r_ico (x := (nI 3)) rfl rfl ?_
      refine r_iastN (k0 := 10) (x' := (nI 3)) rfl rfl (by omega) (by decide) rfl ?_
      refine r_rtv rfl ?_
      rw [cm2, if_pos ⟨h_1, by simpa using h_9⟩] at hQ
      exact hQ
