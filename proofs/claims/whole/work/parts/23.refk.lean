/-- a row against three numbers without words -/
def oT (r : rA) (i : Nat) (x y z : Int32) : Int32 :=
  if r 5 i = x then (if r 6 i = y then (if r 7 i = z then (if r 8 i ≤ 0 then nI 0 else -1) else if z ≤ r 7 i then nI 1 else -1) else if y ≤ r 6 i then nI 1 else -1) else if x ≤ r 5 i then nI 1 else -1
set_option maxHeartbeats 1000000 in
theorem c_publication {q : Nat} {qa : Nat → Nat} {d c n a v f : Nat} {b : Bool} {r : rA}  (hn : n ≤ 160) : rFun q qa (d + 7) 122 [zR (some q)] (c, n, a, b, v, f, r) (c, n, (pubF n r).1, (pubF n r).2.1, v, f, (pubF n r).2.2) none := by
  refine rFun.of (d := d + 6) (T := tb_122) (L := [some (zR (some q)), none, none, none]) (Nat.le_of_ble_eq_true rfl) rfl rfl ?_
  refine r_ald rfl rfl ?_
  refine r_call (as := [zR (some q)]) (r := []) (s' := (c, n, 0, false, v, f, r)) (v := none) rfl rfl rfl (Nat.le_of_ble_eq_true rfl) (Or.inr ⟨rfl, rfl, _, rfl⟩) c_begin ?_
  refine r_ald rfl rfl ?_
  obtain ⟨w0, hw0⟩ : ∃ x, x = verF n 0 false r := ⟨_, rfl⟩
  have ok0 := verF_ok (n := n) (a := 0) (b := false) (r := r) (Nat.zero_le _)
  rw [← hw0] at ok0
  obtain ⟨a0, b0, r0⟩ := w0
  have la0 : a0 ≤ n := ok0.1
  refine r_call (as := [zR (some q)]) (r := []) (s' := (c, n, a0, b0, v, f, r0)) (v := none) rfl rfl rfl (Nat.le_of_ble_eq_true rfl) (Or.inr ⟨rfl, rfl, _, rfl⟩) (by have h9 := c_version (q := q) (qa := qa) (d := d + 1) (c := c) (n := n) (a := 0) (v := v) (f := f) (b := false) (r := r) hn (Nat.zero_le _); rw [← hw0] at h9; exact h9) ?_
  refine r_ald rfl rfl ?_
  refine r_get rfl rfl ?_
  refine r_ico (x := (nI 40)) rfl rfl ?_
  refine r_ico (x := (nI 0)) rfl rfl ?_
  refine r_iastN (k0 := 14) (x' := (nI 0)) rfl rfl (by omega) (by decide) rfl ?_
  have e1 : pubF n r = if b0 = true then (a0, true, rset r0 14 40 (nI 0)) else puF n 6 0 a0 (rset r0 14 40 (nI 0)) := by unfold pubF; rw [← hw0]
  rw [e1]
  cases b0 with
  | true => exact l_puB hn (by omega) ⟨rfl, rfl⟩
  | false => exact l_pu hn 6 0 a0 _ _ _ _ (by omega) (by omega) la0 (by simp [rset, upd]) ⟨rfl, rfl⟩
set_option maxHeartbeats 1000000 in
theorem c_asks {q : Nat} {qa : Nat → Nat} {d c n a v f : Nat} {b : Bool} {r : rA}  (hn : n ≤ 160) : rFun q qa (d + 7) 128 [zR (some q)] (c, n, a, b, v, f, r) (c, 0, (rqR 213 n 0 r).1, (rqR 213 n 0 r).2.1, v, f, (rqR 213 n 0 r).2.2) (some (zI (bI (!(rqR 213 n 0 r).2.1 && decide ((rqR 213 n 0 r).1 = n))))) := by
  refine rFun.of (d := d + 6) (T := tb_128) (L := [some (zR (some q))]) (Nat.le_of_ble_eq_true rfl) rfl rfl ?_
  refine r_ald rfl rfl ?_
  refine r_call (as := [zR (some q)]) (r := []) (s' := (c, n, 0, false, v, f, r)) (v := none) rfl rfl rfl (Nat.le_of_ble_eq_true rfl) (Or.inr ⟨rfl, rfl, _, rfl⟩) c_begin ?_
  refine r_ald rfl rfl ?_
  refine r_ico (x := (nI 213)) rfl rfl ?_
  obtain ⟨w0, hw0⟩ : ∃ x, x = rqR 213 n 0 r := ⟨_, rfl⟩
  have ok0 := rqR_ok (r0 := 213) (n := n) (a := 0) (r := r) (Nat.zero_le _)
  rw [← hw0] at ok0
  obtain ⟨a0, b0, r0⟩ := w0
  have la0 : a0 ≤ n := ok0.1.2
  refine r_call (as := [zR (some q), zI (nI 213)]) (r := []) (s' := (c, n, a0, b0, v, f, r0)) (v := none) rfl rfl rfl (Nat.le_of_ble_eq_true rfl) (Or.inr ⟨rfl, rfl, _, rfl⟩) (by have h9 := c_requirement (q := q) (qa := qa) (d := d) (c := c) (n := n) (a := 0) (v := v) (f := f) (b := false) (r0 := 213) (r := r) (by omega) hn (Nat.zero_le _); rw [← hw0] at h9; exact h9) ?_
  refine r_ald rfl rfl ?_
  refine r_call (as := [zR (some q)]) (r := []) (s' := (c, 0, a0, b0, v, f, r0)) (v := some (zI (bI (!b0 && decide (a0 = n))))) rfl rfl rfl (Nat.le_of_ble_eq_true rfl) (Or.inr ⟨rfl, rfl, _, rfl⟩) (c_isRight (by omega) (by omega)) ?_
  refine r_ret rfl ⟨_, rfl, bI_01 _⟩ ?_
  rw [← hw0]
  exact ⟨rfl, rfl⟩
set_option maxHeartbeats 1000000 in
theorem c_orderTo {q : Nat} {qa : Nat → Nat} {d c n a v f : Nat} {b : Bool} {r : rA} {i : Nat} {x y z : Int32} (hi : i < 900) : rFun q qa (d + 1) 118 [zR (some q), zI (nI i), zI (x), zI (y), zI (z)] (c, n, a, b, v, f, r) (c, n, a, b, v, f, r) (some (zI (oT r i x y z))) := by
  refine rFun.of (T := tb_118) (L := [some (zR (some q)), some (zI (nI i)), some (zI (x)), some (zI (y)), some (zI (z))]) (Nat.le_of_ble_eq_true rfl) rfl rfl ?_
  refine r_ald rfl rfl ?_
  refine r_get rfl rfl ?_
  refine r_ild rfl rfl ?_
  refine r_ialdN (k0 := 5) rfl rfl (by omega) (by decide) ?_
  refine r_ild rfl rfl ?_
  refine r_cmp rfl (fun h_1 => ?_) (fun h_1 => ?_)
  · replace h_1 : (r 5 i) = (x) := h_1
    refine r_ald rfl rfl ?_
    refine r_get rfl rfl ?_
    refine r_ild rfl rfl ?_
    refine r_ialdN (k0 := 6) rfl rfl (by omega) (by decide) ?_
    refine r_ild rfl rfl ?_
    refine r_cmp rfl (fun h_2 => ?_) (fun h_2 => ?_)
    · replace h_2 : (r 6 i) = (y) := h_2
      refine r_ald rfl rfl ?_
      refine r_get rfl rfl ?_
      refine r_ild rfl rfl ?_
      refine r_ialdN (k0 := 7) rfl rfl (by omega) (by decide) ?_
      refine r_ild rfl rfl ?_
      refine r_cmp rfl (fun h_3 => ?_) (fun h_3 => ?_)
      · replace h_3 : (r 7 i) = (z) := h_3
        refine r_ald rfl rfl ?_
        refine r_get rfl rfl ?_
        refine r_ild rfl rfl ?_
        refine r_ialdN (k0 := 8) rfl rfl (by omega) (by decide) ?_
        refine r_if rfl (fun h_4 => ?_) (fun h_4 => ?_)
        · replace h_4 : (r 8 i) ≤ 0 := h_4
          refine r_ico (x := (nI 0)) rfl rfl ?_
          refine r_ret rfl ⟨_, rfl⟩ ?_
          exact ⟨rfl, by simp [oT, *]⟩
        · replace h_4 : ¬ ((r 8 i) ≤ 0) := h_4
          refine r_ico (x := (-1)) rfl rfl ?_
          refine r_go rfl ?_
          refine r_ret rfl ⟨_, rfl⟩ ?_
          exact ⟨rfl, by simp [oT, *]⟩
      · replace h_3 : ¬ ((r 7 i) = (z)) := h_3
        refine r_ald rfl rfl ?_
        refine r_get rfl rfl ?_
        refine r_ild rfl rfl ?_
        refine r_ialdN (k0 := 7) rfl rfl (by omega) (by decide) ?_
        refine r_ild rfl rfl ?_
        refine r_cmp rfl (fun h_5 => ?_) (fun h_5 => ?_)
        · replace h_5 : (z) ≤ (r 7 i) := h_5
          refine r_ico (x := (nI 1)) rfl rfl ?_
          refine r_ret rfl ⟨_, rfl⟩ ?_
          exact ⟨rfl, by simp [oT, *]⟩
        · replace h_5 : ¬ ((z) ≤ (r 7 i)) := h_5
          refine r_ico (x := (-1)) rfl rfl ?_
          refine r_go rfl ?_
          refine r_ret rfl ⟨_, rfl⟩ ?_
          exact ⟨rfl, by simp [oT, *]⟩
    · replace h_2 : ¬ ((r 6 i) = (y)) := h_2
      refine r_ald rfl rfl ?_
      refine r_get rfl rfl ?_
      refine r_ild rfl rfl ?_
      refine r_ialdN (k0 := 6) rfl rfl (by omega) (by decide) ?_
      refine r_ild rfl rfl ?_
      refine r_cmp rfl (fun h_6 => ?_) (fun h_6 => ?_)
      · replace h_6 : (y) ≤ (r 6 i) := h_6
        refine r_ico (x := (nI 1)) rfl rfl ?_
        refine r_ret rfl ⟨_, rfl⟩ ?_
        exact ⟨rfl, by simp [oT, *]⟩
      · replace h_6 : ¬ ((y) ≤ (r 6 i)) := h_6
        refine r_ico (x := (-1)) rfl rfl ?_
        refine r_go rfl ?_
        refine r_ret rfl ⟨_, rfl⟩ ?_
        exact ⟨rfl, by simp [oT, *]⟩
  · replace h_1 : ¬ ((r 5 i) = (x)) := h_1
    refine r_ald rfl rfl ?_
    refine r_get rfl rfl ?_
    refine r_ild rfl rfl ?_
    refine r_ialdN (k0 := 5) rfl rfl (by omega) (by decide) ?_
    refine r_ild rfl rfl ?_
    refine r_cmp rfl (fun h_7 => ?_) (fun h_7 => ?_)
    · replace h_7 : (x) ≤ (r 5 i) := h_7
      refine r_ico (x := (nI 1)) rfl rfl ?_
      refine r_ret rfl ⟨_, rfl⟩ ?_
      exact ⟨rfl, by simp [oT, *]⟩
    · replace h_7 : ¬ ((x) ≤ (r 5 i)) := h_7
      refine r_ico (x := (-1)) rfl rfl ?_
      refine r_go rfl ?_
      refine r_ret rfl ⟨_, rfl⟩ ?_
      exact ⟨rfl, by simp [oT, *]⟩
