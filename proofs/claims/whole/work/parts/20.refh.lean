theorem cm3_ok {row n a : Nat} {b neg : Bool} {p : Nat} {r : rA} (h : a ≤ n) : (a ≤ (cm3 row n a b neg p r).1 ∧ (cm3 row n a b neg p r).1 ≤ n) ∧ ∀ j, j ≠ 6 → j ≠ 7 → j ≠ 8 → j ≠ 9 → j ≠ 10 → j ≠ 11 → (cm3 row n a b neg p r).2.2 j = r j := by
  unfold cm3
  split
  · rename_i g
    have := (ahd_eq g.1 (by decide +kernel)).2.1
    exact ⟨⟨Nat.le_succ _, this⟩, fun j _ _ _ _ h5 _ => rset_n _ _ _ h5⟩
  · have h1 := numA_le (n := n) (a := a) (b := b) (t := r 2) h
    have h2 := bwF_le (row := row) (n := n) (a := numA n a b (r 2)) (b := numB n a b (r 2)) (r := rset (rset (rset r 6 row (r 6 row)) 7 row (numV n a b (r 2))) 11 row (nI 3)) h1.2
    refine ⟨⟨Nat.le_trans h1.1 h2.1, h2.2⟩, fun j g1 g2 g3 g4 g5 g6 => ?_⟩
    show (bwF row n _ _ _).2.2 j = _
    rw [bwF_arr g3 g4, rset_n _ _ _ g6, rset_n _ _ _ g2, rset_n _ _ _ g1]
theorem cm2_ok {row n a : Nat} {b neg : Bool} {p : Nat} {r : rA} (h : a ≤ n) : (a ≤ (cm2 row n a b neg p r).1 ∧ (cm2 row n a b neg p r).1 ≤ n) ∧ ∀ j, j ≠ 6 → j ≠ 7 → j ≠ 8 → j ≠ 9 → j ≠ 10 → j ≠ 11 → (cm2 row n a b neg p r).2.2 j = r j := by
  unfold cm2
  split
  · rename_i g
    have := (ahd_eq g.1 (by decide +kernel)).2.1
    exact ⟨⟨Nat.le_succ _, this⟩, fun j _ _ _ _ h5 _ => rset_n _ _ _ h5⟩
  · have h1 := numA_le (n := n) (a := a) (b := b) (t := r 2) h
    dsimp only
    split
    · rename_i g
      have g2 := (ahd_eq g (by decide +kernel)).2.1
      have h2 := cm3_ok (row := row) (n := n) (a := numA n a b (r 2) + 1) (b := numB n a b (r 2)) (neg := neg) (p := p) (r := rset (rset (rset r 6 row (numV n a b (r 2))) 7 row (nI 0)) 11 row (nI 2)) g2
      refine ⟨⟨by omega, h2.1.2⟩, fun j g1 g2 g3 g4 g5 g6 => ?_⟩
      rw [h2.2 j g1 g2 g3 g4 g5 g6, rset_n _ _ _ g6, rset_n _ _ _ g2, rset_n _ _ _ g1]
    · refine ⟨h1, fun j g1 g2 g3 g4 g5 g6 => ?_⟩
      show rset _ 11 row _ j = _
      rw [rset_n _ _ _ g6, rset_n _ _ _ g2, rset_n _ _ _ g1]
theorem cm1_ok {row n a : Nat} {b neg : Bool} {r : rA} (h : a ≤ n) : (a ≤ (cm1 row n a b neg r).1 ∧ (cm1 row n a b neg r).1 ≤ n) ∧ ∀ j, j ≠ 5 → j ≠ 6 → j ≠ 7 → j ≠ 8 → j ≠ 9 → j ≠ 10 → j ≠ 11 → (cm1 row n a b neg r).2.2 j = r j := by
  have h1 := numA_le (n := n) (a := a) (b := b) (t := r 2) h
  unfold cm1
  dsimp only
  split
  · rename_i g
    have g2 := (ahd_eq g (by decide +kernel)).2.1
    have h2 := cm2_ok (row := row) (n := n) (a := numA n a b (r 2) + 1) (b := numB n a b (r 2)) (neg := neg) (p := a) (r := rset (rset r 5 row (numV n a b (r 2))) 11 row (nI 1)) g2
    refine ⟨⟨by omega, h2.1.2⟩, fun j g0 g1 g2 g3 g4 g5 g6 => ?_⟩
    rw [h2.2 j g1 g2 g3 g4 g5 g6, rset_n _ _ _ g6, rset_n _ _ _ g0]
  · refine ⟨h1, fun j g0 g1 g2 g3 g4 g5 g6 => ?_⟩
    show rset _ 11 row _ j = _
    rw [rset_n _ _ _ g6, rset_n _ _ _ g0]
theorem cm0_n {row : Nat} {r : rA} {j : Nat} (g0 : j ≠ 5) (g1 : j ≠ 6) (g2 : j ≠ 7) (g3 : j ≠ 8) (g5 : j ≠ 10) (g6 : j ≠ 11) : cm0 row r j = r j := by
  unfold cm0
  rw [rset_n _ _ _ g5, rset_n _ _ _ g3, rset_n _ _ _ g2, rset_n _ _ _ g1, rset_n _ _ _ g0, rset_n _ _ _ g6]
theorem cmpF_ok {row n a : Nat} {b : Bool} {r : rA} (h : a ≤ n) : (a ≤ (cmpF row n a b r).1 ∧ (cmpF row n a b r).1 ≤ n) ∧ ∀ j, j ≠ 5 → j ≠ 6 → j ≠ 7 → j ≠ 8 → j ≠ 9 → j ≠ 10 → j ≠ 11 → (cmpF row n a b r).2.2 j = r j := by
  unfold cmpF
  split
  · rename_i g
    have := (ahd_eq g (by decide +kernel)).2.1
    exact ⟨⟨Nat.le_succ _, this⟩, fun j g0 g1 g2 g3 _ g5 g6 => cm0_n g0 g1 g2 g3 g5 g6⟩
  · have h1 := sgF_le (n := n) (a := a) (b := b) (t := r 2) h
    have h2 := cm1_ok (row := row) (n := n) (a := (sgF n a b (r 2)).1) (b := b) (neg := decide ((sgF n a b (r 2)).2 < 0)) (r := rset (cm0 row r) 10 row (if 0 ≤ (sgF n a b (r 2)).2 then (sgF n a b (r 2)).2 else nI 1)) h1.2
    refine ⟨⟨Nat.le_trans h1.1 h2.1.1, h2.1.2⟩, fun j g0 g1 g2 g3 g4 g5 g6 => ?_⟩
    rw [h2.2 j g0 g1 g2 g3 g4 g5 g6, rset_n _ _ _ g5, cm0_n g0 g1 g2 g3 g5 g6]
/-- what requirement(r0) does, from its i-th comparator on: at, bad, how many, the arrays -/
def rqF (r0 n : Nat) : Nat → Nat → Nat → rA → Nat × Bool × Nat × rA
  | 0, i, a, r => (a, true, i, r)
  | k + 1, i, a, r =>
    let a1 := if decide (i = 4) = true then a else spn isBl (r 2) n a
    let w := cmpF (41 + 4 * r0 + (if i < 4 then i else 3)) n a1 (decide (i = 4)) r
    let a2 := if w.2.1 = true then w.1 else spn isBl (r 2) n w.1
    if ahd n a2 w.2.1 (r 2) = nI 44 then rqF r0 n k (i + 1) (a2 + 1) w.2.2 else (a2, w.2.1, i + 1, w.2.2)
set_option maxHeartbeats 2000000 in
theorem c_comparator {q : Nat} {qa : Nat → Nat} {d c n a v f row : Nat} {b : Bool} {r : rA} (hrow : row < 900) (hn : n ≤ 160) (ha : a ≤ n) : rFun q qa (d + 5) 109 [zR (some q), zI (nI row)] (c, n, a, b, v, f, r) (c, n, (cmpF row n a b r).1, (cmpF row n a b r).2.1, v, f, (cmpF row n a b r).2.2) none := by
  refine rFun.of (d := d + 4) (T := tb_109) (L := [some (zR (some q)), some (zI (nI row)), none, none, none, none]) (Nat.le_of_ble_eq_true rfl) rfl rfl ?_
  refine r_ald rfl rfl ?_
  refine r_get rfl rfl ?_
  refine r_ild rfl rfl ?_
  refine r_ico (x := (nI 0)) rfl rfl ?_
  refine r_iastN (k0 := 11) (x' := (nI 0)) rfl rfl (by omega) (by decide) rfl ?_
  refine r_ald rfl rfl ?_
  refine r_get rfl rfl ?_
  refine r_ild rfl rfl ?_
  refine r_ico (x := (nI 0)) rfl rfl ?_
  refine r_iastN (k0 := 5) (x' := (nI 0)) rfl rfl (by omega) (by decide) rfl ?_
  refine r_ald rfl rfl ?_
  refine r_get rfl rfl ?_
  refine r_ild rfl rfl ?_
  refine r_ico (x := (nI 0)) rfl rfl ?_
  refine r_iastN (k0 := 6) (x' := (nI 0)) rfl rfl (by omega) (by decide) rfl ?_
  refine r_ald rfl rfl ?_
  refine r_get rfl rfl ?_
  refine r_ild rfl rfl ?_
  refine r_ico (x := (nI 0)) rfl rfl ?_
  refine r_iastN (k0 := 7) (x' := (nI 0)) rfl rfl (by omega) (by decide) rfl ?_
  refine r_ald rfl rfl ?_
  refine r_get rfl rfl ?_
  refine r_ild rfl rfl ?_
  refine r_ico (x := (nI 0)) rfl rfl ?_
  refine r_iastN (k0 := 8) (x' := (nI 0)) rfl rfl (by omega) (by decide) rfl ?_
  refine r_ald rfl rfl ?_
  refine r_get rfl rfl ?_
  refine r_ild rfl rfl ?_
  refine r_ico (x := (nI 0)) rfl rfl ?_
  refine r_iastN (k0 := 10) (x' := (nI 0)) rfl rfl (by omega) (by decide) rfl ?_
  refine r_ald rfl rfl ?_
  refine r_call (as := [zR (some q)]) (r := []) (s' := (c, n, a, b, v, f, rset (rset (rset (rset (rset (rset r 11 row (nI 0)) 5 row (nI 0)) 6 row (nI 0)) 7 row (nI 0)) 8 row (nI 0)) 10 row (nI 0))) (v := some (zI (ahd n a b (r 2)))) rfl rfl rfl (Nat.le_of_ble_eq_true rfl) (Or.inr ⟨rfl, rfl, _, rfl⟩) (c_ahead (by omega) (by omega)) ?_
  refine r_ico (x := (nI 42)) rfl rfl ?_
  refine r_cmp rfl (fun h_1 => ?_) (fun h_1 => ?_)
  · replace h_1 : ¬ (ahd n a b (r 2)) = (nI 42) := h_1
    refine r_ald rfl rfl ?_
    obtain ⟨g16, hg16⟩ : ∃ x, x = sgF n a b (r 2) := ⟨_, rfl⟩
    have lg16 := sgF_le (n := n) (a := a) (b := b) (t := r 2) (by omega)
    rw [← hg16] at lg16
    obtain ⟨a16, sv⟩ := g16
    replace lg16 : a ≤ a16 ∧ a16 ≤ n := lg16
    refine r_call (as := [zR (some q)]) (r := []) (s' := (c, n, a16, b, v, f, rset (rset (rset (rset (rset (rset r 11 row (nI 0)) 5 row (nI 0)) 6 row (nI 0)) 7 row (nI 0)) 8 row (nI 0)) 10 row (nI 0))) (v := some (zI (sv))) rfl rfl rfl (Nat.le_of_ble_eq_true rfl) (Or.inr ⟨rfl, rfl, _, rfl⟩) (by have h9 := c_signAhead (q := q) (qa := qa) (d := d + 2) (c := c) (n := n) (a := a) (v := v) (f := f) (b := b) (r := rset (rset (rset (rset (rset (rset r 11 row (nI 0)) 5 row (nI 0)) 6 row (nI 0)) 7 row (nI 0)) 8 row (nI 0)) 10 row (nI 0)) (by omega) (by omega); rw [show (rset (rset (rset (rset (rset (rset r 11 row (nI 0)) 5 row (nI 0)) 6 row (nI 0)) 7 row (nI 0)) 8 row (nI 0)) 10 row (nI 0)) 2 = r 2 from rfl, ← hg16] at h9; exact h9) ?_
    refine r_ist (ls' := [some (zR (some q)), some (zI (nI row)), some (zI (sv)), none, none, none]) rfl (Nat.le_of_ble_eq_true rfl) rfl ?_
    refine r_ald rfl rfl ?_
    refine r_get rfl rfl ?_
    refine r_ild rfl rfl ?_
    refine r_ild rfl rfl ?_
    refine r_if rfl (fun h_2 => ?_) (fun h_2 => ?_)
    · replace h_2 : 0 ≤ (sv) := h_2
      refine r_ild rfl rfl ?_
      refine r_iastN (k0 := 10) (x' := (sv)) rfl rfl (by omega) (by decide) rfl ?_
      have e0 : cmpF row n a b r = cm1 row n a16 b (decide (sv < 0)) (rset (rset (rset (rset (rset (rset (rset r 11 row (nI 0)) 5 row (nI 0)) 6 row (nI 0)) 7 row (nI 0)) 8 row (nI 0)) 10 row (nI 0)) 10 row (sv)) := by unfold cmpF; rw [if_neg h_1, ← hg16]; rw [if_pos h_2]; rfl
      rw [e0]
      refine r_ald rfl rfl ?_
      refine r_get rfl rfl ?_
      refine r_ist (ls' := [some (zR (some q)), some (zI (nI row)), some (zI (sv)), some (zI (nI a16)), none, none]) rfl (Nat.le_of_ble_eq_true rfl) rfl ?_
      refine r_ald rfl rfl ?_
      refine r_get rfl rfl ?_
      refine r_ild rfl rfl ?_
      refine r_ald rfl rfl ?_
      obtain ⟨a17, ha17⟩ : ∃ x, x = numA n a16 b (r 2) := ⟨_, rfl⟩
      obtain ⟨b17, hb17⟩ : ∃ x, x = numB n a16 b (r 2) := ⟨_, rfl⟩
      obtain ⟨v17, hv17⟩ : ∃ x, x = numV n a16 b (r 2) := ⟨_, rfl⟩
      have la17 := numA_le (n := n) (a := a16) (b := b) (t := r 2) (by omega)
      rw [← ha17] at la17
      refine r_call (as := [zR (some q)]) (r := [zI (nI row), zR (some (qa 5))]) (s' := (c, n, a17, b17, v, f, rset (rset (rset (rset (rset (rset (rset r 11 row (nI 0)) 5 row (nI 0)) 6 row (nI 0)) 7 row (nI 0)) 8 row (nI 0)) 10 row (nI 0)) 10 row (sv))) (v := some (zI (v17))) rfl rfl rfl (Nat.le_of_ble_eq_true rfl) (Or.inr ⟨rfl, rfl, _, rfl⟩) (by rw [ha17, hb17, hv17]; exact c_number (by omega) (by omega)) ?_
      refine r_iastN (k0 := 5) (x' := (v17)) rfl rfl (by omega) (by decide) rfl ?_
      refine r_ald rfl rfl ?_
      refine r_get rfl rfl ?_
      refine r_ild rfl rfl ?_
      refine r_ico (x := (nI 1)) rfl rfl ?_
      refine r_iastN (k0 := 11) (x' := (nI 1)) rfl rfl (by omega) (by decide) rfl ?_
      refine r_ald rfl rfl ?_
      refine r_call (as := [zR (some q)]) (r := []) (s' := (c, n, a17, b17, v, f, rset (rset (rset (rset (rset (rset (rset (rset (rset r 11 row (nI 0)) 5 row (nI 0)) 6 row (nI 0)) 7 row (nI 0)) 8 row (nI 0)) 10 row (nI 0)) 10 row (sv)) 5 row (v17)) 11 row (nI 1))) (v := some (zI (ahd n a17 b17 (r 2)))) rfl rfl rfl (Nat.le_of_ble_eq_true rfl) (Or.inr ⟨rfl, rfl, _, rfl⟩) (c_ahead (by omega) (by omega)) ?_
      refine r_ico (x := (nI 46)) rfl rfl ?_
      refine r_cmp rfl (fun h_3 => ?_) (fun h_3 => ?_)
      · replace h_3 : ¬ (ahd n a17 b17 (r 2)) = (nI 46) := h_3
        refine r_ico (x := (nI 0)) rfl rfl ?_
        refine r_ist (ls' := [some (zR (some q)), some (zI (nI row)), some (zI (sv)), some (zI (nI a16)), some (zI (nI 0)), none]) rfl (Nat.le_of_ble_eq_true rfl) rfl ?_
        unfold cm1
        rw [show (rset (rset (rset (rset (rset (rset (rset r 11 row (nI 0)) 5 row (nI 0)) 6 row (nI 0)) 7 row (nI 0)) 8 row (nI 0)) 10 row (nI 0)) 10 row (sv)) 2 = r 2 from rfl, ← ha17, ← hb17, ← hv17]
        dsimp only
        rw [if_neg h_3]
        refine r_ild rfl rfl ?_
        refine r_ifN (by omega) rfl (fun h_4 => ?_) (fun h_4 => ?_)
        · replace h_4 : 0 = 0 := h_4
          refine r_ald rfl rfl ?_
          refine r_get rfl rfl ?_
          refine r_ild rfl rfl ?_
          refine r_ialdN (k0 := 11) rfl rfl (by omega) (by decide) ?_
          refine r_top (y := (nI 1)) (by simp [rar, rset, upd, if_true]) ?_
          refine r_ico (x := (nI 3)) rfl rfl ?_
          refine r_cmpN (by omega) (by omega) rfl (fun h_5 => ?_) (fun h_5 => ?_)
          · replace h_5 : ¬ 1 = 3 := h_5
            refine r_rtv rfl ?_
            exact ⟨rfl, rfl⟩
          · replace h_5 : 1 = 3 := Decidable.of_not_not h_5
            omega
        · replace h_4 : ¬ (0 = 0) := h_4
          omega
      · replace h_3 : (ahd n a17 b17 (r 2)) = (nI 46) := Decidable.of_not_not h_3
        refine r_ico (x := (nI 1)) rfl rfl ?_
        refine r_go rfl ?_
        refine r_ist (ls' := [some (zR (some q)), some (zI (nI row)), some (zI (sv)), some (zI (nI a16)), some (zI (nI 1)), none]) rfl (Nat.le_of_ble_eq_true rfl) rfl ?_
        unfold cm1
        rw [show (rset (rset (rset (rset (rset (rset (rset r 11 row (nI 0)) 5 row (nI 0)) 6 row (nI 0)) 7 row (nI 0)) 8 row (nI 0)) 10 row (nI 0)) 10 row (sv)) 2 = r 2 from rfl, ← ha17, ← hb17, ← hv17]
        dsimp only
        rw [if_pos h_3]
        refine r_ild rfl rfl ?_
        refine r_ifN (by omega) rfl (fun h_6 => ?_) (fun h_6 => ?_)
        · replace h_6 : 1 = 0 := h_6
          omega
        · replace h_6 : ¬ (1 = 0) := h_6
          refine r_ald rfl rfl ?_
          refine r_get rfl rfl ?_
          refine r_ild rfl rfl ?_
          refine r_ialdN (k0 := 11) rfl rfl (by omega) (by decide) ?_
          refine r_top (y := (nI 1)) (by simp [rar, rset, upd, if_true]) ?_
          refine r_ico (x := (nI 3)) rfl rfl ?_
          refine r_cmpN (by omega) (by omega) rfl (fun h_7 => ?_) (fun h_7 => ?_)
          · replace h_7 : 3 ≤ 1 := h_7
            omega
          · replace h_7 := Nat.not_le.mp h_7
            obtain ⟨-, g2, -⟩ := ahd_eq h_3 (by decide +kernel)
            exact l_cm2 hrow hn (by omega) (by omega) (by simp [rset, upd]) ⟨rfl, rfl⟩
    · replace h_2 : ¬ (0 ≤ (sv)) := h_2
      refine r_ico (x := (nI 1)) rfl rfl ?_
      refine r_go rfl ?_
      refine r_iastN (k0 := 10) (x' := (nI 1)) rfl rfl (by omega) (by decide) rfl ?_
      have e0 : cmpF row n a b r = cm1 row n a16 b (decide (sv < 0)) (rset (rset (rset (rset (rset (rset (rset r 11 row (nI 0)) 5 row (nI 0)) 6 row (nI 0)) 7 row (nI 0)) 8 row (nI 0)) 10 row (nI 0)) 10 row (nI 1)) := by unfold cmpF; rw [if_neg h_1, ← hg16]; rw [if_neg h_2]; rfl
      rw [e0]
      refine r_ald rfl rfl ?_
      refine r_get rfl rfl ?_
      refine r_ist (ls' := [some (zR (some q)), some (zI (nI row)), some (zI (sv)), some (zI (nI a16)), none, none]) rfl (Nat.le_of_ble_eq_true rfl) rfl ?_
      refine r_ald rfl rfl ?_
      refine r_get rfl rfl ?_
      refine r_ild rfl rfl ?_
      refine r_ald rfl rfl ?_
      obtain ⟨a18, ha18⟩ : ∃ x, x = numA n a16 b (r 2) := ⟨_, rfl⟩
      obtain ⟨b18, hb18⟩ : ∃ x, x = numB n a16 b (r 2) := ⟨_, rfl⟩
      obtain ⟨v18, hv18⟩ : ∃ x, x = numV n a16 b (r 2) := ⟨_, rfl⟩
      have la18 := numA_le (n := n) (a := a16) (b := b) (t := r 2) (by omega)
      rw [← ha18] at la18
      refine r_call (as := [zR (some q)]) (r := [zI (nI row), zR (some (qa 5))]) (s' := (c, n, a18, b18, v, f, rset (rset (rset (rset (rset (rset (rset r 11 row (nI 0)) 5 row (nI 0)) 6 row (nI 0)) 7 row (nI 0)) 8 row (nI 0)) 10 row (nI 0)) 10 row (nI 1))) (v := some (zI (v18))) rfl rfl rfl (Nat.le_of_ble_eq_true rfl) (Or.inr ⟨rfl, rfl, _, rfl⟩) (by rw [ha18, hb18, hv18]; exact c_number (by omega) (by omega)) ?_
      refine r_iastN (k0 := 5) (x' := (v18)) rfl rfl (by omega) (by decide) rfl ?_
      refine r_ald rfl rfl ?_
      refine r_get rfl rfl ?_
      refine r_ild rfl rfl ?_
      refine r_ico (x := (nI 1)) rfl rfl ?_
      refine r_iastN (k0 := 11) (x' := (nI 1)) rfl rfl (by omega) (by decide) rfl ?_
      refine r_ald rfl rfl ?_
      refine r_call (as := [zR (some q)]) (r := []) (s' := (c, n, a18, b18, v, f, rset (rset (rset (rset (rset (rset (rset (rset (rset r 11 row (nI 0)) 5 row (nI 0)) 6 row (nI 0)) 7 row (nI 0)) 8 row (nI 0)) 10 row (nI 0)) 10 row (nI 1)) 5 row (v18)) 11 row (nI 1))) (v := some (zI (ahd n a18 b18 (r 2)))) rfl rfl rfl (Nat.le_of_ble_eq_true rfl) (Or.inr ⟨rfl, rfl, _, rfl⟩) (c_ahead (by omega) (by omega)) ?_
      refine r_ico (x := (nI 46)) rfl rfl ?_
      refine r_cmp rfl (fun h_8 => ?_) (fun h_8 => ?_)
      · replace h_8 : ¬ (ahd n a18 b18 (r 2)) = (nI 46) := h_8
        refine r_ico (x := (nI 0)) rfl rfl ?_
        refine r_ist (ls' := [some (zR (some q)), some (zI (nI row)), some (zI (sv)), some (zI (nI a16)), some (zI (nI 0)), none]) rfl (Nat.le_of_ble_eq_true rfl) rfl ?_
        unfold cm1
        rw [show (rset (rset (rset (rset (rset (rset (rset r 11 row (nI 0)) 5 row (nI 0)) 6 row (nI 0)) 7 row (nI 0)) 8 row (nI 0)) 10 row (nI 0)) 10 row (nI 1)) 2 = r 2 from rfl, ← ha18, ← hb18, ← hv18]
        dsimp only
        rw [if_neg h_8]
        refine r_ild rfl rfl ?_
        refine r_ifN (by omega) rfl (fun h_9 => ?_) (fun h_9 => ?_)
        · replace h_9 : 0 = 0 := h_9
          refine r_ald rfl rfl ?_
          refine r_get rfl rfl ?_
          refine r_ild rfl rfl ?_
          refine r_ialdN (k0 := 11) rfl rfl (by omega) (by decide) ?_
          refine r_top (y := (nI 1)) (by simp [rar, rset, upd, if_true]) ?_
          refine r_ico (x := (nI 3)) rfl rfl ?_
          refine r_cmpN (by omega) (by omega) rfl (fun h_10 => ?_) (fun h_10 => ?_)
          · replace h_10 : ¬ 1 = 3 := h_10
            refine r_rtv rfl ?_
            exact ⟨rfl, rfl⟩
          · replace h_10 : 1 = 3 := Decidable.of_not_not h_10
            omega
        · replace h_9 : ¬ (0 = 0) := h_9
          omega
      · replace h_8 : (ahd n a18 b18 (r 2)) = (nI 46) := Decidable.of_not_not h_8
        refine r_ico (x := (nI 1)) rfl rfl ?_
        refine r_go rfl ?_
        refine r_ist (ls' := [some (zR (some q)), some (zI (nI row)), some (zI (sv)), some (zI (nI a16)), some (zI (nI 1)), none]) rfl (Nat.le_of_ble_eq_true rfl) rfl ?_
        unfold cm1
        rw [show (rset (rset (rset (rset (rset (rset (rset r 11 row (nI 0)) 5 row (nI 0)) 6 row (nI 0)) 7 row (nI 0)) 8 row (nI 0)) 10 row (nI 0)) 10 row (nI 1)) 2 = r 2 from rfl, ← ha18, ← hb18, ← hv18]
        dsimp only
        rw [if_pos h_8]
        refine r_ild rfl rfl ?_
        refine r_ifN (by omega) rfl (fun h_11 => ?_) (fun h_11 => ?_)
        · replace h_11 : 1 = 0 := h_11
          omega
        · replace h_11 : ¬ (1 = 0) := h_11
          refine r_ald rfl rfl ?_
          refine r_get rfl rfl ?_
          refine r_ild rfl rfl ?_
          refine r_ialdN (k0 := 11) rfl rfl (by omega) (by decide) ?_
          refine r_top (y := (nI 1)) (by simp [rar, rset, upd, if_true]) ?_
          refine r_ico (x := (nI 3)) rfl rfl ?_
          refine r_cmpN (by omega) (by omega) rfl (fun h_12 => ?_) (fun h_12 => ?_)
          · replace h_12 : 3 ≤ 1 := h_12
            omega
          · replace h_12 := Nat.not_le.mp h_12
            obtain ⟨-, g2, -⟩ := ahd_eq h_8 (by decide +kernel)
            exact l_cm2 hrow hn (by omega) (by omega) (by simp [rset, upd]) ⟨rfl, rfl⟩
  · replace h_1 : (ahd n a b (r 2)) = (nI 42) := Decidable.of_not_not h_1
    refine r_ald rfl rfl ?_
    refine r_dup rfl rfl ?_
    refine r_get rfl rfl ?_
    refine r_ico (x := (nI 1)) rfl rfl ?_
    refine r_ibi (v := (nI (a + 1))) rfl (nI_add _ _) ?_
    refine r_put (s' := (c, n, a + 1, b, v, f, rset (rset (rset (rset (rset (rset r 11 row (nI 0)) 5 row (nI 0)) 6 row (nI 0)) 7 row (nI 0)) 8 row (nI 0)) 10 row (nI 0))) rfl (Nat.le_of_ble_eq_true rfl) ⟨_, rfl⟩ rfl rfl ?_
    refine r_rtv rfl ?_
    rw [cmpF, if_pos h_1]
    exact ⟨rfl, rfl⟩
