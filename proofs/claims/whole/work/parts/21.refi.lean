theorem cmpF_bad {row n a : Nat} {r : rA} : (cmpF row n a true r).2.1 = true := by
  have h1 : ∀ (x : Nat), ahd n x true (r 2) = -1 := fun x => ahd_bad
  have h2 : numB n a true (r 2) = true ∧ numA n a true (r 2) = a := by simp [numB, numA, ahd_bad, wd_m1.2]
  have h3 : sgF n a true (r 2) = (a, -1) := by
    unfold sgF
    rw [ahd_bad, if_neg (by decide +kernel), if_neg (by decide +kernel), if_neg (by decide +kernel), if_neg (by decide +kernel), if_neg (by decide +kernel)]
  unfold cmpF
  rw [ahd_bad, if_neg (by decide +kernel), h3]
  unfold cm1
  show (if ahd n (numA n a true (r 2)) (numB n a true (r 2)) (r 2) = nI 46 then (_ : Nat × Bool × rA) else (_ : Nat × Bool × rA)).2.1 = true
  rw [h2.1, h2.2, ahd_bad, if_neg (by decide +kernel)]
  exact h2.1
set_option maxHeartbeats 2000000 in
theorem l_rq {q : Nat} {qa : Nat → Nat} {d c n v f r0 : Nat} {Q : rS → (Option zV ⊕ Nat) → Prop} (hr0 : r0 < 214) (hn : n ≤ 160) : ∀ (k i a : Nat) (r : rA), 5 ≤ i + k → i ≤ 4 → a ≤ n → Q (c, n, (rqF r0 n k i a r).1, (rqF r0 n k i a r).2.1, v, f, rset (rqF r0 n k i a r).2.2.2 12 r0 (nI (rqF r0 n k i a r).2.2.1)) (.inl none) → rEv q qa (d + 5) tb_111 Q 4 [some (zR (some q)), some (zI (nI r0)), some (zI (nI i)), some (zI (nI 1))] [] (c, n, a, false, v, f, r) := by
  intro k
  induction k with
  | zero =>
    intro i a r h1 h2
    omega
  | succ k ih =>
    intro i a r h1 h2 ha hQ
    refine r_ild rfl rfl ?_
    refine r_ifN (by omega) rfl (fun h_1 => ?_) (fun h_1 => ?_)
    · replace h_1 : 1 = 0 := h_1
      omega
    · replace h_1 : ¬ (1 = 0) := h_1
      refine r_ald rfl rfl ?_
      refine r_get rfl rfl ?_
      refine r_ifB1 rfl (fun h_2 => ?_) (fun h_2 => ?_)
      · cases h_2
      · refine r_ald rfl rfl ?_
        refine r_ild rfl rfl ?_
        refine r_ico (x := (nI 4)) rfl rfl ?_
        refine r_cmpN (by omega) (by omega) rfl (fun h_3 => ?_) (fun h_3 => ?_)
        · replace h_3 : ¬ i = 4 := h_3
          refine r_ico (x := (nI 0)) rfl rfl ?_
          refine r_put (s' := (c, n, a, false, v, f, r)) rfl (Nat.le_of_ble_eq_true rfl) ⟨_, rfl, Or.inl rfl⟩ rfl rfl ?_
          refine r_ald rfl rfl ?_
          obtain ⟨a19, ha19⟩ : ∃ x, x = spn isBl (r 2) n a := ⟨_, rfl⟩
          have la19 : a ≤ a19 ∧ a19 ≤ n := by rw [ha19]; exact ⟨spn_ge, spn_le (by omega)⟩
          refine r_call (as := [zR (some q)]) (r := []) (s' := (c, n, a19, false, v, f, r)) (v := none) rfl rfl rfl (Nat.le_of_ble_eq_true rfl) (Or.inr ⟨rfl, rfl, _, rfl⟩) (by rw [ha19]; exact c_blanks (by omega) (by omega)) ?_
          refine r_ald rfl rfl ?_
          refine r_ico (x := (nI 41)) rfl rfl ?_
          refine r_ico (x := (nI 4)) rfl rfl ?_
          refine r_ild rfl rfl ?_
          refine r_ibi (v := (nI (4 * r0))) rfl (pk_mul _ _) ?_
          refine r_ibi (v := (nI (41 + (4 * r0)))) rfl (nI_add _ _) ?_
          refine r_ild rfl rfl ?_
          refine r_ico (x := (nI 4)) rfl rfl ?_
          refine r_cmpN (by omega) (by omega) rfl (fun h_4 => ?_) (fun h_4 => ?_)
          · replace h_4 : 4 ≤ i := h_4
            refine r_ico (x := (nI 3)) rfl rfl ?_
            omega
          · replace h_4 := Nat.not_le.mp h_4
            refine r_ild rfl rfl ?_
            refine r_go rfl ?_
            refine r_ibi (v := (nI (41 + (4 * r0) + i))) rfl (nI_add _ _) ?_
            obtain ⟨w20, hw20⟩ : ∃ x, x = cmpF (41 + (4 * r0) + i) n a19 false r := ⟨_, rfl⟩
            have ok20 := cmpF_ok (row := 41 + (4 * r0) + i) (n := n) (a := a19) (b := false) (r := r) (by omega)
            rw [← hw20] at ok20
            obtain ⟨a20, b20, r20⟩ := w20
            have tw20 : r20 2 = r 2 := ok20.2 2 (by decide) (by decide) (by decide) (by decide) (by decide) (by decide) (by decide)
            have lw20 : a19 ≤ a20 ∧ a20 ≤ n := ok20.1
            clear ok20
            refine r_call (as := [zR (some q), zI (nI (41 + (4 * r0) + i))]) (r := []) (s' := (c, n, a20, b20, v, f, r20)) (v := none) rfl rfl rfl (Nat.le_of_ble_eq_true rfl) (Or.inr ⟨rfl, rfl, _, rfl⟩) (by have h9 := c_comparator (q := q) (qa := qa) (d := d) (c := c) (n := n) (a := a19) (v := v) (f := f) (row := 41 + (4 * r0) + i) (b := false) (r := r) (by omega) (by omega) (by omega); rw [← hw20] at h9; exact h9) ?_
            refine r_inc (x' := (nI (i + 1))) (ls' := [some (zR (some q)), some (zI (nI r0)), some (zI (nI (i + 1))), some (zI (nI 1))]) rfl rfl (nI_1 _) rfl ?_
            refine r_ald rfl rfl ?_
            obtain ⟨a21, ha21⟩ : ∃ x, x = (if b20 = true then a20 else spn isBl (r 2) n a20) := ⟨_, rfl⟩
            have la21 : a20 ≤ a21 ∧ a21 ≤ n := by rw [ha21]; split <;> first | omega | exact ⟨spn_ge, spn_le (by omega)⟩
            refine r_call (as := [zR (some q)]) (r := []) (s' := (c, n, a21, b20, v, f, r20)) (v := none) rfl rfl rfl (Nat.le_of_ble_eq_true rfl) (Or.inr ⟨rfl, rfl, _, rfl⟩) (by have h9 := c_blanks (q := q) (qa := qa) (d := d + 3) (c := c) (n := n) (a := a20) (v := v) (f := f) (b := b20) (r := r20) (by omega) (by omega); rw [tw20, ← ha21] at h9; exact h9) ?_
            have e1 : rqF r0 n (k + 1) i a r = if ahd n a21 b20 (r 2) = nI 44 then rqF r0 n k (i + 1) (a21 + 1) r20 else (a21, b20, i + 1, r20) := by
              rw [rqF]
              rw [show decide (i = 4) = false by simp; omega, show (if i < 4 then i else 3) = i by split <;> omega]
              try dsimp only
              rw [show (if false = true then a else spn isBl (r 2) n a) = spn isBl (r 2) n a from rfl, ← ha19, ← hw20]
              try dsimp only
              rw [← ha21]
            rw [e1] at hQ
            clear e1
            refine r_ald rfl rfl ?_
            refine r_call (as := [zR (some q)]) (r := []) (s' := (c, n, a21, b20, v, f, r20)) (v := some (zI (ahd n a21 b20 (r 2)))) rfl rfl rfl (Nat.le_of_ble_eq_true rfl) (Or.inr ⟨rfl, rfl, _, rfl⟩) (by have h9 := c_ahead (q := q) (qa := qa) (d := d + 4) (c := c) (n := n) (a := a21) (v := v) (f := f) (b := b20) (r := r20) (by omega) (by omega); rw [tw20] at h9; exact h9) ?_
            refine r_ico (x := (nI 44)) rfl rfl ?_
            refine r_cmp rfl (fun h_5 => ?_) (fun h_5 => ?_)
            · replace h_5 : ¬ (ahd n a21 b20 (r 2)) = (nI 44) := h_5
              refine r_ico (x := (nI 0)) rfl rfl ?_
              refine r_ist (ls' := [some (zR (some q)), some (zI (nI r0)), some (zI (nI (i + 1))), some (zI (nI 0))]) rfl (Nat.le_of_ble_eq_true rfl) rfl ?_
              refine r_ald rfl rfl ?_
              refine r_ild rfl rfl ?_
              refine r_ifN (by omega) rfl (fun h_6 => ?_) (fun h_6 => ?_)
              · replace h_6 : 0 = 0 := h_6
                refine r_ald rfl rfl ?_
                refine r_get rfl rfl ?_
                refine r_put (s' := (c, n, a21, b20, v, f, r20)) rfl (Nat.le_of_ble_eq_true rfl) ⟨_, rfl⟩ rfl rfl ?_
                refine r_go rfl ?_
                refine r_ild rfl rfl ?_
                refine r_ifN (by omega) rfl (fun h_7 => ?_) (fun h_7 => ?_)
                · replace h_7 : 0 = 0 := h_7
                  refine r_ald rfl rfl ?_
                  refine r_get rfl rfl ?_
                  refine r_ild rfl rfl ?_
                  refine r_ild rfl rfl ?_
                  refine r_iastN (k0 := 12) (x' := (nI (i + 1))) rfl rfl (by omega) (by decide) rfl ?_
                  refine r_rtv rfl ?_
                  rw [if_neg h_5] at hQ
                  exact hQ
                · replace h_7 : ¬ (0 = 0) := h_7
                  omega
              · replace h_6 : ¬ (0 = 0) := h_6
                omega
            · replace h_5 : (ahd n a21 b20 (r 2)) = (nI 44) := Decidable.of_not_not h_5
              refine r_ico (x := (nI 1)) rfl rfl ?_
              refine r_go rfl ?_
              refine r_ist (ls' := [some (zR (some q)), some (zI (nI r0)), some (zI (nI (i + 1))), some (zI (nI 1))]) rfl (Nat.le_of_ble_eq_true rfl) rfl ?_
              refine r_ald rfl rfl ?_
              refine r_ild rfl rfl ?_
              refine r_ifN (by omega) rfl (fun h_8 => ?_) (fun h_8 => ?_)
              · replace h_8 : 1 = 0 := h_8
                omega
              · replace h_8 : ¬ (1 = 0) := h_8
                refine r_ald rfl rfl ?_
                refine r_get rfl rfl ?_
                refine r_ico (x := (nI 1)) rfl rfl ?_
                refine r_ibi (v := (nI (a21 + 1))) rfl (nI_add _ _) ?_
                refine r_go rfl ?_
                refine r_put (s' := (c, n, a21 + 1, b20, v, f, r20)) rfl (Nat.le_of_ble_eq_true rfl) ⟨_, rfl⟩ rfl rfl ?_
                refine r_go rfl ?_
                rw [if_pos h_5] at hQ
                obtain ⟨g1, g2, -⟩ := ahd_eq h_5 (by decide +kernel)
                subst g1
                exact ih (i + 1) (a21 + 1) r20 (by omega) (by omega) (by omega) hQ
        · replace h_3 : i = 4 := Decidable.of_not_not h_3
          refine r_ico (x := (nI 1)) rfl rfl ?_
          refine r_go rfl ?_
          refine r_put (s' := (c, n, a, true, v, f, r)) rfl (Nat.le_of_ble_eq_true rfl) ⟨_, rfl, Or.inr rfl⟩ rfl rfl ?_
          refine r_ald rfl rfl ?_
          refine r_call (as := [zR (some q)]) (r := []) (s' := (c, n, a, true, v, f, r)) (v := none) rfl rfl rfl (Nat.le_of_ble_eq_true rfl) (Or.inr ⟨rfl, rfl, _, rfl⟩) (c_blanks (by omega) (by omega)) ?_
          refine r_ald rfl rfl ?_
          refine r_ico (x := (nI 41)) rfl rfl ?_
          refine r_ico (x := (nI 4)) rfl rfl ?_
          refine r_ild rfl rfl ?_
          refine r_ibi (v := (nI (4 * r0))) rfl (pk_mul _ _) ?_
          refine r_ibi (v := (nI (41 + (4 * r0)))) rfl (nI_add _ _) ?_
          refine r_ild rfl rfl ?_
          refine r_ico (x := (nI 4)) rfl rfl ?_
          refine r_cmpN (by omega) (by omega) rfl (fun h_9 => ?_) (fun h_9 => ?_)
          · replace h_9 : 4 ≤ i := h_9
            refine r_ico (x := (nI 3)) rfl rfl ?_
            refine r_ibi (v := (nI (41 + (4 * r0) + 3))) rfl (nI_add _ _) ?_
            obtain ⟨w22, hw22⟩ : ∃ x, x = cmpF (41 + (4 * r0) + 3) n a true r := ⟨_, rfl⟩
            have ok22 := cmpF_ok (row := 41 + (4 * r0) + 3) (n := n) (a := a) (b := true) (r := r) (by omega)
            rw [← hw22] at ok22
            obtain ⟨a22, b22, r22⟩ := w22
            have tw22 : r22 2 = r 2 := ok22.2 2 (by decide) (by decide) (by decide) (by decide) (by decide) (by decide) (by decide)
            have lw22 : a ≤ a22 ∧ a22 ≤ n := ok22.1
            clear ok22
            refine r_call (as := [zR (some q), zI (nI (41 + (4 * r0) + 3))]) (r := []) (s' := (c, n, a22, b22, v, f, r22)) (v := none) rfl rfl rfl (Nat.le_of_ble_eq_true rfl) (Or.inr ⟨rfl, rfl, _, rfl⟩) (by have h9 := c_comparator (q := q) (qa := qa) (d := d) (c := c) (n := n) (a := a) (v := v) (f := f) (row := 41 + (4 * r0) + 3) (b := true) (r := r) (by omega) (by omega) (by omega); rw [← hw22] at h9; exact h9) ?_
            refine r_inc (x' := (nI (i + 1))) (ls' := [some (zR (some q)), some (zI (nI r0)), some (zI (nI (i + 1))), some (zI (nI 1))]) rfl rfl (nI_1 _) rfl ?_
            refine r_ald rfl rfl ?_
            obtain ⟨a23, ha23⟩ : ∃ x, x = (if b22 = true then a22 else spn isBl (r 2) n a22) := ⟨_, rfl⟩
            have la23 : a22 ≤ a23 ∧ a23 ≤ n := by rw [ha23]; split <;> first | omega | exact ⟨spn_ge, spn_le (by omega)⟩
            refine r_call (as := [zR (some q)]) (r := []) (s' := (c, n, a23, b22, v, f, r22)) (v := none) rfl rfl rfl (Nat.le_of_ble_eq_true rfl) (Or.inr ⟨rfl, rfl, _, rfl⟩) (by have h9 := c_blanks (q := q) (qa := qa) (d := d + 3) (c := c) (n := n) (a := a22) (v := v) (f := f) (b := b22) (r := r22) (by omega) (by omega); rw [tw22, ← ha23] at h9; exact h9) ?_
            have e1 : rqF r0 n (k + 1) i a r = if ahd n a23 b22 (r 2) = nI 44 then rqF r0 n k (i + 1) (a23 + 1) r22 else (a23, b22, i + 1, r22) := by
              rw [rqF]
              rw [show decide (i = 4) = true by simp; omega, show (if i < 4 then i else 3) = 3 by split <;> omega]
              try dsimp only
              rw [show (if true = true then a else spn isBl (r 2) n a) = a from rfl, ← hw22]
              try dsimp only
              rw [← ha23]
            rw [e1] at hQ
            clear e1
            refine r_ald rfl rfl ?_
            refine r_call (as := [zR (some q)]) (r := []) (s' := (c, n, a23, b22, v, f, r22)) (v := some (zI (ahd n a23 b22 (r 2)))) rfl rfl rfl (Nat.le_of_ble_eq_true rfl) (Or.inr ⟨rfl, rfl, _, rfl⟩) (by have h9 := c_ahead (q := q) (qa := qa) (d := d + 4) (c := c) (n := n) (a := a23) (v := v) (f := f) (b := b22) (r := r22) (by omega) (by omega); rw [tw22] at h9; exact h9) ?_
            refine r_ico (x := (nI 44)) rfl rfl ?_
            refine r_cmp rfl (fun h_10 => ?_) (fun h_10 => ?_)
            · replace h_10 : ¬ (ahd n a23 b22 (r 2)) = (nI 44) := h_10
              refine r_ico (x := (nI 0)) rfl rfl ?_
              refine r_ist (ls' := [some (zR (some q)), some (zI (nI r0)), some (zI (nI (i + 1))), some (zI (nI 0))]) rfl (Nat.le_of_ble_eq_true rfl) rfl ?_
              refine r_ald rfl rfl ?_
              refine r_ild rfl rfl ?_
              refine r_ifN (by omega) rfl (fun h_11 => ?_) (fun h_11 => ?_)
              · replace h_11 : 0 = 0 := h_11
                refine r_ald rfl rfl ?_
                refine r_get rfl rfl ?_
                refine r_put (s' := (c, n, a23, b22, v, f, r22)) rfl (Nat.le_of_ble_eq_true rfl) ⟨_, rfl⟩ rfl rfl ?_
                refine r_go rfl ?_
                refine r_ild rfl rfl ?_
                refine r_ifN (by omega) rfl (fun h_12 => ?_) (fun h_12 => ?_)
                · replace h_12 : 0 = 0 := h_12
                  refine r_ald rfl rfl ?_
                  refine r_get rfl rfl ?_
                  refine r_ild rfl rfl ?_
                  refine r_ild rfl rfl ?_
                  refine r_iastN (k0 := 12) (x' := (nI (i + 1))) rfl rfl (by omega) (by decide) rfl ?_
                  refine r_rtv rfl ?_
                  rw [if_neg h_10] at hQ
                  exact hQ
                · replace h_12 : ¬ (0 = 0) := h_12
                  omega
              · replace h_11 : ¬ (0 = 0) := h_11
                omega
            · replace h_10 : (ahd n a23 b22 (r 2)) = (nI 44) := Decidable.of_not_not h_10
              refine r_ico (x := (nI 1)) rfl rfl ?_
              refine r_go rfl ?_
              refine r_ist (ls' := [some (zR (some q)), some (zI (nI r0)), some (zI (nI (i + 1))), some (zI (nI 1))]) rfl (Nat.le_of_ble_eq_true rfl) rfl ?_
              refine r_ald rfl rfl ?_
              refine r_ild rfl rfl ?_
              refine r_ifN (by omega) rfl (fun h_13 => ?_) (fun h_13 => ?_)
              · replace h_13 : 1 = 0 := h_13
                omega
              · replace h_13 : ¬ (1 = 0) := h_13
                refine r_ald rfl rfl ?_
                refine r_get rfl rfl ?_
                refine r_ico (x := (nI 1)) rfl rfl ?_
                refine r_ibi (v := (nI (a23 + 1))) rfl (nI_add _ _) ?_
                refine r_go rfl ?_
                refine r_put (s' := (c, n, a23 + 1, b22, v, f, r22)) rfl (Nat.le_of_ble_eq_true rfl) ⟨_, rfl⟩ rfl rfl ?_
                refine r_go rfl ?_
                rw [if_pos h_10] at hQ
                obtain ⟨g1, g2, -⟩ := ahd_eq h_10 (by decide +kernel)
                have h9 := cmpF_bad (row := 41 + 4 * r0 + 3) (n := n) (a := a) (r := r)
                rw [← hw22] at h9
                replace h9 : b22 = true := h9
                rw [g1] at h9; cases h9
          · replace h_9 := Nat.not_le.mp h_9
            refine r_ild rfl rfl ?_
            refine r_go rfl ?_
            omega
/-- what requirement(r0) does -/
def rqR (r0 n a : Nat) (r : rA) : Nat × Bool × rA := ((rqF r0 n 5 0 a r).1, (rqF r0 n 5 0 a r).2.1, rset (rqF r0 n 5 0 a r).2.2.2 12 r0 (nI (rqF r0 n 5 0 a r).2.2.1))
set_option maxHeartbeats 1000000 in
theorem c_requirement {q : Nat} {qa : Nat → Nat} {d c n a v f : Nat} {b : Bool} {r : rA} {r0 : Nat} (hr0 : r0 < 214) (hn : n ≤ 160) (ha : a ≤ n) : rFun q qa (d + 6) 111 [zR (some q), zI (nI r0)] (c, n, a, false, v, f, r) (c, n, (rqR r0 n a r).1, (rqR r0 n a r).2.1, v, f, (rqR r0 n a r).2.2) none := by
  refine rFun.of (d := d + 5) (T := tb_111) (L := [some (zR (some q)), some (zI (nI r0)), none, none]) (Nat.le_of_ble_eq_true rfl) rfl rfl ?_
  refine r_ico (x := (nI 0)) rfl rfl ?_
  refine r_ist (ls' := [some (zR (some q)), some (zI (nI r0)), some (zI (nI 0)), none]) rfl (Nat.le_of_ble_eq_true rfl) rfl ?_
  refine r_ico (x := (nI 1)) rfl rfl ?_
  refine r_ist (ls' := [some (zR (some q)), some (zI (nI r0)), some (zI (nI 0)), some (zI (nI 1))]) rfl (Nat.le_of_ble_eq_true rfl) rfl ?_
  exact l_rq hr0 hn 5 0 a r (by omega) (by omega) ha ⟨rfl, rfl⟩
