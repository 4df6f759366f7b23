theorem rqF_ok {r0 n : Nat} : ∀ (k i a : Nat) (r : rA), a ≤ n → (a ≤ (rqF r0 n k i a r).1 ∧ (rqF r0 n k i a r).1 ≤ n) ∧ ∀ j, j ≠ 5 → j ≠ 6 → j ≠ 7 → j ≠ 8 → j ≠ 9 → j ≠ 10 → j ≠ 11 → (rqF r0 n k i a r).2.2.2 j = r j
  | 0, i, a, r, h => ⟨⟨Nat.le_refl _, h⟩, fun _ _ _ _ _ _ _ _ => rfl⟩
  | k + 1, i, a, r, h => by
    rw [rqF]
    try dsimp only
    have h1 : a ≤ (if decide (i = 4) = true then a else spn isBl (r 2) n a) ∧ (if decide (i = 4) = true then a else spn isBl (r 2) n a) ≤ n := by
      split
      · omega
      · exact ⟨spn_ge, spn_le h⟩
    generalize (if decide (i = 4) = true then a else spn isBl (r 2) n a) = a1 at h1 ⊢
    have h2 := cmpF_ok (row := 41 + 4 * r0 + (if i < 4 then i else 3)) (n := n) (a := a1) (b := decide (i = 4)) (r := r) h1.2
    generalize cmpF (41 + 4 * r0 + (if i < 4 then i else 3)) n a1 (decide (i = 4)) r = w at h2 ⊢
    obtain ⟨a2, b2, r2⟩ := w
    dsimp only at h2 ⊢
    have h3 : a2 ≤ (if b2 = true then a2 else spn isBl (r 2) n a2) ∧ (if b2 = true then a2 else spn isBl (r 2) n a2) ≤ n := by
      split
      · omega
      · exact ⟨spn_ge, spn_le h2.1.2⟩
    generalize (if b2 = true then a2 else spn isBl (r 2) n a2) = a3 at h3 ⊢
    split
    · rename_i g
      have g2 := (ahd_eq g (by decide +kernel)).2.1
      have ih := rqF_ok (r0 := r0) (n := n) k (i + 1) (a3 + 1) r2 g2
      refine ⟨by omega, fun j g1 g2 g3 g4 g5 g6 g7 => ?_⟩
      rw [ih.2 j g1 g2 g3 g4 g5 g6 g7, h2.2 j g1 g2 g3 g4 g5 g6 g7]
    · exact ⟨by show a ≤ a3 ∧ a3 ≤ n; omega, h2.2⟩
theorem rqR_ok {r0 n a : Nat} {r : rA} (h : a ≤ n) : (a ≤ (rqR r0 n a r).1 ∧ (rqR r0 n a r).1 ≤ n) ∧ ∀ j, j ≠ 5 → j ≠ 6 → j ≠ 7 → j ≠ 8 → j ≠ 9 → j ≠ 10 → j ≠ 11 → j ≠ 12 → (rqR r0 n a r).2.2 j = r j := by
  have h1 := rqF_ok (r0 := r0) (n := n) 5 0 a r h
  refine ⟨h1.1, fun j g1 g2 g3 g4 g5 g6 g7 g8 => ?_⟩
  show rset _ 12 r0 _ j = _
  rw [rset_n _ _ _ g8, h1.2 j g1 g2 g3 g4 g5 g6 g7]
theorem vnF_le {n a : Nat} {b : Bool} {t : Nat → Int32} (h : a ≤ n) : a ≤ (vnF n a b t).1 ∧ (vnF n a b t).1 ≤ n := by
  unfold vnF
  dsimp only
  have h1 := numA_le (n := n) (a := a) (b := b) (t := t) h
  have h2 := tkA_le (n := n) (a := numA n a b t) (b := numB n a b t) (t := t) (x := nI 46) h1.2 (by decide +kernel)
  have h3 := numA_le (n := n) (a := tkA n (numA n a b t) (numB n a b t) t (nI 46)) (b := tkB n (numA n a b t) (numB n a b t) t (nI 46)) (t := t) h2.2
  generalize tkA n (numA n a b t) (numB n a b t) t (nI 46) = a2 at *
  generalize tkB n (numA n a b t) (numB n a b t) t (nI 46) = b2 at *
  have h4 := tkA_le (n := n) (a := numA n a2 b2 t) (b := numB n a2 b2 t) (t := t) (x := nI 46) h3.2 (by decide +kernel)
  generalize tkA n (numA n a2 b2 t) (numB n a2 b2 t) t (nI 46) = a4 at *
  have h5 := numA_le (n := n) (a := a4) (b := tkB n (numA n a2 b2 t) (numB n a2 b2 t) t (nI 46)) (t := t) h4.2
  omega
theorem verF_ok {n a : Nat} {b : Bool} {r : rA} (h : a ≤ n) : (verF n a b r).1 ≤ n ∧ ∀ j, j ≠ 5 → j ≠ 6 → j ≠ 7 → j ≠ 8 → j ≠ 9 → j ≠ 18 → j ≠ 19 → (verF n a b r).2.2 j = r j := by
  unfold verF
  dsimp only
  have h1 := vnF_le (n := n) (a := a) (b := b) (t := r 2) h
  generalize vnF n a b (r 2) = u at *
  obtain ⟨a1, b1, v1, v2, v3⟩ := u
  dsimp only at *
  have h2 := bwF_le (row := 40) (n := n) (a := a1) (b := b1) (r := rset (rset (rset r 5 40 v1) 6 40 v2) 7 40 v3) h1.2
  have h3 : ∀ j, j ≠ 5 → j ≠ 6 → j ≠ 7 → j ≠ 8 → j ≠ 9 → (bwF 40 n a1 b1 (rset (rset (rset r 5 40 v1) 6 40 v2) 7 40 v3)).2.2 j = r j := fun j g1 g2 g3 g4 g5 => by rw [bwF_arr g4 g5, rset_n _ _ _ g3, rset_n _ _ _ g2, rset_n _ _ _ g1]
  generalize bwF 40 n a1 b1 (rset (rset (rset r 5 40 v1) 6 40 v2) 7 40 v3) = w at *
  obtain ⟨a2, b2, r2⟩ := w
  dsimp only at *
  have h4 : (pbF n a2 b2 (r 2)).1 ≤ n := by
    unfold pbF
    split
    · rename_i g
      exact (wr_le (ahd_eq g (by decide +kernel)).2.1).2
    · exact h2.2
  split
  · exact ⟨h4, fun j g1 g2 g3 g4 g5 g6 g7 => by show rset r2 18 40 _ j = _; rw [rset_n _ _ _ g6]; exact h3 j g1 g2 g3 g4 g5⟩
  · exact ⟨h4, fun j g1 g2 g3 g4 g5 g6 g7 => by show rset (cpR r2 19 960 a _) 18 40 _ j = _; rw [rset_n _ _ _ g6, cpR_n g7]; exact h3 j g1 g2 g3 g4 g5⟩
def anyP (r : rA) (p : Int32) : Nat → Bool
  | 0 => false
  | k + 1 => anyP r p k || decide (r 13 (200 + k) = p)
/-- the needs behind a published version, from the i-th on: at, bad, the arrays -/
def puF (n : Nat) : Nat → Nat → Nat → rA → Nat × Bool × rA
  | 0, _, a, r => (a, true, r)
  | k + 1, i, a, r =>
    if ahd n a false (r 2) = nI 59 then
      let p := ahd n (a + 1) false (r 2) - nI 48
      let b1 := decide (i = 5) || !isIn p (nI 0) (nI 7)
      let a2 := tkA n (a + 1 + 1) b1 (r 2) (nI 32)
      let b2 := tkB n (a + 1 + 1) b1 (r 2) (nI 32)
      if (b2 || anyP r p i) = true then (a2, true, r) else
        let w := rqR (208 + i) n a2 (rset r 13 (200 + i) p)
        if w.2.1 = true then (w.1, true, rset w.2.2 14 40 (nI (i + 1))) else puF n k (i + 1) w.1 (rset w.2.2 14 40 (nI (i + 1)))
    else (a, false, r)
/-- what publication() does: at, bad, the arrays -/
def pubF (n : Nat) (r : rA) : Nat × Bool × rA :=
  let w := verF n 0 false r
  if w.2.1 = true then (w.1, true, rset w.2.2 14 40 (nI 0)) else puF n 6 0 w.1 (rset w.2.2 14 40 (nI 0))
theorem tkA_c {n a : Nat} {b : Bool} {t : Nat → Int32} {x : Int32} : a ≤ tkA n a b t x ∧ tkA n a b t x ≤ a + 1 := by
  unfold tkA
  split <;> omega
theorem tk_ok {n a : Nat} {b : Bool} {t : Nat → Int32} {x : Int32} (hx : x ≠ -1) (h : tkB n a b t x = false) : tkA n a b t x ≤ n ∧ b = false := by
  unfold tkB at h
  unfold tkA
  split at h
  · rename_i g
    rw [if_pos g]
    have := ahd_eq g hx
    exact ⟨this.2.1, this.1⟩
  · cases h
set_option maxHeartbeats 1000000 in
theorem l_pk {q : Nat} {qa : Nat → Nat} {d c n a v f i : Nat} {pv : Int32} {b0 : Bool} {r : rA} {Q : rS → (Option zV ⊕ Nat) → Prop} (hi : i ≤ 5) (K : ∀ x3, rEv q qa (d + 6) tb_122 Q 141 [some (zR (some q)), some (zI (nI i)), some (zI pv), x3] [] (c, n, a, (b0 || anyP r pv i), v, f, r)) : ∀ (j k : Nat), i ≤ k + j → k ≤ i → rEv q qa (d + 6) tb_122 Q 100 [some (zR (some q)), some (zI (nI i)), some (zI (pv)), some (zI (nI k))] [] (c, n, a, b0 || anyP r pv k, v, f, r) := by
  intro j
  induction j with
  | zero =>
    intro k h1 h2
    have h3 : i = k := by omega
    subst h3
    refine r_ild rfl rfl ?_
    refine r_ild rfl rfl ?_
    refine r_cmpN (by omega) (by omega) rfl (fun h_1 => ?_) (fun h_1 => ?_)
    · replace h_1 : i ≤ i := h_1
      exact K _
    · replace h_1 := Nat.not_le.mp h_1
      omega
  | succ j ih =>
    intro k h1 h2
    refine r_ild rfl rfl ?_
    refine r_ild rfl rfl ?_
    refine r_cmpN (by omega) (by omega) rfl (fun h_1 => ?_) (fun h_1 => ?_)
    · replace h_1 : i ≤ k := h_1
      have h3 : i = k := by omega
      subst h3
      exact K _
    · replace h_1 := Nat.not_le.mp h_1
      refine r_ald rfl rfl ?_
      refine r_ald rfl rfl ?_
      refine r_get rfl rfl ?_
      refine r_ifB1 rfl (fun h_2 => ?_) (fun h_2 => ?_)
      · refine r_ico (x := (nI 1)) rfl rfl ?_
        refine r_go rfl ?_
        refine r_put (s' := (c, n, a, true, v, f, r)) rfl (Nat.le_of_ble_eq_true rfl) ⟨_, rfl, Or.inr rfl⟩ rfl rfl ?_
        refine r_inc (x' := (nI (k + 1))) (ls' := [some (zR (some q)), some (zI (nI i)), some (zI (pv)), some (zI (nI (k + 1)))]) rfl rfl (nI_1 _) rfl ?_
        refine r_go rfl ?_
        have e9 : (b0 || anyP r pv (k + 1)) = true := by rw [anyP, ← Bool.or_assoc, h_2]; rfl
        have h9 := ih (k + 1) (by omega) (by omega)
        rw [e9] at h9
        exact h9
      · refine r_ald rfl rfl ?_
        refine r_get rfl rfl ?_
        refine r_ico (x := (nI 200)) rfl rfl ?_
        refine r_ild rfl rfl ?_
        refine r_ibi (v := (nI (200 + k))) rfl (nI_add _ _) ?_
        refine r_ialdN (k0 := 13) rfl rfl (by omega) (by decide) ?_
        refine r_ild rfl rfl ?_
        refine r_cmp rfl (fun h_3 => ?_) (fun h_3 => ?_)
        · replace h_3 : ¬ (r 13 (200 + k)) = (pv) := h_3
          refine r_ico (x := (nI 0)) rfl rfl ?_
          refine r_put (s' := (c, n, a, false, v, f, r)) rfl (Nat.le_of_ble_eq_true rfl) ⟨_, rfl, Or.inl rfl⟩ rfl rfl ?_
          refine r_inc (x' := (nI (k + 1))) (ls' := [some (zR (some q)), some (zI (nI i)), some (zI (pv)), some (zI (nI (k + 1)))]) rfl rfl (nI_1 _) rfl ?_
          refine r_go rfl ?_
          have e9 : (b0 || anyP r pv (k + 1)) = false := by rw [anyP, ← Bool.or_assoc, h_2, decide_eq_false h_3]; rfl
          have h9 := ih (k + 1) (by omega) (by omega)
          rw [e9] at h9
          exact h9
        · replace h_3 : (r 13 (200 + k)) = (pv) := Decidable.of_not_not h_3
          refine r_ico (x := (nI 1)) rfl rfl ?_
          refine r_go rfl ?_
          refine r_put (s' := (c, n, a, true, v, f, r)) rfl (Nat.le_of_ble_eq_true rfl) ⟨_, rfl, Or.inr rfl⟩ rfl rfl ?_
          refine r_inc (x' := (nI (k + 1))) (ls' := [some (zR (some q)), some (zI (nI i)), some (zI (pv)), some (zI (nI (k + 1)))]) rfl rfl (nI_1 _) rfl ?_
          refine r_go rfl ?_
          have e9 : (b0 || anyP r pv (k + 1)) = true := by rw [anyP, ← Bool.or_assoc, h_2, decide_eq_true h_3]; rfl
          have h9 := ih (k + 1) (by omega) (by omega)
          rw [e9] at h9
          exact h9
theorem l_puB {q : Nat} {qa : Nat → Nat} {d c n a v f : Nat} {x1 x2 x3 : Option zV} {r : rA} {Q : rS → (Option zV ⊕ Nat) → Prop} (hn : n ≤ 160) (ha : a < 90000) (hQ : Q (c, n, a, true, v, f, r) (.inl none)) : rEv q qa (d + 6) tb_122 Q 16 [some (zR (some q)), x1, x2, x3] [] (c, n, a, true, v, f, r) := by
  refine r_ald rfl rfl ?_
  refine r_call (as := [zR (some q)]) (r := []) (s' := (c, n, a, true, v, f, r)) (v := some (zI (ahd n a true (r 2)))) rfl rfl rfl (Nat.le_of_ble_eq_true rfl) (Or.inr ⟨rfl, rfl, _, rfl⟩) (c_ahead (by omega) (by omega)) ?_
  refine r_ico (x := (nI 59)) rfl rfl ?_
  refine r_cmp rfl (fun h_1 => ?_) (fun h_1 => ?_)
  · replace h_1 : ¬ (ahd n a true (r 2)) = (nI 59) := h_1
    refine r_rtv rfl ?_
    exact hQ
  · replace h_1 : (ahd n a true (r 2)) = (nI 59) := Decidable.of_not_not h_1
    rw [ahd_bad] at h_1; exact absurd h_1 (by decide +kernel)
set_option maxHeartbeats 4000000 in
theorem l_pu {q : Nat} {qa : Nat → Nat} {d c n v f : Nat} {Q : rS → (Option zV ⊕ Nat) → Prop} (hn : n ≤ 160) : ∀ (k i a : Nat) (r : rA) (x1 x2 x3 : Option zV), 6 ≤ i + k → i ≤ 5 → a ≤ n → r 14 40 = nI i → Q (c, n, (puF n k i a r).1, (puF n k i a r).2.1, v, f, (puF n k i a r).2.2) (.inl none) → rEv q qa (d + 6) tb_122 Q 16 [some (zR (some q)), x1, x2, x3] [] (c, n, a, false, v, f, r) := by
  intro k
  induction k with
  | zero =>
    intro i a r x1 x2 x3 h1 h2
    omega
  | succ k ih =>
    intro i a r x1 x2 x3 h1 h2 ha hp hQ
    rw [puF] at hQ
    refine r_ald rfl rfl ?_
    refine r_call (as := [zR (some q)]) (r := []) (s' := (c, n, a, false, v, f, r)) (v := some (zI (ahd n a false (r 2)))) rfl rfl rfl (Nat.le_of_ble_eq_true rfl) (Or.inr ⟨rfl, rfl, _, rfl⟩) (c_ahead (by omega) (by omega)) ?_
    refine r_ico (x := (nI 59)) rfl rfl ?_
    refine r_cmp rfl (fun h_1 => ?_) (fun h_1 => ?_)
    · replace h_1 : ¬ (ahd n a false (r 2)) = (nI 59) := h_1
      refine r_rtv rfl ?_
      rw [if_neg h_1] at hQ
      exact hQ
    · replace h_1 : (ahd n a false (r 2)) = (nI 59) := Decidable.of_not_not h_1
      rw [if_pos h_1] at hQ
      have g2 := (ahd_eq h_1 (by decide +kernel)).2.1
      refine r_ald rfl rfl ?_
      refine r_dup rfl rfl ?_
      refine r_get rfl rfl ?_
      refine r_ico (x := (nI 1)) rfl rfl ?_
      refine r_ibi (v := (nI (a + 1))) rfl (nI_add _ _) ?_
      refine r_put (s' := (c, n, a + 1, false, v, f, r)) rfl (Nat.le_of_ble_eq_true rfl) ⟨_, rfl⟩ rfl rfl ?_
      refine r_ald rfl rfl ?_
      refine r_get rfl rfl ?_
      refine r_ico (x := (nI 40)) rfl rfl ?_
      refine r_ialdN (k0 := 14) rfl rfl (by omega) (by decide) ?_
      refine r_top (y := (nI i)) hp ?_
      refine r_ist (ls' := [some (zR (some q)), some (zI (nI i)), x2, x3]) rfl (Nat.le_of_ble_eq_true rfl) rfl ?_
      refine r_ald rfl rfl ?_
      refine r_call (as := [zR (some q)]) (r := []) (s' := (c, n, a + 1, false, v, f, r)) (v := some (zI (ahd n (a + 1) false (r 2)))) rfl rfl rfl (Nat.le_of_ble_eq_true rfl) (Or.inr ⟨rfl, rfl, _, rfl⟩) (c_ahead (by omega) (by omega)) ?_
      refine r_ico (x := (nI 48)) rfl rfl ?_
      refine r_ibi (v := ((ahd n (a + 1) false (r 2)) - (nI 48))) rfl rfl ?_
      refine r_ist (ls' := [some (zR (some q)), some (zI (nI i)), some (zI ((ahd n (a + 1) false (r 2)) - (nI 48))), x3]) rfl (Nat.le_of_ble_eq_true rfl) rfl ?_
      refine r_ald rfl rfl ?_
      refine r_ald rfl rfl ?_
      have J79_1 : ∀ (x79_2 : Bool), x79_2 = (decide (i = 5) || !isIn (ahd n (a + 1) false (r 2) - nI 48) (nI 0) (nI 7)) → rEv q qa (d + 6) tb_122 Q 79 [some (zR (some q)), some (zI (nI i)), some (zI ((ahd n (a + 1) false (r 2)) - (nI 48))), x3] [zI (bI (x79_2)), zR (some q)] (c, n, a + 1, false, v, f, r) := by
        intro x79_2 hxx79_2
        refine r_put (s' := (c, n, a + 1, x79_2, v, f, r)) rfl (Nat.le_of_ble_eq_true rfl) ⟨_, rfl, bI_01 _⟩ rfl rfl ?_
        refine r_ald rfl rfl ?_
        refine r_dup rfl rfl ?_
        refine r_get rfl rfl ?_
        refine r_ico (x := (nI 1)) rfl rfl ?_
        refine r_ibi (v := (nI (a + 1 + 1))) rfl (nI_add _ _) ?_
        refine r_put (s' := (c, n, a + 1 + 1, x79_2, v, f, r)) rfl (Nat.le_of_ble_eq_true rfl) ⟨_, rfl⟩ rfl rfl ?_
        refine r_ald rfl rfl ?_
        refine r_ico (x := (nI 32)) rfl rfl ?_
        obtain ⟨a24, ha24⟩ : ∃ x, x = tkA n (a + 1 + 1) x79_2 (r 2) (nI 32) := ⟨_, rfl⟩
        obtain ⟨b24, hb24⟩ : ∃ x, x = tkB n (a + 1 + 1) x79_2 (r 2) (nI 32) := ⟨_, rfl⟩
        have la24 : a + 1 + 1 ≤ a24 ∧ a24 ≤ a + 1 + 1 + 1 := by rw [ha24]; exact tkA_c
        refine r_call (as := [zR (some q), zI (nI 32)]) (r := []) (s' := (c, n, a24, b24, v, f, r)) (v := none) rfl rfl rfl (Nat.le_of_ble_eq_true rfl) (Or.inr ⟨rfl, rfl, _, rfl⟩) (by rw [ha24, hb24]; exact c_take (by omega) (by omega)) ?_
        refine r_ico (x := (nI 0)) rfl rfl ?_
        refine r_ist (ls' := [some (zR (some q)), some (zI (nI i)), some (zI ((ahd n (a + 1) false (r 2)) - (nI 48))), some (zI (nI 0))]) rfl (Nat.le_of_ble_eq_true rfl) rfl ?_
        dsimp only at hQ
        rw [← hxx79_2] at hQ
        rw [← ha24, ← hb24] at hQ
        have lim : b24 = false → a24 ≤ n ∧ x79_2 = false := by rw [hb24, ha24]; exact tk_ok (by decide +kernel)
        have e100 : b24 = (b24 || anyP r (ahd n (a + 1) false (r 2) - nI 48) 0) := by simp [anyP]
        suffices h9 : ∀ y, y = (b24 || anyP r (ahd n (a + 1) false (r 2) - nI 48) 0) → rEv q qa (d + 6) tb_122 Q 100 [some (zR (some q)), some (zI (nI i)), some (zI (ahd n (a + 1) false (r 2) - nI 48)), some (zI (nI 0))] [] (c, n, a24, y, v, f, r) from h9 _ e100
        intro y hy
        subst hy
        refine l_pk h2 (fun x4 => ?_) i 0 (by omega) (by omega)
        refine r_ald rfl rfl ?_
        refine r_get rfl rfl ?_
        refine r_ifB1 rfl (fun h_3 => ?_) (fun h_3 => ?_)
        · refine r_go rfl ?_
          rw [h_3] at hQ ⊢
          rw [if_pos rfl] at hQ
          exact l_puB hn (by omega) hQ
        · rw [h_3] at hQ ⊢
          rw [if_neg (by decide)] at hQ
          have hbb : b24 = false := (Bool.or_eq_false_iff.mp h_3).1
          have lim := lim hbb
          have i5 : i < 5 := by have h8 := lim.2; rw [hxx79_2] at h8; have h7 := (Bool.or_eq_false_iff.mp h8).1; have h6 : ¬ i = 5 := of_decide_eq_false h7; omega
          refine r_ald rfl rfl ?_
          refine r_get rfl rfl ?_
          refine r_ico (x := (nI 200)) rfl rfl ?_
          refine r_ild rfl rfl ?_
          refine r_ibi (v := (nI (200 + i))) rfl (nI_add _ _) ?_
          refine r_ild rfl rfl ?_
          refine r_iastN (k0 := 13) (x' := (ahd n (a + 1) false (r 2) - nI 48)) rfl rfl (by omega) (by decide) rfl ?_
          refine r_ald rfl rfl ?_
          refine r_ico (x := (nI 208)) rfl rfl ?_
          refine r_ild rfl rfl ?_
          refine r_ibi (v := (nI (208 + i))) rfl (nI_add _ _) ?_
          obtain ⟨w25, hw25⟩ : ∃ x, x = rqR (208 + i) n a24 (rset r 13 (200 + i) (ahd n (a + 1) false (r 2) - nI 48)) := ⟨_, rfl⟩
          have ok25 := rqR_ok (r0 := 208 + i) (n := n) (a := a24) (r := rset r 13 (200 + i) (ahd n (a + 1) false (r 2) - nI 48)) (by omega)
          rw [← hw25] at ok25
          obtain ⟨a25, b25, r25⟩ := w25
          have lw25 : a24 ≤ a25 ∧ a25 ≤ n := ok25.1
          have nw25 : r25 14 40 = nI i := (congrFun (ok25.2 14 (by decide) (by decide) (by decide) (by decide) (by decide) (by decide) (by decide) (by decide)) 40).trans hp
          clear ok25
          refine r_call (as := [zR (some q), zI (nI (208 + i))]) (r := []) (s' := (c, n, a25, b25, v, f, r25)) (v := none) rfl rfl rfl (Nat.le_of_ble_eq_true rfl) (Or.inr ⟨rfl, rfl, _, rfl⟩) (by have h9 := c_requirement (q := q) (qa := qa) (d := d) (c := c) (n := n) (a := a24) (v := v) (f := f) (b := false) (r0 := 208 + i) (r := rset r 13 (200 + i) (ahd n (a + 1) false (r 2) - nI 48)) (by omega) (by omega) (by omega); rw [← hw25] at h9; exact h9) ?_
          refine r_ald rfl rfl ?_
          refine r_get rfl rfl ?_
          refine r_ico (x := (nI 40)) rfl rfl ?_
          refine r_dup2 rfl rfl rfl ?_
          refine r_ialdN (k0 := 14) rfl rfl (by omega) (by decide) ?_
          refine r_top (y := (nI i)) nw25 ?_
          refine r_ico (x := (nI 1)) rfl rfl ?_
          refine r_ibi (v := (nI (i + 1))) rfl (nI_add _ _) ?_
          refine r_iastN (k0 := 14) (x' := (nI (i + 1))) rfl rfl (by omega) (by decide) rfl ?_
          refine r_go rfl ?_
          rw [← hw25] at hQ
          dsimp only at hQ
          cases b25 with
          | true => exact l_puB hn (by omega) hQ
          | false => exact ih (i + 1) a25 _ _ _ _ (by omega) (by omega) (by omega) (by simp [rset, upd]) hQ
      refine r_get rfl rfl ?_
      refine r_ifB1 rfl (fun h_4 => ?_) (fun h_4 => ?_)
      · cases h_4
      · refine r_ild rfl rfl ?_
        refine r_ico (x := (nI 5)) rfl rfl ?_
        refine r_cmpN (by omega) (by omega) rfl (fun h_5 => ?_) (fun h_5 => ?_)
        · replace h_5 : i = 5 := h_5
          refine r_ico (x := (nI 1)) rfl rfl ?_
          refine r_go rfl ?_
          exact J79_1 true (by first | (rw [decide_eq_true h_5]; rfl) | (rw [decide_eq_false h_4, h_5]; rfl))
        · replace h_5 : ¬ (i = 5) := h_5
          refine r_ild rfl rfl ?_
          refine r_ico (x := (nI 0)) rfl rfl ?_
          refine r_ico (x := (nI 7)) rfl rfl ?_
          refine r_call (as := [zI ((ahd n (a + 1) false (r 2)) - (nI 48)), zI (nI 0), zI (nI 7)]) (r := [zR (some q)]) (s' := (c, n, a + 1, false, v, f, r)) (v := some (zI (bI (isIn ((ahd n (a + 1) false (r 2)) - (nI 48)) (nI 0) (nI 7))))) rfl rfl rfl (Nat.le_of_ble_eq_true rfl) (Or.inl rfl) (c_in) ?_
          refine r_ifB1 rfl (fun h_6 => ?_) (fun h_6 => ?_)
          · refine r_ico (x := (nI 0)) rfl rfl ?_
            exact J79_1 false (by first | (rw [decide_eq_true h_6]; rfl) | (rw [decide_eq_false h_5, h_6]; rfl))
          · refine r_ico (x := (nI 1)) rfl rfl ?_
            refine r_go rfl ?_
            exact J79_1 true (by first | (rw [decide_eq_true h_6]; rfl) | (rw [decide_eq_false h_5, h_6]; rfl))
