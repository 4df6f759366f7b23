/-- the digits' number -/
def dgv (t : Nat → Int32) (a : Nat) : Nat → Int32
  | 0 => nI 0
  | m + 1 => nI 10 * dgv t a m + t (a + m) - nI 48
def numEnd (t : Nat → Int32) (n l a : Nat) : Nat := spnF isDg t (min l (n - a)) a
theorem numEnd_no {t : Nat → Int32} {n l a : Nat} (h : n ≤ a ∨ l = 0 ∨ isDg (t a) = false) : numEnd t n l a = a := by
  unfold numEnd
  cases hk : min l (n - a) with
  | zero => rfl
  | succ k =>
    rcases h with h | h | h
    · omega
    · omega
    · simp [spnF, h]
theorem numEnd_yes {t : Nat → Int32} {n l a : Nat} (hn : a < n) (h : isDg (t a) = true) : numEnd t n (l + 1) a = numEnd t n l (a + 1) := by
  unfold numEnd
  rw [show min (l + 1) (n - a) = (min l (n - (a + 1))) + 1 by omega]
  simp [spnF, h]
theorem numEnd_ge {t : Nat → Int32} {n l a : Nat} : a ≤ numEnd t n l a ∧ numEnd t n l a ≤ a + l ∧ (a ≤ n → numEnd t n l a ≤ n) := by
  have := spnF_ge (p := isDg) (t := t) (min l (n - a)) a
  unfold numEnd
  omega
def numE (t : Nat → Int32) (n a : Nat) : Nat := numEnd t n (if t a = nI 48 then 1 else 10) a
def numA (n a : Nat) (b : Bool) (t : Nat → Int32) : Nat := if isDg (ahd n a b t) = true then numE t n a else a
def numB (n a : Nat) (b : Bool) (t : Nat → Int32) : Bool := if isDg (ahd n a b t) = true then decide (9 < numE t n a - a) else true
def numV (n a : Nat) (b : Bool) (t : Nat → Int32) : Int32 := if isDg (ahd n a b t) = true then dgv t a (min (numE t n a - a) 9) else nI 0
theorem dg48 : isDg (nI 48) = true := by decide +kernel
theorem ahd_dg {n a : Nat} {b : Bool} {t : Nat → Int32} (h : isDg (ahd n a b t) = true) : b = false ∧ a < n ∧ isDg (t a) = true := ahd_wd wd_m1.2 h
set_option maxHeartbeats 1000000 in
theorem l_numT {q : Nat} {qa : Nat → Nat} {d c n v f p : Nat} {r : rA} {Q : rS → (Option zV ⊕ Nat) → Prop} (hn : n ≤ 160) (hp : p < 90000) : ∀ (k m : Nat), 1 ≤ m + k → m ≤ 1 → (∀ e, e = numEnd (r 2) n (1 - m) (p + m) → Q (c, n, e, decide (9 < e - p), v, f, r) (.inl (some (zI (dgv (r 2) p (min (e - p) 9)))))) → rEv q qa (d + 2) tb_104 Q 36 [some (zR (some q)), some (zI (dgv (r 2) p (min m 9))), some (zI (nI m)), some (zI (bI (true)))] [] (c, n, p + m, false, v, f, r) := by
  intro k
  induction k with
  | zero =>
    intro m hk hm hQ
    have hm : m = 1 := by omega
    subst hm
    have hQ := hQ _ rfl
    rw [numEnd_no (Or.inr (Or.inl rfl))] at hQ
    refine r_ald rfl rfl ?_
    refine r_call (as := [zR (some q)]) (r := []) (s' := (c, n, p + 1, false, v, f, r)) (v := some (zI (ahd n (p + 1) false (r 2)))) rfl rfl rfl (Nat.le_of_ble_eq_true rfl) (Or.inr ⟨rfl, rfl, _, rfl⟩) (c_ahead (by omega) (by omega)) ?_
    refine r_call (as := [zI (ahd n (p + 1) false (r 2))]) (r := []) (s' := (c, n, p + 1, false, v, f, r)) (v := some (zI (bI (isDg (ahd n (p + 1) false (r 2)))))) rfl rfl rfl (Nat.le_of_ble_eq_true rfl) (Or.inl rfl) c_isDigit ?_
    refine r_ifB0 rfl (fun h_1 => ?_) (fun h_1 => ?_)
    · refine r_ald rfl rfl ?_
      refine r_ald rfl rfl ?_
      refine r_get rfl rfl ?_
      refine r_ifB1 rfl (fun h_2 => ?_) (fun h_2 => ?_)
      · cases h_2
      · refine r_ild rfl rfl ?_
        refine r_ico (x := (nI 9)) rfl rfl ?_
        refine r_cmpN (by omega) (by omega) rfl (fun h_3 => ?_) (fun h_3 => ?_)
        · replace h_3 : 1 ≤ 9 := h_3
          refine r_ico (x := (nI 0)) rfl rfl ?_
          refine r_put (s' := (c, n, p + 1, false, v, f, r)) rfl (Nat.le_of_ble_eq_true rfl) ⟨_, rfl, Or.inl rfl⟩ rfl rfl ?_
          refine r_ild rfl rfl ?_
          refine r_ret rfl ⟨_, rfl⟩ ?_
          have e1 : (p + 1) - p = 1 := by omega
          rw [e1] at hQ
          have e2 : decide (9 < 1) = false := by first | decide | (exfalso; omega)
          rw [e2] at hQ
          exact hQ
        · replace h_3 := Nat.not_le.mp h_3
          omega
    · refine r_ild rfl rfl ?_
      refine r_ild rfl rfl ?_
      refine r_ifB0 rfl (fun h_4 => ?_) (fun h_4 => ?_)
      · cases h_4
      · refine r_ico (x := (nI 1)) rfl rfl ?_
        refine r_go rfl ?_
        refine r_cmpN (by omega) (by omega) rfl (fun h_5 => ?_) (fun h_5 => ?_)
        · replace h_5 : 1 ≤ 1 := h_5
          refine r_ald rfl rfl ?_
          refine r_ald rfl rfl ?_
          refine r_get rfl rfl ?_
          refine r_ifB1 rfl (fun h_6 => ?_) (fun h_6 => ?_)
          · cases h_6
          · refine r_ild rfl rfl ?_
            refine r_ico (x := (nI 9)) rfl rfl ?_
            refine r_cmpN (by omega) (by omega) rfl (fun h_7 => ?_) (fun h_7 => ?_)
            · replace h_7 : 1 ≤ 9 := h_7
              refine r_ico (x := (nI 0)) rfl rfl ?_
              refine r_put (s' := (c, n, p + 1, false, v, f, r)) rfl (Nat.le_of_ble_eq_true rfl) ⟨_, rfl, Or.inl rfl⟩ rfl rfl ?_
              refine r_ild rfl rfl ?_
              refine r_ret rfl ⟨_, rfl⟩ ?_
              have e1 : (p + 1) - p = 1 := by omega
              rw [e1] at hQ
              have e2 : decide (9 < 1) = false := by first | decide | (exfalso; omega)
              rw [e2] at hQ
              exact hQ
            · replace h_7 := Nat.not_le.mp h_7
              omega
        · replace h_5 := Nat.not_le.mp h_5
          omega
  | succ k ih =>
    intro m hk hm hQ
    refine r_ald rfl rfl ?_
    refine r_call (as := [zR (some q)]) (r := []) (s' := (c, n, p + m, false, v, f, r)) (v := some (zI (ahd n (p + m) false (r 2)))) rfl rfl rfl (Nat.le_of_ble_eq_true rfl) (Or.inr ⟨rfl, rfl, _, rfl⟩) (c_ahead (by omega) (by omega)) ?_
    refine r_call (as := [zI (ahd n (p + m) false (r 2))]) (r := []) (s' := (c, n, p + m, false, v, f, r)) (v := some (zI (bI (isDg (ahd n (p + m) false (r 2)))))) rfl rfl rfl (Nat.le_of_ble_eq_true rfl) (Or.inl rfl) c_isDigit ?_
    refine r_ifB0 rfl (fun h_1 => ?_) (fun h_1 => ?_)
    · refine r_ald rfl rfl ?_
      refine r_ald rfl rfl ?_
      refine r_get rfl rfl ?_
      refine r_ifB1 rfl (fun h_2 => ?_) (fun h_2 => ?_)
      · cases h_2
      · refine r_ild rfl rfl ?_
        refine r_ico (x := (nI 9)) rfl rfl ?_
        refine r_cmpN (by omega) (by omega) rfl (fun h_3 => ?_) (fun h_3 => ?_)
        · replace h_3 : m ≤ 9 := h_3
          refine r_ico (x := (nI 0)) rfl rfl ?_
          refine r_put (s' := (c, n, p + m, false, v, f, r)) rfl (Nat.le_of_ble_eq_true rfl) ⟨_, rfl, Or.inl rfl⟩ rfl rfl ?_
          refine r_ild rfl rfl ?_
          refine r_ret rfl ⟨_, rfl⟩ ?_
          have e0 : numEnd (r 2) n (1 - m) (p + m) = p + m := numEnd_no (by
            first
            | exact Or.inr (Or.inl (by omega))
            | (by_cases g : p + m < n
               · rw [ahd_in g] at h_1
                 exact Or.inr (Or.inr h_1)
               · exact Or.inl (by omega)))
          have hQ := hQ _ e0.symm
          rw [show p + m - p = m by omega] at hQ
          have e2 : decide (9 < m) = false := by first | (simp; omega) | (exfalso; omega)
          rw [e2] at hQ
          exact hQ
        · replace h_3 := Nat.not_le.mp h_3
          refine r_ico (x := (nI 1)) rfl rfl ?_
          refine r_go rfl ?_
          refine r_put (s' := (c, n, p + m, true, v, f, r)) rfl (Nat.le_of_ble_eq_true rfl) ⟨_, rfl, Or.inr rfl⟩ rfl rfl ?_
          refine r_ild rfl rfl ?_
          refine r_ret rfl ⟨_, rfl⟩ ?_
          have e0 : numEnd (r 2) n (1 - m) (p + m) = p + m := numEnd_no (by
            first
            | exact Or.inr (Or.inl (by omega))
            | (by_cases g : p + m < n
               · rw [ahd_in g] at h_1
                 exact Or.inr (Or.inr h_1)
               · exact Or.inl (by omega)))
          have hQ := hQ _ e0.symm
          rw [show p + m - p = m by omega] at hQ
          have e2 : decide (9 < m) = true := by first | (simp; omega) | (exfalso; omega)
          rw [e2] at hQ
          exact hQ
    · obtain ⟨-, g2, g3⟩ := ahd_dg h_1
      refine r_ild rfl rfl ?_
      refine r_ild rfl rfl ?_
      refine r_ifB0 rfl (fun h_4 => ?_) (fun h_4 => ?_)
      · cases h_4
      · refine r_ico (x := (nI 1)) rfl rfl ?_
        refine r_go rfl ?_
        refine r_cmpN (by omega) (by omega) rfl (fun h_5 => ?_) (fun h_5 => ?_)
        · replace h_5 : 1 ≤ m := h_5
          refine r_ald rfl rfl ?_
          refine r_ald rfl rfl ?_
          refine r_get rfl rfl ?_
          refine r_ifB1 rfl (fun h_6 => ?_) (fun h_6 => ?_)
          · cases h_6
          · refine r_ild rfl rfl ?_
            refine r_ico (x := (nI 9)) rfl rfl ?_
            refine r_cmpN (by omega) (by omega) rfl (fun h_7 => ?_) (fun h_7 => ?_)
            · replace h_7 : m ≤ 9 := h_7
              refine r_ico (x := (nI 0)) rfl rfl ?_
              refine r_put (s' := (c, n, p + m, false, v, f, r)) rfl (Nat.le_of_ble_eq_true rfl) ⟨_, rfl, Or.inl rfl⟩ rfl rfl ?_
              refine r_ild rfl rfl ?_
              refine r_ret rfl ⟨_, rfl⟩ ?_
              have e0 : numEnd (r 2) n (1 - m) (p + m) = p + m := numEnd_no (by
                first
                | exact Or.inr (Or.inl (by omega))
                | (by_cases g : p + m < n
                   · rw [ahd_in g] at h_1
                     exact Or.inr (Or.inr h_1)
                   · exact Or.inl (by omega)))
              have hQ := hQ _ e0.symm
              rw [show p + m - p = m by omega] at hQ
              have e2 : decide (9 < m) = false := by first | (simp; omega) | (exfalso; omega)
              rw [e2] at hQ
              exact hQ
            · replace h_7 := Nat.not_le.mp h_7
              refine r_ico (x := (nI 1)) rfl rfl ?_
              refine r_go rfl ?_
              refine r_put (s' := (c, n, p + m, true, v, f, r)) rfl (Nat.le_of_ble_eq_true rfl) ⟨_, rfl, Or.inr rfl⟩ rfl rfl ?_
              refine r_ild rfl rfl ?_
              refine r_ret rfl ⟨_, rfl⟩ ?_
              have e0 : numEnd (r 2) n (1 - m) (p + m) = p + m := numEnd_no (by
                first
                | exact Or.inr (Or.inl (by omega))
                | (by_cases g : p + m < n
                   · rw [ahd_in g] at h_1
                     exact Or.inr (Or.inr h_1)
                   · exact Or.inl (by omega)))
              have hQ := hQ _ e0.symm
              rw [show p + m - p = m by omega] at hQ
              have e2 : decide (9 < m) = true := by first | (simp; omega) | (exfalso; omega)
              rw [e2] at hQ
              exact hQ
        · replace h_5 := Nat.not_le.mp h_5
          have J82_7 : ∀ (x82_8 : Int32), x82_8 = (dgv (r 2) p (min (m + 1) 9)) → rEv q qa (d + 2) tb_104 Q 82 [some (zR (some q)), some (zI (dgv (r 2) p (min m 9))), some (zI (nI m)), some (zI (bI (true)))] [zI (x82_8)] (c, n, p + m, false, v, f, r) := by
            intro x82_8 hxx82_8
            refine r_ist (ls' := [some (zR (some q)), some (zI (x82_8)), some (zI (nI m)), some (zI (bI (true)))]) rfl (Nat.le_of_ble_eq_true rfl) rfl ?_
            refine r_inc (x' := (nI (m + 1))) (ls' := [some (zR (some q)), some (zI (x82_8)), some (zI (nI (m + 1))), some (zI (bI (true)))]) rfl rfl (nI_1 _) rfl ?_
            refine r_ald rfl rfl ?_
            refine r_dup rfl rfl ?_
            refine r_get rfl rfl ?_
            refine r_ico (x := (nI 1)) rfl rfl ?_
            refine r_ibi (v := (nI (p + m + 1))) rfl (nI_add _ _) ?_
            refine r_put (s' := (c, n, p + m + 1, false, v, f, r)) rfl (Nat.le_of_ble_eq_true rfl) ⟨_, rfl⟩ rfl rfl ?_
            refine r_go rfl ?_
            subst hxx82_8
            refine ih (m + 1) (by omega) (by omega) (fun e he => hQ e ?_)
            rw [he, show 1 - m = (1 - (m + 1)) + 1 by omega, numEnd_yes g2 g3]; rfl
          refine r_ild rfl rfl ?_
          refine r_ico (x := (nI 9)) rfl rfl ?_
          refine r_cmpN (by omega) (by omega) rfl (fun h_9 => ?_) (fun h_9 => ?_)
          · replace h_9 : 9 ≤ m := h_9
            refine r_ild rfl rfl ?_
            exact J82_7 (dgv (r 2) p (min m 9)) (by rw [show min (m + 1) 9 = 9 by omega, show min m 9 = 9 by omega])
          · replace h_9 := Nat.not_le.mp h_9
            refine r_ico (x := (nI 10)) rfl rfl ?_
            refine r_ild rfl rfl ?_
            refine r_ibi (v := ((nI 10) * (dgv (r 2) p (min m 9)))) rfl rfl ?_
            refine r_ald rfl rfl ?_
            refine r_call (as := [zR (some q)]) (r := [zI ((nI 10) * (dgv (r 2) p (min m 9)))]) (s' := (c, n, p + m, false, v, f, r)) (v := some (zI (ahd n (p + m) false (r 2)))) rfl rfl rfl (Nat.le_of_ble_eq_true rfl) (Or.inr ⟨rfl, rfl, _, rfl⟩) (c_ahead (by omega) (by omega)) ?_
            refine r_ibi (v := (((nI 10) * (dgv (r 2) p (min m 9))) + (ahd n (p + m) false (r 2)))) rfl rfl ?_
            refine r_ico (x := (nI 48)) rfl rfl ?_
            refine r_ibi (v := ((((nI 10) * (dgv (r 2) p (min m 9))) + (ahd n (p + m) false (r 2))) - (nI 48))) rfl rfl ?_
            refine r_go rfl ?_
            exact J82_7 ((((nI 10) * (dgv (r 2) p (min m 9))) + (ahd n (p + m) false (r 2))) - (nI 48)) (by rw [ahd_in g2]; rw [show min (m + 1) 9 = m + 1 by omega, show min m 9 = m by omega]; rfl)
set_option maxHeartbeats 1000000 in
theorem l_numF {q : Nat} {qa : Nat → Nat} {d c n v f p : Nat} {r : rA} {Q : rS → (Option zV ⊕ Nat) → Prop} (hn : n ≤ 160) (hp : p < 90000) : ∀ (k m : Nat), 10 ≤ m + k → m ≤ 10 → (∀ e, e = numEnd (r 2) n (10 - m) (p + m) → Q (c, n, e, decide (9 < e - p), v, f, r) (.inl (some (zI (dgv (r 2) p (min (e - p) 9)))))) → rEv q qa (d + 2) tb_104 Q 36 [some (zR (some q)), some (zI (dgv (r 2) p (min m 9))), some (zI (nI m)), some (zI (bI (false)))] [] (c, n, p + m, false, v, f, r) := by
  intro k
  induction k with
  | zero =>
    intro m hk hm hQ
    have hm : m = 10 := by omega
    subst hm
    have hQ := hQ _ rfl
    rw [numEnd_no (Or.inr (Or.inl rfl))] at hQ
    refine r_ald rfl rfl ?_
    refine r_call (as := [zR (some q)]) (r := []) (s' := (c, n, p + 10, false, v, f, r)) (v := some (zI (ahd n (p + 10) false (r 2)))) rfl rfl rfl (Nat.le_of_ble_eq_true rfl) (Or.inr ⟨rfl, rfl, _, rfl⟩) (c_ahead (by omega) (by omega)) ?_
    refine r_call (as := [zI (ahd n (p + 10) false (r 2))]) (r := []) (s' := (c, n, p + 10, false, v, f, r)) (v := some (zI (bI (isDg (ahd n (p + 10) false (r 2)))))) rfl rfl rfl (Nat.le_of_ble_eq_true rfl) (Or.inl rfl) c_isDigit ?_
    refine r_ifB0 rfl (fun h_1 => ?_) (fun h_1 => ?_)
    · refine r_ald rfl rfl ?_
      refine r_ald rfl rfl ?_
      refine r_get rfl rfl ?_
      refine r_ifB1 rfl (fun h_2 => ?_) (fun h_2 => ?_)
      · cases h_2
      · refine r_ild rfl rfl ?_
        refine r_ico (x := (nI 9)) rfl rfl ?_
        refine r_cmpN (by omega) (by omega) rfl (fun h_3 => ?_) (fun h_3 => ?_)
        · replace h_3 : 10 ≤ 9 := h_3
          omega
        · replace h_3 := Nat.not_le.mp h_3
          refine r_ico (x := (nI 1)) rfl rfl ?_
          refine r_go rfl ?_
          refine r_put (s' := (c, n, p + 10, true, v, f, r)) rfl (Nat.le_of_ble_eq_true rfl) ⟨_, rfl, Or.inr rfl⟩ rfl rfl ?_
          refine r_ild rfl rfl ?_
          refine r_ret rfl ⟨_, rfl⟩ ?_
          have e1 : (p + 10) - p = 10 := by omega
          rw [e1] at hQ
          have e2 : decide (9 < 10) = true := by first | decide | (exfalso; omega)
          rw [e2] at hQ
          exact hQ
    · refine r_ild rfl rfl ?_
      refine r_ild rfl rfl ?_
      refine r_ifB0 rfl (fun h_4 => ?_) (fun h_4 => ?_)
      · refine r_ico (x := (nI 10)) rfl rfl ?_
        refine r_cmpN (by omega) (by omega) rfl (fun h_5 => ?_) (fun h_5 => ?_)
        · replace h_5 : 10 ≤ 10 := h_5
          refine r_ald rfl rfl ?_
          refine r_ald rfl rfl ?_
          refine r_get rfl rfl ?_
          refine r_ifB1 rfl (fun h_6 => ?_) (fun h_6 => ?_)
          · cases h_6
          · refine r_ild rfl rfl ?_
            refine r_ico (x := (nI 9)) rfl rfl ?_
            refine r_cmpN (by omega) (by omega) rfl (fun h_7 => ?_) (fun h_7 => ?_)
            · replace h_7 : 10 ≤ 9 := h_7
              omega
            · replace h_7 := Nat.not_le.mp h_7
              refine r_ico (x := (nI 1)) rfl rfl ?_
              refine r_go rfl ?_
              refine r_put (s' := (c, n, p + 10, true, v, f, r)) rfl (Nat.le_of_ble_eq_true rfl) ⟨_, rfl, Or.inr rfl⟩ rfl rfl ?_
              refine r_ild rfl rfl ?_
              refine r_ret rfl ⟨_, rfl⟩ ?_
              have e1 : (p + 10) - p = 10 := by omega
              rw [e1] at hQ
              have e2 : decide (9 < 10) = true := by first | decide | (exfalso; omega)
              rw [e2] at hQ
              exact hQ
        · replace h_5 := Nat.not_le.mp h_5
          omega
      · cases h_4
  | succ k ih =>
    intro m hk hm hQ
    refine r_ald rfl rfl ?_
    refine r_call (as := [zR (some q)]) (r := []) (s' := (c, n, p + m, false, v, f, r)) (v := some (zI (ahd n (p + m) false (r 2)))) rfl rfl rfl (Nat.le_of_ble_eq_true rfl) (Or.inr ⟨rfl, rfl, _, rfl⟩) (c_ahead (by omega) (by omega)) ?_
    refine r_call (as := [zI (ahd n (p + m) false (r 2))]) (r := []) (s' := (c, n, p + m, false, v, f, r)) (v := some (zI (bI (isDg (ahd n (p + m) false (r 2)))))) rfl rfl rfl (Nat.le_of_ble_eq_true rfl) (Or.inl rfl) c_isDigit ?_
    refine r_ifB0 rfl (fun h_1 => ?_) (fun h_1 => ?_)
    · refine r_ald rfl rfl ?_
      refine r_ald rfl rfl ?_
      refine r_get rfl rfl ?_
      refine r_ifB1 rfl (fun h_2 => ?_) (fun h_2 => ?_)
      · cases h_2
      · refine r_ild rfl rfl ?_
        refine r_ico (x := (nI 9)) rfl rfl ?_
        refine r_cmpN (by omega) (by omega) rfl (fun h_3 => ?_) (fun h_3 => ?_)
        · replace h_3 : m ≤ 9 := h_3
          refine r_ico (x := (nI 0)) rfl rfl ?_
          refine r_put (s' := (c, n, p + m, false, v, f, r)) rfl (Nat.le_of_ble_eq_true rfl) ⟨_, rfl, Or.inl rfl⟩ rfl rfl ?_
          refine r_ild rfl rfl ?_
          refine r_ret rfl ⟨_, rfl⟩ ?_
          have e0 : numEnd (r 2) n (10 - m) (p + m) = p + m := numEnd_no (by
            first
            | exact Or.inr (Or.inl (by omega))
            | (by_cases g : p + m < n
               · rw [ahd_in g] at h_1
                 exact Or.inr (Or.inr h_1)
               · exact Or.inl (by omega)))
          have hQ := hQ _ e0.symm
          rw [show p + m - p = m by omega] at hQ
          have e2 : decide (9 < m) = false := by first | (simp; omega) | (exfalso; omega)
          rw [e2] at hQ
          exact hQ
        · replace h_3 := Nat.not_le.mp h_3
          refine r_ico (x := (nI 1)) rfl rfl ?_
          refine r_go rfl ?_
          refine r_put (s' := (c, n, p + m, true, v, f, r)) rfl (Nat.le_of_ble_eq_true rfl) ⟨_, rfl, Or.inr rfl⟩ rfl rfl ?_
          refine r_ild rfl rfl ?_
          refine r_ret rfl ⟨_, rfl⟩ ?_
          have e0 : numEnd (r 2) n (10 - m) (p + m) = p + m := numEnd_no (by
            first
            | exact Or.inr (Or.inl (by omega))
            | (by_cases g : p + m < n
               · rw [ahd_in g] at h_1
                 exact Or.inr (Or.inr h_1)
               · exact Or.inl (by omega)))
          have hQ := hQ _ e0.symm
          rw [show p + m - p = m by omega] at hQ
          have e2 : decide (9 < m) = true := by first | (simp; omega) | (exfalso; omega)
          rw [e2] at hQ
          exact hQ
    · obtain ⟨-, g2, g3⟩ := ahd_dg h_1
      refine r_ild rfl rfl ?_
      refine r_ild rfl rfl ?_
      refine r_ifB0 rfl (fun h_4 => ?_) (fun h_4 => ?_)
      · refine r_ico (x := (nI 10)) rfl rfl ?_
        refine r_cmpN (by omega) (by omega) rfl (fun h_5 => ?_) (fun h_5 => ?_)
        · replace h_5 : 10 ≤ m := h_5
          refine r_ald rfl rfl ?_
          refine r_ald rfl rfl ?_
          refine r_get rfl rfl ?_
          refine r_ifB1 rfl (fun h_6 => ?_) (fun h_6 => ?_)
          · cases h_6
          · refine r_ild rfl rfl ?_
            refine r_ico (x := (nI 9)) rfl rfl ?_
            refine r_cmpN (by omega) (by omega) rfl (fun h_7 => ?_) (fun h_7 => ?_)
            · replace h_7 : m ≤ 9 := h_7
              refine r_ico (x := (nI 0)) rfl rfl ?_
              refine r_put (s' := (c, n, p + m, false, v, f, r)) rfl (Nat.le_of_ble_eq_true rfl) ⟨_, rfl, Or.inl rfl⟩ rfl rfl ?_
              refine r_ild rfl rfl ?_
              refine r_ret rfl ⟨_, rfl⟩ ?_
              have e0 : numEnd (r 2) n (10 - m) (p + m) = p + m := numEnd_no (by
                first
                | exact Or.inr (Or.inl (by omega))
                | (by_cases g : p + m < n
                   · rw [ahd_in g] at h_1
                     exact Or.inr (Or.inr h_1)
                   · exact Or.inl (by omega)))
              have hQ := hQ _ e0.symm
              rw [show p + m - p = m by omega] at hQ
              have e2 : decide (9 < m) = false := by first | (simp; omega) | (exfalso; omega)
              rw [e2] at hQ
              exact hQ
            · replace h_7 := Nat.not_le.mp h_7
              refine r_ico (x := (nI 1)) rfl rfl ?_
              refine r_go rfl ?_
              refine r_put (s' := (c, n, p + m, true, v, f, r)) rfl (Nat.le_of_ble_eq_true rfl) ⟨_, rfl, Or.inr rfl⟩ rfl rfl ?_
              refine r_ild rfl rfl ?_
              refine r_ret rfl ⟨_, rfl⟩ ?_
              have e0 : numEnd (r 2) n (10 - m) (p + m) = p + m := numEnd_no (by
                first
                | exact Or.inr (Or.inl (by omega))
                | (by_cases g : p + m < n
                   · rw [ahd_in g] at h_1
                     exact Or.inr (Or.inr h_1)
                   · exact Or.inl (by omega)))
              have hQ := hQ _ e0.symm
              rw [show p + m - p = m by omega] at hQ
              have e2 : decide (9 < m) = true := by first | (simp; omega) | (exfalso; omega)
              rw [e2] at hQ
              exact hQ
        · replace h_5 := Nat.not_le.mp h_5
          have J82_7 : ∀ (x82_8 : Int32), x82_8 = (dgv (r 2) p (min (m + 1) 9)) → rEv q qa (d + 2) tb_104 Q 82 [some (zR (some q)), some (zI (dgv (r 2) p (min m 9))), some (zI (nI m)), some (zI (bI (false)))] [zI (x82_8)] (c, n, p + m, false, v, f, r) := by
            intro x82_8 hxx82_8
            refine r_ist (ls' := [some (zR (some q)), some (zI (x82_8)), some (zI (nI m)), some (zI (bI (false)))]) rfl (Nat.le_of_ble_eq_true rfl) rfl ?_
            refine r_inc (x' := (nI (m + 1))) (ls' := [some (zR (some q)), some (zI (x82_8)), some (zI (nI (m + 1))), some (zI (bI (false)))]) rfl rfl (nI_1 _) rfl ?_
            refine r_ald rfl rfl ?_
            refine r_dup rfl rfl ?_
            refine r_get rfl rfl ?_
            refine r_ico (x := (nI 1)) rfl rfl ?_
            refine r_ibi (v := (nI (p + m + 1))) rfl (nI_add _ _) ?_
            refine r_put (s' := (c, n, p + m + 1, false, v, f, r)) rfl (Nat.le_of_ble_eq_true rfl) ⟨_, rfl⟩ rfl rfl ?_
            refine r_go rfl ?_
            subst hxx82_8
            refine ih (m + 1) (by omega) (by omega) (fun e he => hQ e ?_)
            rw [he, show 10 - m = (10 - (m + 1)) + 1 by omega, numEnd_yes g2 g3]; rfl
          refine r_ild rfl rfl ?_
          refine r_ico (x := (nI 9)) rfl rfl ?_
          refine r_cmpN (by omega) (by omega) rfl (fun h_9 => ?_) (fun h_9 => ?_)
          · replace h_9 : 9 ≤ m := h_9
            refine r_ild rfl rfl ?_
            exact J82_7 (dgv (r 2) p (min m 9)) (by rw [show min (m + 1) 9 = 9 by omega, show min m 9 = 9 by omega])
          · replace h_9 := Nat.not_le.mp h_9
            refine r_ico (x := (nI 10)) rfl rfl ?_
            refine r_ild rfl rfl ?_
            refine r_ibi (v := ((nI 10) * (dgv (r 2) p (min m 9)))) rfl rfl ?_
            refine r_ald rfl rfl ?_
            refine r_call (as := [zR (some q)]) (r := [zI ((nI 10) * (dgv (r 2) p (min m 9)))]) (s' := (c, n, p + m, false, v, f, r)) (v := some (zI (ahd n (p + m) false (r 2)))) rfl rfl rfl (Nat.le_of_ble_eq_true rfl) (Or.inr ⟨rfl, rfl, _, rfl⟩) (c_ahead (by omega) (by omega)) ?_
            refine r_ibi (v := (((nI 10) * (dgv (r 2) p (min m 9))) + (ahd n (p + m) false (r 2)))) rfl rfl ?_
            refine r_ico (x := (nI 48)) rfl rfl ?_
            refine r_ibi (v := ((((nI 10) * (dgv (r 2) p (min m 9))) + (ahd n (p + m) false (r 2))) - (nI 48))) rfl rfl ?_
            refine r_go rfl ?_
            exact J82_7 ((((nI 10) * (dgv (r 2) p (min m 9))) + (ahd n (p + m) false (r 2))) - (nI 48)) (by rw [ahd_in g2]; rw [show min (m + 1) 9 = m + 1 by omega, show min m 9 = m by omega]; rfl)
      · cases h_4
set_option maxHeartbeats 1000000 in
theorem c_number {q : Nat} {qa : Nat → Nat} {d c n a v f : Nat} {b : Bool} {r : rA}  (hn : n ≤ 160) (ha : a < 90000) : rFun q qa (d + 3) 104 [zR (some q)] (c, n, a, b, v, f, r) (c, n, numA n a b (r 2), numB n a b (r 2), v, f, r) (some (zI (numV n a b (r 2)))) := by
  refine rFun.of (d := d + 2) (T := tb_104) (L := [some (zR (some q)), none, none, none]) (Nat.le_of_ble_eq_true rfl) rfl rfl ?_
  refine r_ald rfl rfl ?_
  refine r_call (as := [zR (some q)]) (r := []) (s' := (c, n, a, b, v, f, r)) (v := some (zI (ahd n a b (r 2)))) rfl rfl rfl (Nat.le_of_ble_eq_true rfl) (Or.inr ⟨rfl, rfl, _, rfl⟩) (c_ahead (by omega) (by omega)) ?_
  refine r_call (as := [zI (ahd n a b (r 2))]) (r := []) (s' := (c, n, a, b, v, f, r)) (v := some (zI (bI (isDg (ahd n a b (r 2)))))) rfl rfl rfl (Nat.le_of_ble_eq_true rfl) (Or.inl rfl) c_isDigit ?_
  refine r_ifB1 rfl (fun h_1 => ?_) (fun h_1 => ?_)
  · refine r_ico (x := (nI 0)) rfl rfl ?_
    refine r_ist (ls' := [some (zR (some q)), some (zI (nI 0)), none, none]) rfl (Nat.le_of_ble_eq_true rfl) rfl ?_
    refine r_ico (x := (nI 0)) rfl rfl ?_
    refine r_ist (ls' := [some (zR (some q)), some (zI (nI 0)), some (zI (nI 0)), none]) rfl (Nat.le_of_ble_eq_true rfl) rfl ?_
    refine r_ald rfl rfl ?_
    refine r_call (as := [zR (some q)]) (r := []) (s' := (c, n, a, b, v, f, r)) (v := some (zI (ahd n a b (r 2)))) rfl rfl rfl (Nat.le_of_ble_eq_true rfl) (Or.inr ⟨rfl, rfl, _, rfl⟩) (c_ahead (by omega) (by omega)) ?_
    refine r_ico (x := (nI 48)) rfl rfl ?_
    refine r_cmp rfl (fun h_2 => ?_) (fun h_2 => ?_)
    · replace h_2 : ¬ (ahd n a b (r 2)) = (nI 48) := h_2
      refine r_ico (x := (nI 0)) rfl rfl ?_
      refine r_ist (ls' := [some (zR (some q)), some (zI (nI 0)), some (zI (nI 0)), some (zI (nI 0))]) rfl (Nat.le_of_ble_eq_true rfl) rfl ?_
      obtain ⟨g1, g2, g3⟩ := ahd_dg h_1
      subst g1
      rw [ahd_in g2] at h_1 h_2
      exact l_numF (p := a) hn (by omega) 10 0 (by omega) (by omega) (fun e he => ⟨by simp [numA, numB, numE, ahd_in g2, h_1, h_2, he], by simp [numV, numE, ahd_in g2, h_1, h_2, he]⟩)
    · replace h_2 : (ahd n a b (r 2)) = (nI 48) := Decidable.of_not_not h_2
      refine r_ico (x := (nI 1)) rfl rfl ?_
      refine r_go rfl ?_
      refine r_ist (ls' := [some (zR (some q)), some (zI (nI 0)), some (zI (nI 0)), some (zI (nI 1))]) rfl (Nat.le_of_ble_eq_true rfl) rfl ?_
      obtain ⟨g1, g2, g3⟩ := ahd_dg h_1
      subst g1
      rw [ahd_in g2] at h_1 h_2
      exact l_numT (p := a) hn (by omega) 1 0 (by omega) (by omega) (fun e he => ⟨by simp [numA, numB, numE, ahd_in g2, h_1, h_2, he, dg48], by simp [numV, numE, ahd_in g2, h_1, h_2, he, dg48]⟩)
  · refine r_ald rfl rfl ?_
    refine r_ico (x := (nI 1)) rfl rfl ?_
    refine r_put (s' := (c, n, a, true, v, f, r)) rfl (Nat.le_of_ble_eq_true rfl) ⟨_, rfl, Or.inr rfl⟩ rfl rfl ?_
    refine r_ico (x := (nI 0)) rfl rfl ?_
    refine r_ret rfl ⟨_, rfl⟩ ?_
    exact ⟨by simp [numA, numB, h_1], by simp [numV, h_1]⟩
