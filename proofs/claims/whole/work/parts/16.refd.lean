theorem spn_lem {p : Int32 → Bool} {t : Nat → Int32} {n a : Nat} : spn p t n a ≤ max n a := by
  by_cases h : a ≤ n
  · have := spn_le (p := p) (t := t) h
    omega
  · rw [spn_end (by omega)]
    omega
/-- are they digits, all of them? -/
def alld (t : Nat → Int32) : Nat → Nat → Bool
  | 0, _ => true
  | k + 1, a => isDg (t a) && alld t k (a + 1)
/-- a word of m bytes from a on is no good -/
def wbad (nb : Bool) (t : Nat → Int32) (m a : Nat) : Bool := decide (m = 0) || (nb && alld t m a && (decide (9 < m) || (!decide (m ≤ 1) && decide (t a = nI 48))))
/-- words with points between: where they end, and whether one was no good -/
def wrF (nb : Bool) (t : Nat → Int32) (n : Nat) : Nat → Nat → Nat × Bool
  | 0, a => (a, true)
  | k + 1, a => if wbad nb t (spn isWd t n a - a) a = true then (spn isWd t n a, true) else if ahd n (spn isWd t n a) false t = nI 46 then wrF nb t n k (spn isWd t n a + 1) else (spn isWd t n a, false)
def wr (nb : Bool) (t : Nat → Int32) (n a : Nat) : Nat × Bool := wrF nb t n (n + 1 - a) a
set_option maxHeartbeats 1000000 in
theorem l_wrin {q : Nat} {qa : Nat → Nat} {d c n v f p : Nat} {nb : Bool} {x2 x5 : Option zV} {r : rA} {Q : rS → (Option zV ⊕ Nat) → Prop} (hn : n ≤ 160) : ∀ (k a : Nat) (dg : Bool), n + 1 - a ≤ k → a + k < 100000 → (∀ e, e = spn isWd (r 2) n a → rEv q qa (d + 2) tb_105 Q 66 [some (zR (some q)), some (zI (bI nb)), x2, some (zI (nI p)), some (zI (bI (dg && alld (r 2) (e - a) a))), x5] [] (c, n, e, false, v, f, r)) → rEv q qa (d + 2) tb_105 Q 21 [some (zR (some q)), some (zI (bI (nb))), x2, some (zI (nI p)), some (zI (bI (dg))), x5] [] (c, n, a, false, v, f, r) := by
  intro k
  induction k with
  | zero =>
    intro a dg hk ha2 K
    have K := K _ rfl
    rw [spn_end (by omega), Nat.sub_self] at K
    simp only [alld, Bool.and_true] at K
    have e0 : isWd (ahd n a false (r 2)) = false := by rw [ahd_out (by omega)]; exact wd_m1.1
    refine r_ald rfl rfl ?_
    refine r_call (as := [zR (some q)]) (r := []) (s' := (c, n, a, false, v, f, r)) (v := some (zI (ahd n a false (r 2)))) rfl rfl rfl (Nat.le_of_ble_eq_true rfl) (Or.inr ⟨rfl, rfl, _, rfl⟩) (c_ahead (by omega) (by omega)) ?_
    refine r_call (as := [zI (ahd n a false (r 2))]) (r := []) (s' := (c, n, a, false, v, f, r)) (v := some (zI (bI (isWd (ahd n a false (r 2)))))) rfl rfl rfl (Nat.le_of_ble_eq_true rfl) (Or.inl rfl) c_isOfWord ?_
    refine r_ifB0 rfl (fun h_1 => ?_) (fun h_1 => ?_)
    · exact K
    · rw [e0] at h_1; cases h_1
  | succ k ih =>
    intro a dg hk ha2 K
    refine r_ald rfl rfl ?_
    refine r_call (as := [zR (some q)]) (r := []) (s' := (c, n, a, false, v, f, r)) (v := some (zI (ahd n a false (r 2)))) rfl rfl rfl (Nat.le_of_ble_eq_true rfl) (Or.inr ⟨rfl, rfl, _, rfl⟩) (c_ahead (by omega) (by omega)) ?_
    refine r_call (as := [zI (ahd n a false (r 2))]) (r := []) (s' := (c, n, a, false, v, f, r)) (v := some (zI (bI (isWd (ahd n a false (r 2)))))) rfl rfl rfl (Nat.le_of_ble_eq_true rfl) (Or.inl rfl) c_isOfWord ?_
    refine r_ifB0 rfl (fun h_1 => ?_) (fun h_1 => ?_)
    · have K := K _ rfl
      rw [show spn isWd (r 2) n a = a from (by
      by_cases g : a < n
      · rw [ahd_in g] at h_1
        exact spn_no h_1
      · exact spn_end (by omega)), Nat.sub_self] at K
      simp only [alld, Bool.and_true] at K
      exact K
    · obtain ⟨-, g2, g3⟩ := ahd_wd (p := isWd) wd_m1.1 h_1
      have J51_1 : ∀ (x51_2 : Bool), x51_2 = (dg && isDg (r 2 a)) → rEv q qa (d + 2) tb_105 Q 51 [some (zR (some q)), some (zI (bI (nb))), x2, some (zI (nI p)), some (zI (bI (dg))), x5] [zI (bI (x51_2))] (c, n, a, false, v, f, r) := by
        intro x51_2 hxx51_2
        refine r_ist (ls' := [some (zR (some q)), some (zI (bI (nb))), x2, some (zI (nI p)), some (zI (bI (x51_2))), x5]) rfl (Nat.le_of_ble_eq_true rfl) rfl ?_
        refine r_ald rfl rfl ?_
        refine r_dup rfl rfl ?_
        refine r_get rfl rfl ?_
        refine r_ico (x := (nI 1)) rfl rfl ?_
        refine r_ibi (v := (nI (a + 1))) rfl (nI_add _ _) ?_
        refine r_put (s' := (c, n, a + 1, false, v, f, r)) rfl (Nat.le_of_ble_eq_true rfl) ⟨_, rfl⟩ rfl rfl ?_
        refine r_go rfl ?_
        refine ih (a + 1) x51_2 (by omega) (by omega) (fun e he => ?_)
        have he1 := K e (by rw [he, spn_yes g2 g3])
        have he2 : a + 1 ≤ e := by rw [he]; exact spn_ge
        rw [show e - a = (e - (a + 1)) + 1 by omega] at he1
        subst hxx51_2
        rw [Bool.and_assoc]
        exact he1
      obtain ⟨-, g2, g3⟩ := ahd_wd (p := isWd) wd_m1.1 h_1
      refine r_ild rfl rfl ?_
      refine r_ifB0 rfl (fun h_3 => ?_) (fun h_3 => ?_)
      · refine r_ico (x := (nI 0)) rfl rfl ?_
        exact J51_1 false (by first | (rw [ahd_in g2] at *; simp_all; done) | simp_all)
      · refine r_ald rfl rfl ?_
        refine r_call (as := [zR (some q)]) (r := []) (s' := (c, n, a, false, v, f, r)) (v := some (zI (ahd n a false (r 2)))) rfl rfl rfl (Nat.le_of_ble_eq_true rfl) (Or.inr ⟨rfl, rfl, _, rfl⟩) (c_ahead (by omega) (by omega)) ?_
        refine r_call (as := [zI (ahd n a false (r 2))]) (r := []) (s' := (c, n, a, false, v, f, r)) (v := some (zI (bI (isDg (ahd n a false (r 2)))))) rfl rfl rfl (Nat.le_of_ble_eq_true rfl) (Or.inl rfl) c_isDigit ?_
        refine r_ifB0 rfl (fun h_4 => ?_) (fun h_4 => ?_)
        · refine r_ico (x := (nI 0)) rfl rfl ?_
          exact J51_1 false (by first | (rw [ahd_in g2] at *; simp_all; done) | simp_all)
        · refine r_ico (x := (nI 1)) rfl rfl ?_
          refine r_go rfl ?_
          exact J51_1 true (by first | (rw [ahd_in g2] at *; simp_all; done) | simp_all)
theorem l_wrst {q : Nat} {qa : Nat → Nat} {d c n a v f : Nat} {b nb : Bool} {x3 x4 x5 : Option zV} {r : rA} {Q : rS → (Option zV ⊕ Nat) → Prop} (hQ : Q (c, n, a, b, v, f, r) (.inl none)) : rEv q qa (d + 2) tb_105 Q 2 [some (zR (some q)), some (zI (bI (nb))), some (zI (bI (false))), x3, x4, x5] [] (c, n, a, b, v, f, r) := by
  refine r_ild rfl rfl ?_
  refine r_ifB0 rfl (fun h_1 => ?_) (fun h_1 => ?_)
  · refine r_rtv rfl ?_
    exact hQ
  · cases h_1
set_option maxHeartbeats 1000000 in
theorem l_wr {q : Nat} {qa : Nat → Nat} {d c n v f : Nat} {nb : Bool} {r : rA} {Q : rS → (Option zV ⊕ Nat) → Prop} (hn : n ≤ 160) : ∀ (k a : Nat) (x3 x4 x5 : Option zV), n + 1 - a ≤ k → 0 < k → a ≤ n → Q (c, n, (wrF nb (r 2) n k a).1, (wrF nb (r 2) n k a).2, v, f, r) (.inl none) → rEv q qa (d + 2) tb_105 Q 2 [some (zR (some q)), some (zI (bI (nb))), some (zI (bI (true))), x3, x4, x5] [] (c, n, a, false, v, f, r) := by
  intro k
  induction k with
  | zero =>
    intro a x3 x4 x5 hk hk0
    omega
  | succ k ih =>
    intro a x3 x4 x5 hk hk0 ha2 hQ
    refine r_ild rfl rfl ?_
    refine r_ifB0 rfl (fun h_1 => ?_) (fun h_1 => ?_)
    · cases h_1
    · refine r_ald rfl rfl ?_
      refine r_get rfl rfl ?_
      refine r_ifB1 rfl (fun h_2 => ?_) (fun h_2 => ?_)
      · cases h_2
      · refine r_ald rfl rfl ?_
        refine r_get rfl rfl ?_
        refine r_ist (ls' := [some (zR (some q)), some (zI (bI (nb))), some (zI (bI (true))), some (zI (nI a)), x4, x5]) rfl (Nat.le_of_ble_eq_true rfl) rfl ?_
        refine r_ico (x := (nI 1)) rfl rfl ?_
        refine r_ist (ls' := [some (zR (some q)), some (zI (bI (nb))), some (zI (bI (true))), some (zI (nI a)), some (zI (nI 1)), x5]) rfl (Nat.le_of_ble_eq_true rfl) rfl ?_
        refine l_wrin hn (n + 1 - a) a true (Nat.le_refl _) (by omega) (fun e he => ?_)
        have he1 : a ≤ e := by rw [he]; exact spn_ge
        have he2 : e ≤ max n a := by rw [he]; exact spn_lem
        rw [Bool.true_and]
        refine r_ald rfl rfl ?_
        refine r_get rfl rfl ?_
        refine r_ild rfl rfl ?_
        refine r_ibi (v := (nI (e - a))) rfl (pk_sub he1) ?_
        refine r_ist (ls' := [some (zR (some q)), some (zI (bI (nb))), some (zI (bI (true))), some (zI (nI a)), some (zI (bI (alld (r 2) (e - a) a))), some (zI (nI (e - a)))]) rfl (Nat.le_of_ble_eq_true rfl) rfl ?_
        refine r_ald rfl rfl ?_
        refine r_ald rfl rfl ?_
        have J125_2 : ∀ (x125_3 : Bool), x125_3 = (wbad nb (r 2) (e - a) a) → rEv q qa (d + 2) tb_105 Q 125 [some (zR (some q)), some (zI (bI (nb))), some (zI (bI (true))), some (zI (nI a)), some (zI (bI (alld (r 2) (e - a) a))), some (zI (nI (e - a)))] [zI (bI (x125_3)), zR (some q)] (c, n, e, false, v, f, r) := by
          intro x125_3 hxx125_3
          refine r_put (s' := (c, n, e, x125_3, v, f, r)) rfl (Nat.le_of_ble_eq_true rfl) ⟨_, rfl, bI_01 _⟩ rfl rfl ?_
          refine r_ald rfl rfl ?_
          have J142_3 : ∀ (x142_4 : Bool), x142_4 = (decide (ahd n e x125_3 (r 2) = nI 46)) → rEv q qa (d + 2) tb_105 Q 142 [some (zR (some q)), some (zI (bI (nb))), some (zI (bI (true))), some (zI (nI a)), some (zI (bI (alld (r 2) (e - a) a))), some (zI (nI (e - a)))] [zI (bI (x142_4))] (c, n, e, x125_3, v, f, r) := by
            intro x142_4 hxx142_4
            refine r_ist (ls' := [some (zR (some q)), some (zI (bI (nb))), some (zI (bI (x142_4))), some (zI (nI a)), some (zI (bI (alld (r 2) (e - a) a))), some (zI (nI (e - a)))]) rfl (Nat.le_of_ble_eq_true rfl) rfl ?_
            refine r_ald rfl rfl ?_
            refine r_ild rfl rfl ?_
            refine r_ifB0 rfl (fun h_5 => ?_) (fun h_5 => ?_)
            · refine r_ald rfl rfl ?_
              refine r_get rfl rfl ?_
              refine r_put (s' := (c, n, e, x125_3, v, f, r)) rfl (Nat.le_of_ble_eq_true rfl) ⟨_, rfl⟩ rfl rfl ?_
              refine r_go rfl ?_
              rw [wrF, ← he, ← hxx125_3] at hQ
              replace hxx142_4 : decide (ahd n e x125_3 (r 2) = nI 46) = false := by rw [← hxx142_4]; assumption
              have hm : x142_4 = false := by assumption
              rw [hm]
              refine l_wrst ?_
              cases x125_3 with
              | true => simpa using hQ
              | false =>
                have h9 : ¬ ahd n e false (r 2) = nI 46 := by simpa using hxx142_4
                rw [if_neg (by simp), if_neg h9] at hQ
                exact hQ
            · refine r_ald rfl rfl ?_
              refine r_get rfl rfl ?_
              refine r_ico (x := (nI 1)) rfl rfl ?_
              refine r_ibi (v := (nI (e + 1))) rfl (nI_add _ _) ?_
              refine r_go rfl ?_
              refine r_put (s' := (c, n, e + 1, x125_3, v, f, r)) rfl (Nat.le_of_ble_eq_true rfl) ⟨_, rfl⟩ rfl rfl ?_
              refine r_go rfl ?_
              rw [wrF, ← he, ← hxx125_3] at hQ
              have hm : x142_4 = true := by assumption
              have h9 : ahd n e x125_3 (r 2) = nI 46 := by rw [hm] at hxx142_4; simpa using hxx142_4.symm
              obtain ⟨g1, g2, g3⟩ := ahd_eq h9 (by decide +kernel)
              rw [g1] at h9 hQ ⊢
              rw [hm]
              rw [if_neg (by simp), if_pos h9] at hQ
              exact ih (e + 1) _ _ _ (by omega) (by omega) (by omega) hQ
          refine r_call (as := [zR (some q)]) (r := []) (s' := (c, n, e, x125_3, v, f, r)) (v := some (zI (ahd n e x125_3 (r 2)))) rfl rfl rfl (Nat.le_of_ble_eq_true rfl) (Or.inr ⟨rfl, rfl, _, rfl⟩) (c_ahead (by omega) (by omega)) ?_
          refine r_ico (x := (nI 46)) rfl rfl ?_
          refine r_cmp rfl (fun h_6 => ?_) (fun h_6 => ?_)
          · replace h_6 : ¬ (ahd n e x125_3 (r 2)) = (nI 46) := h_6
            refine r_ico (x := (nI 0)) rfl rfl ?_
            exact J142_3 false (by first | exact (decide_eq_true (by assumption)).symm | exact (decide_eq_false (by assumption)).symm)
          · replace h_6 : (ahd n e x125_3 (r 2)) = (nI 46) := Decidable.of_not_not h_6
            refine r_ico (x := (nI 1)) rfl rfl ?_
            refine r_go rfl ?_
            exact J142_3 true (by first | exact (decide_eq_true (by assumption)).symm | exact (decide_eq_false (by assumption)).symm)
        refine r_get rfl rfl ?_
        refine r_ifB1 rfl (fun h_7 => ?_) (fun h_7 => ?_)
        · cases h_7
        · refine r_ild rfl rfl ?_
          refine r_ifN (by omega) rfl (fun h_8 => ?_) (fun h_8 => ?_)
          · replace h_8 : e - a = 0 := h_8
            refine r_ico (x := (nI 1)) rfl rfl ?_
            refine r_go rfl ?_
            exact J125_2 true (by clear hQ ih he J125_2; generalize e - a = m at *; unfold wbad; simp [*])
          · replace h_8 : ¬ (e - a = 0) := h_8
            refine r_ild rfl rfl ?_
            refine r_ifB0 rfl (fun h_9 => ?_) (fun h_9 => ?_)
            · refine r_ico (x := (nI 0)) rfl rfl ?_
              exact J125_2 false (by clear hQ ih he J125_2; generalize e - a = m at *; unfold wbad; simp [*])
            · refine r_ild rfl rfl ?_
              refine r_ifB0 rfl (fun h_10 => ?_) (fun h_10 => ?_)
              · refine r_ico (x := (nI 0)) rfl rfl ?_
                exact J125_2 false (by clear hQ ih he J125_2; generalize e - a = m at *; unfold wbad; simp [*])
              · refine r_ild rfl rfl ?_
                refine r_ico (x := (nI 9)) rfl rfl ?_
                refine r_cmpN (by omega) (by omega) rfl (fun h_11 => ?_) (fun h_11 => ?_)
                · replace h_11 : 9 < e - a := h_11
                  refine r_ico (x := (nI 1)) rfl rfl ?_
                  refine r_go rfl ?_
                  exact J125_2 true (by clear hQ ih he J125_2; generalize e - a = m at *; unfold wbad; simp [*])
                · replace h_11 := Nat.not_lt.mp h_11
                  refine r_ild rfl rfl ?_
                  refine r_ico (x := (nI 1)) rfl rfl ?_
                  refine r_cmpN (by omega) (by omega) rfl (fun h_12 => ?_) (fun h_12 => ?_)
                  · replace h_12 : e - a ≤ 1 := h_12
                    refine r_ico (x := (nI 0)) rfl rfl ?_
                    exact J125_2 false (by clear hQ ih he J125_2; generalize e - a = m at *; unfold wbad; simp [*])
                  · replace h_12 := Nat.not_le.mp h_12
                    refine r_ald rfl rfl ?_
                    refine r_get rfl rfl ?_
                    refine r_ild rfl rfl ?_
                    refine r_ialdN (k0 := 2) rfl rfl (by omega) (by decide) ?_
                    refine r_ico (x := (nI 48)) rfl rfl ?_
                    refine r_cmp rfl (fun h_13 => ?_) (fun h_13 => ?_)
                    · replace h_13 : ¬ (r 2 a) = (nI 48) := h_13
                      refine r_ico (x := (nI 0)) rfl rfl ?_
                      exact J125_2 false (by clear hQ ih he J125_2; generalize e - a = m at *; unfold wbad; simp [*])
                    · replace h_13 : (r 2 a) = (nI 48) := Decidable.of_not_not h_13
                      refine r_ico (x := (nI 1)) rfl rfl ?_
                      refine r_go rfl ?_
                      exact J125_2 true (by clear hQ ih he J125_2; generalize e - a = m at *; unfold wbad; simp [*])
set_option maxHeartbeats 1000000 in
theorem c_wordRow {q : Nat} {qa : Nat → Nat} {d c n a v f : Nat} {b : Bool} {r : rA} {nb : Bool} (hn : n ≤ 160) (ha : a < 80000) (hb : a ≤ n) : rFun q qa (d + 3) 105 [zR (some q), zI (bI (nb))] (c, n, a, false, v, f, r) (c, n, (wr nb (r 2) n a).1, (wr nb (r 2) n a).2, v, f, r) none := by
  refine rFun.of (d := d + 2) (T := tb_105) (L := [some (zR (some q)), some (zI (bI (nb))), none, none, none, none]) (Nat.le_of_ble_eq_true rfl) rfl rfl ?_
  refine r_ico (x := (nI 1)) rfl rfl ?_
  refine r_ist (ls' := [some (zR (some q)), some (zI (bI (nb))), some (zI (nI 1)), none, none, none]) rfl (Nat.le_of_ble_eq_true rfl) rfl ?_
  exact l_wr hn (n + 1 - a) a _ _ _ (Nat.le_refl _) (by omega) (by omega) ⟨rfl, rfl⟩
set_option maxHeartbeats 1000000 in
theorem c_wordRowB {q : Nat} {qa : Nat → Nat} {d c n a v f : Nat} {b : Bool} {r : rA} {nb : Bool}  : rFun q qa (d + 3) 105 [zR (some q), zI (bI (nb))] (c, n, a, true, v, f, r) (c, n, a, true, v, f, r) none := by
  refine rFun.of (d := d + 2) (T := tb_105) (L := [some (zR (some q)), some (zI (bI (nb))), none, none, none, none]) (Nat.le_of_ble_eq_true rfl) rfl rfl ?_
  refine r_ico (x := (nI 1)) rfl rfl ?_
  refine r_ist (ls' := [some (zR (some q)), some (zI (bI (nb))), some (zI (nI 1)), none, none, none]) rfl (Nat.le_of_ble_eq_true rfl) rfl ?_
  refine r_ild rfl rfl ?_
  refine r_ifN (by omega) rfl (fun h_1 => ?_) (fun h_1 => ?_)
  · replace h_1 : 1 = 0 := h_1
    omega
  · replace h_1 : ¬ (1 = 0) := h_1
    refine r_ald rfl rfl ?_
    refine r_get rfl rfl ?_
    refine r_ifB1 rfl (fun h_2 => ?_) (fun h_2 => ?_)
    · refine r_rtv rfl ?_
      exact ⟨rfl, rfl⟩
    · cases h_2
