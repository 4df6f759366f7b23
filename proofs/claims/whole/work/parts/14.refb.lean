/-- how far a kind of byte goes -/
def spnF (p : Int32 → Bool) (t : Nat → Int32) : Nat → Nat → Nat
  | 0, a => a
  | k + 1, a => if p (t a) = true then spnF p t k (a + 1) else a
def spn (p : Int32 → Bool) (t : Nat → Int32) (n a : Nat) : Nat := spnF p t (n - a) a
theorem spn_end {p : Int32 → Bool} {t : Nat → Int32} {n a : Nat} (h : n ≤ a) : spn p t n a = a := by
  unfold spn
  rw [show n - a = 0 by omega]
  rfl
theorem spn_no {p : Int32 → Bool} {t : Nat → Int32} {n a : Nat} (h : p (t a) = false) : spn p t n a = a := by
  unfold spn
  cases hk : n - a with
  | zero => rfl
  | succ k => simp [spnF, h]
theorem spn_yes {p : Int32 → Bool} {t : Nat → Int32} {n a : Nat} (hn : a < n) (h : p (t a) = true) : spn p t n a = spn p t n (a + 1) := by
  unfold spn
  rw [show n - a = (n - (a + 1)) + 1 by omega]
  simp [spnF, h]
theorem spnF_ge {p : Int32 → Bool} {t : Nat → Int32} : ∀ (k a : Nat), a ≤ spnF p t k a ∧ spnF p t k a ≤ a + k
  | 0, a => ⟨Nat.le_refl _, Nat.le_refl _⟩
  | k + 1, a => by
    have := spnF_ge (p := p) (t := t) k (a + 1)
    unfold spnF
    split
    · omega
    · omega
theorem spn_ge {p : Int32 → Bool} {t : Nat → Int32} {n a : Nat} : a ≤ spn p t n a := (spnF_ge _ _).1
theorem spn_le {p : Int32 → Bool} {t : Nat → Int32} {n a : Nat} (h : a ≤ n) : spn p t n a ≤ n := by
  have := (spnF_ge (p := p) (t := t) (n - a) a).2
  unfold spn
  omega
theorem ahd_eq {n a : Nat} {b : Bool} {t : Nat → Int32} {x : Int32} (h : ahd n a b t = x) (hx : x ≠ -1) : b = false ∧ a < n ∧ t a = x := by
  unfold ahd at h
  split at h
  · rename_i g
    exact ⟨g.1, g.2, h⟩
  · exact absurd h.symm hx
theorem ahd_in {n a : Nat} {t : Nat → Int32} (h : a < n) : ahd n a false t = t a := by simp [ahd, h]
theorem ahd_out {n a : Nat} {b : Bool} {t : Nat → Int32} (h : n ≤ a) : ahd n a b t = -1 := by
  unfold ahd
  rw [if_neg (fun g => by omega)]
theorem ahd_bad {n a : Nat} {t : Nat → Int32} : ahd n a true t = -1 := by simp [ahd]
def isBl (x : Int32) : Bool := decide (x = nI 32)
theorem wd_m1 : isWd (-1) = false ∧ isDg (-1) = false := by decide +kernel
theorem ahd_wd {n a : Nat} {b : Bool} {t : Nat → Int32} {p : Int32 → Bool} (hp : p (-1) = false) (h : p (ahd n a b t) = true) : b = false ∧ a < n ∧ p (t a) = true := by
  by_cases g : b = false ∧ a < n
  · have e : ahd n a b t = t a := by unfold ahd; rw [if_pos g]
    rw [e] at h
    exact ⟨g.1, g.2, h⟩
  · have e : ahd n a b t = -1 := by unfold ahd; rw [if_neg g]
    rw [e, hp] at h
    cases h
set_option maxHeartbeats 1000000 in
theorem l_blanks {q : Nat} {qa : Nat → Nat} {d c n v f : Nat} {b : Bool} {r : rA} {Q : rS → (Option zV ⊕ Nat) → Prop} (hn : n ≤ 160) : ∀ (k a : Nat), n + 1 - a ≤ k → a < 90000 → a + k < 100000 → Q (c, n, (if b = true then a else spn isBl (r 2) n a), b, v, f, r) (.inl none) → rEv q qa (d + 1) tb_110 Q 0 [some (zR (some q))] [] (c, n, a, b, v, f, r) := by
  intro k
  induction k with
  | zero =>
    intro a hk ha ha2 hQ
    have e : ahd n a b (r 2) = -1 := ahd_out (by omega)
    refine r_ald rfl rfl ?_
    refine r_call (as := [zR (some q)]) (r := []) (s' := (c, n, a, b, v, f, r)) (v := some (zI (ahd n a b (r 2)))) rfl rfl rfl (Nat.le_of_ble_eq_true rfl) (Or.inr ⟨rfl, rfl, _, rfl⟩) (c_ahead (by omega) (by omega)) ?_
    refine r_ico (x := (nI 32)) rfl rfl ?_
    refine r_cmp rfl (fun h_1 => ?_) (fun h_1 => ?_)
    · refine r_rtv rfl ?_
      rw [spn_end (by omega)] at hQ
      simpa using hQ
    · rw [e] at h_1
      exact absurd (fun z => by revert z; decide +kernel) h_1
  | succ k ih =>
    intro a hk ha ha2 hQ
    refine r_ald rfl rfl ?_
    refine r_call (as := [zR (some q)]) (r := []) (s' := (c, n, a, b, v, f, r)) (v := some (zI (ahd n a b (r 2)))) rfl rfl rfl (Nat.le_of_ble_eq_true rfl) (Or.inr ⟨rfl, rfl, _, rfl⟩) (c_ahead (by omega) (by omega)) ?_
    refine r_ico (x := (nI 32)) rfl rfl ?_
    refine r_cmp rfl (fun h_1 => ?_) (fun h_1 => ?_)
    · replace h_1 : ¬ (ahd n a b (r 2)) = (nI 32) := h_1
      refine r_rtv rfl ?_
      have e : (if b = true then a else spn isBl (r 2) n a) = a := by
        cases b with
        | true => rfl
        | false =>
          by_cases g : a < n
          · rw [ahd_in g] at h_1
            exact spn_no (by simp [isBl, h_1])
          · exact spn_end (by omega)
      rw [e] at hQ
      exact hQ
    · replace h_1 : (ahd n a b (r 2)) = (nI 32) := Decidable.of_not_not h_1
      refine r_ald rfl rfl ?_
      refine r_dup rfl rfl ?_
      refine r_get rfl rfl ?_
      refine r_ico (x := (nI 1)) rfl rfl ?_
      refine r_ibi (v := (nI (a + 1))) rfl (nI_add _ _) ?_
      refine r_put (s' := (c, n, a + 1, b, v, f, r)) rfl (Nat.le_of_ble_eq_true rfl) ⟨_, rfl⟩ rfl rfl ?_
      refine r_go rfl ?_
      obtain ⟨g1, g2, g3⟩ := ahd_eq h_1 (by decide +kernel)
      subst g1
      exact ih (a + 1) (by omega) (by omega) (by omega) (by rw [spn_yes g2 (p := isBl) (by simp [isBl, g3])] at hQ; exact hQ)
theorem c_blanks {q : Nat} {qa : Nat → Nat} {d c n a v f : Nat} {b : Bool} {r : rA} (hn : n ≤ 160) (ha : a < 90000) : rFun q qa (d + 2) 110 [zR (some q)] (c, n, a, b, v, f, r) (c, n, (if b = true then a else spn isBl (r 2) n a), b, v, f, r) none := rFun.of (d := d + 1) (T := tb_110) (L := [some (zR (some q))]) (Nat.le_of_ble_eq_true rfl) rfl rfl (l_blanks hn (n + 1 - a) a (Nat.le_refl _) ha (by omega) ⟨rfl, rfl⟩)
