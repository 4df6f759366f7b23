/-- words of the text, laid into a row -/
def cpR (r : rA) (k0 o p m : Nat) : rA := fun j => if j = k0 then (fun i => if o ≤ i ∧ i < o + m then r 2 (p + (i - o)) else r k0 i) else r j
theorem cpR_0 (r : rA) (k0 o p : Nat) : cpR r k0 o p 0 = r := by
  funext j i
  unfold cpR
  split
  · rename_i h
    subst h
    show (if _ then _ else _) = _
    rw [if_neg (by omega)]
  · rfl
theorem cpR_n {r : rA} {k0 o p m j : Nat} (h : j ≠ k0) : cpR r k0 o p m j = r j := by simp [cpR, h]
theorem cpR_s {r : rA} {k0 o p m : Nat} (h : k0 ≠ 2) : rset (cpR r k0 o p m) k0 (o + m) (cpR r k0 o p m 2 (p + m)) = cpR r k0 o p (m + 1) := by
  funext j i
  unfold rset
  split
  · rename_i hj
    subst hj
    rw [cpR_n (fun z => h z.symm)]
    unfold upd cpR
    simp only [if_true]
    by_cases hi : i = o + m
    · subst hi
      rw [if_pos rfl, if_pos (by omega)]
      congr 1
      omega
    · rw [if_neg hi]
      by_cases g : o ≤ i ∧ i < o + m
      · rw [if_pos g, if_pos (by omega)]
      · rw [if_neg g, if_neg (by omega)]
  · rename_i hj
    rw [cpR_n hj, cpR_n hj]
theorem wrF_le {nb : Bool} {t : Nat → Int32} {n : Nat} : ∀ (k a : Nat), a ≤ n → a ≤ (wrF nb t n k a).1 ∧ (wrF nb t n k a).1 ≤ n
  | 0, a, h => ⟨Nat.le_refl _, h⟩
  | k + 1, a, h => by
    have h1 : a ≤ spn isWd t n a := spn_ge
    have h2 : spn isWd t n a ≤ n := spn_le h
    unfold wrF
    split
    · exact ⟨h1, h2⟩
    · split
      · rename_i g
        obtain ⟨-, g2, -⟩ := ahd_eq g (by decide +kernel)
        have := wrF_le (nb := nb) (t := t) (n := n) k (spn isWd t n a + 1) (by omega)
        omega
      · exact ⟨h1, h2⟩
theorem wr_le {nb : Bool} {t : Nat → Int32} {n a : Nat} (h : a ≤ n) : a ≤ (wr nb t n a).1 ∧ (wr nb t n a).1 ≤ n := wrF_le _ _ h
/-- what beforeWords(row) does: at, bad, the arrays -/
def bwF (row n a : Nat) (b : Bool) (r : rA) : Nat × Bool × rA :=
  if ahd n a b (r 2) = nI 45 then
    if (wr true (r 2) n (a + 1)).2 || decide (24 < (wr true (r 2) n (a + 1)).1 - (a + 1)) then ((wr true (r 2) n (a + 1)).1, true, rset (rset r 8 row (nI 0)) 8 row (nI ((wr true (r 2) n (a + 1)).1 - (a + 1))))
    else ((wr true (r 2) n (a + 1)).1, false, rset (cpR (rset r 8 row (nI 0)) 9 (24 * row) (a + 1) ((wr true (r 2) n (a + 1)).1 - (a + 1))) 8 row (nI ((wr true (r 2) n (a + 1)).1 - (a + 1))))
  else (a, b, rset r 8 row (nI 0))
set_option maxHeartbeats 1000000 in
theorem l_bw {q : Nat} {qa : Nat → Nat} {d c n a v f row p m : Nat} {r : rA} {Q : rS → (Option zV ⊕ Nat) → Prop} (hrow : row < 900) (hm : m ≤ 24) (hp : p + m ≤ 160) (hQ : Q (c, n, a, false, v, f, rset (cpR r 9 (24 * row) p m) 8 row (nI m)) (.inl none)) : ∀ (i k : Nat), m ≤ k + i → k ≤ m → rEv q qa (d + 3) tb_106 Q 69 [some (zR (some q)), some (zI (nI row)), some (zI (nI p)), some (zI (nI m)), some (zI (nI k))] [] (c, n, a, false, v, f, cpR r 9 (24 * row) p k) := by
  intro i
  induction i with
  | zero =>
    intro k h1 h2
    have h3 : m = k := by omega
    subst h3
    refine r_ild rfl rfl ?_
    refine r_ild rfl rfl ?_
    refine r_cmpN (by omega) (by omega) rfl (fun h_1 => ?_) (fun h_1 => ?_)
    · replace h_1 : m ≤ m := h_1
      refine r_ald rfl rfl ?_
      refine r_get rfl rfl ?_
      refine r_ild rfl rfl ?_
      refine r_ild rfl rfl ?_
      refine r_iastN (k0 := 8) (x' := (nI m)) rfl rfl (by omega) (by decide) rfl ?_
      refine r_rtv rfl ?_
      exact hQ
    · replace h_1 := Nat.not_le.mp h_1
      omega
  | succ i ih =>
    intro k h1 h2
    refine r_ild rfl rfl ?_
    refine r_ild rfl rfl ?_
    refine r_cmpN (by omega) (by omega) rfl (fun h_1 => ?_) (fun h_1 => ?_)
    · replace h_1 : m ≤ k := h_1
      refine r_ald rfl rfl ?_
      refine r_get rfl rfl ?_
      refine r_ild rfl rfl ?_
      refine r_ild rfl rfl ?_
      refine r_iastN (k0 := 8) (x' := (nI m)) rfl rfl (by omega) (by decide) rfl ?_
      refine r_rtv rfl ?_
      have h3 : m = k := by omega
      subst h3
      exact hQ
    · replace h_1 := Nat.not_le.mp h_1
      refine r_ald rfl rfl ?_
      refine r_get rfl rfl ?_
      refine r_ifB1 rfl (fun h_2 => ?_) (fun h_2 => ?_)
      · cases h_2
      · refine r_ald rfl rfl ?_
        refine r_get rfl rfl ?_
        refine r_ico (x := (nI 24)) rfl rfl ?_
        refine r_ild rfl rfl ?_
        refine r_ibi (v := (nI (24 * row))) rfl (pk_mul _ _) ?_
        refine r_ild rfl rfl ?_
        refine r_ibi (v := (nI (24 * row + k))) rfl (nI_add _ _) ?_
        refine r_ald rfl rfl ?_
        refine r_get rfl rfl ?_
        refine r_ild rfl rfl ?_
        refine r_ild rfl rfl ?_
        refine r_ibi (v := (nI (p + k))) rfl (nI_add _ _) ?_
        refine r_ialdN (k0 := 2) rfl rfl (by omega) (by decide) ?_
        refine r_iastN (k0 := 9) (x' := ((cpR r 9 (24 * row) p k) 2 (p + k))) rfl rfl (by omega) (by decide) rfl ?_
        refine r_inc (x' := (nI (k + 1))) (ls' := [some (zR (some q)), some (zI (nI row)), some (zI (nI p)), some (zI (nI m)), some (zI (nI (k + 1)))]) rfl rfl (nI_1 _) rfl ?_
        refine r_go rfl ?_
        rw [cpR_s (by decide)]
        exact ih (k + 1) (by omega) (by omega)
set_option maxHeartbeats 1000000 in
theorem l_bwB {q : Nat} {qa : Nat → Nat} {d c n a v f row p m : Nat} {r : rA} {Q : rS → (Option zV ⊕ Nat) → Prop} (hrow : row < 900) (hm : m < 90000) (hQ : Q (c, n, a, true, v, f, rset r 8 row (nI m)) (.inl none)) : rEv q qa (d + 3) tb_106 Q 69 [some (zR (some q)), some (zI (nI row)), some (zI (nI p)), some (zI (nI m)), some (zI (nI 0))] [] (c, n, a, true, v, f, r) := by
  refine r_ild rfl rfl ?_
  refine r_ild rfl rfl ?_
  refine r_cmpN (by omega) (by omega) rfl (fun h_1 => ?_) (fun h_1 => ?_)
  · replace h_1 : m ≤ 0 := h_1
    refine r_ald rfl rfl ?_
    refine r_get rfl rfl ?_
    refine r_ild rfl rfl ?_
    refine r_ild rfl rfl ?_
    refine r_iastN (k0 := 8) (x' := (nI m)) rfl rfl (by omega) (by decide) rfl ?_
    refine r_rtv rfl ?_
    exact hQ
  · replace h_1 := Nat.not_le.mp h_1
    refine r_ald rfl rfl ?_
    refine r_get rfl rfl ?_
    refine r_ifB1 rfl (fun h_2 => ?_) (fun h_2 => ?_)
    · refine r_ald rfl rfl ?_
      refine r_get rfl rfl ?_
      refine r_ild rfl rfl ?_
      refine r_ild rfl rfl ?_
      refine r_iastN (k0 := 8) (x' := (nI m)) rfl rfl (by omega) (by decide) rfl ?_
      refine r_rtv rfl ?_
      exact hQ
    · cases h_2
set_option maxHeartbeats 1000000 in
theorem c_beforeWords {q : Nat} {qa : Nat → Nat} {d c n a v f row : Nat} {b : Bool} {r : rA} (hrow : row < 900) (hn : n ≤ 160) (ha : a < 80000) : rFun q qa (d + 4) 106 [zR (some q), zI (nI row)] (c, n, a, b, v, f, r) (c, n, (bwF row n a b r).1, (bwF row n a b r).2.1, v, f, (bwF row n a b r).2.2) none := by
  refine rFun.of (d := d + 3) (T := tb_106) (L := [some (zR (some q)), some (zI (nI row)), none, none, none]) (Nat.le_of_ble_eq_true rfl) rfl rfl ?_
  refine r_ald rfl rfl ?_
  refine r_get rfl rfl ?_
  refine r_ild rfl rfl ?_
  refine r_ico (x := (nI 0)) rfl rfl ?_
  refine r_iastN (k0 := 8) (x' := (nI 0)) rfl rfl (by omega) (by decide) rfl ?_
  refine r_ald rfl rfl ?_
  refine r_call (as := [zR (some q)]) (r := []) (s' := (c, n, a, b, v, f, rset r 8 row (nI 0))) (v := some (zI (ahd n a b ((rset r 8 row (nI 0)) 2)))) rfl rfl rfl (Nat.le_of_ble_eq_true rfl) (Or.inr ⟨rfl, rfl, _, rfl⟩) (c_ahead (by omega) (by omega)) ?_
  refine r_ico (x := (nI 45)) rfl rfl ?_
  refine r_cmp rfl (fun h_1 => ?_) (fun h_1 => ?_)
  · replace h_1 : (ahd n a b ((rset r 8 row (nI 0)) 2)) = (nI 45) := h_1
    rw [rset_n _ _ _ (by decide)] at h_1
    obtain ⟨g1, g2, g3⟩ := ahd_eq h_1 (by decide +kernel)
    subst g1
    have hw := wr_le (nb := true) (t := r 2) (n := n) (a := a + 1) (by omega)
    refine r_ald rfl rfl ?_
    refine r_dup rfl rfl ?_
    refine r_get rfl rfl ?_
    refine r_ico (x := (nI 1)) rfl rfl ?_
    refine r_ibi (v := (nI (a + 1))) rfl (nI_add _ _) ?_
    refine r_put (s' := (c, n, a + 1, false, v, f, rset r 8 row (nI 0))) rfl (Nat.le_of_ble_eq_true rfl) ⟨_, rfl⟩ rfl rfl ?_
    refine r_ald rfl rfl ?_
    refine r_get rfl rfl ?_
    refine r_ist (ls' := [some (zR (some q)), some (zI (nI row)), some (zI (nI (a + 1))), none, none]) rfl (Nat.le_of_ble_eq_true rfl) rfl ?_
    refine r_ald rfl rfl ?_
    refine r_ico (x := (nI 1)) rfl rfl ?_
    refine r_call (as := [zR (some q), zI (nI 1)]) (r := []) (s' := (c, n, (wr true ((rset r 8 row (nI 0)) 2) n (a + 1)).1, (wr true ((rset r 8 row (nI 0)) 2) n (a + 1)).2, v, f, rset r 8 row (nI 0))) (v := none) rfl rfl rfl (Nat.le_of_ble_eq_true rfl) (Or.inr ⟨rfl, rfl, _, rfl⟩) (c_wordRow (b := false) (nb := true) (by omega) (by omega) (by omega)) ?_
    rw [rset_n _ _ _ (by decide)]
    have hF : bwF row n a false r = if (wr true (r 2) n (a + 1)).2 || decide (24 < (wr true (r 2) n (a + 1)).1 - (a + 1)) then ((wr true (r 2) n (a + 1)).1, true, rset (rset r 8 row (nI 0)) 8 row (nI ((wr true (r 2) n (a + 1)).1 - (a + 1)))) else ((wr true (r 2) n (a + 1)).1, false, rset (cpR (rset r 8 row (nI 0)) 9 (24 * row) (a + 1) ((wr true (r 2) n (a + 1)).1 - (a + 1))) 8 row (nI ((wr true (r 2) n (a + 1)).1 - (a + 1)))) := by unfold bwF; rw [if_pos h_1]
    rw [hF]
    generalize (wr true (r 2) n (a + 1)).1 = e at *
    generalize (wr true (r 2) n (a + 1)).2 = bd at *
    refine r_ald rfl rfl ?_
    refine r_get rfl rfl ?_
    refine r_ild rfl rfl ?_
    refine r_ibi (v := (nI (e - (a + 1)))) rfl (pk_sub (by omega)) ?_
    refine r_ist (ls' := [some (zR (some q)), some (zI (nI row)), some (zI (nI (a + 1))), some (zI (nI (e - (a + 1)))), none]) rfl (Nat.le_of_ble_eq_true rfl) rfl ?_
    refine r_ald rfl rfl ?_
    refine r_ald rfl rfl ?_
    refine r_get rfl rfl ?_
    refine r_ifB1 rfl (fun h_2 => ?_) (fun h_2 => ?_)
    · refine r_ico (x := (nI 1)) rfl rfl ?_
      refine r_go rfl ?_
      refine r_put (s' := (c, n, e, true, v, f, rset r 8 row (nI 0))) rfl (Nat.le_of_ble_eq_true rfl) ⟨_, rfl, Or.inr rfl⟩ rfl rfl ?_
      refine r_ico (x := (nI 0)) rfl rfl ?_
      refine r_ist (ls' := [some (zR (some q)), some (zI (nI row)), some (zI (nI (a + 1))), some (zI (nI (e - (a + 1)))), some (zI (nI 0))]) rfl (Nat.le_of_ble_eq_true rfl) rfl ?_
      rw [if_pos (by first | (rw [h_2]; rfl) | (simp; right; omega))]
      exact l_bwB hrow (by omega) ⟨rfl, rfl⟩
    · refine r_ild rfl rfl ?_
      refine r_ico (x := (nI 24)) rfl rfl ?_
      refine r_cmpN (by omega) (by omega) rfl (fun h_3 => ?_) (fun h_3 => ?_)
      · replace h_3 : e - (a + 1) ≤ 24 := h_3
        refine r_ico (x := (nI 0)) rfl rfl ?_
        refine r_put (s' := (c, n, e, false, v, f, rset r 8 row (nI 0))) rfl (Nat.le_of_ble_eq_true rfl) ⟨_, rfl, Or.inl rfl⟩ rfl rfl ?_
        refine r_ico (x := (nI 0)) rfl rfl ?_
        refine r_ist (ls' := [some (zR (some q)), some (zI (nI row)), some (zI (nI (a + 1))), some (zI (nI (e - (a + 1)))), some (zI (nI 0))]) rfl (Nat.le_of_ble_eq_true rfl) rfl ?_
        rw [if_neg (by rw [h_2]; simp; omega)]
        exact Eq.mp (congrArg (fun z => rEv q qa (d + 3) tb_106 _ 69 _ [] (c, n, e, false, v, f, z)) (cpR_0 (rset r 8 row (nI 0)) 9 (24 * row) (a + 1))) (l_bw hrow (by omega) (by omega) ⟨rfl, rfl⟩ (e - (a + 1)) 0 (by omega) (by omega))
      · replace h_3 := Nat.not_le.mp h_3
        refine r_ico (x := (nI 1)) rfl rfl ?_
        refine r_go rfl ?_
        refine r_put (s' := (c, n, e, true, v, f, rset r 8 row (nI 0))) rfl (Nat.le_of_ble_eq_true rfl) ⟨_, rfl, Or.inr rfl⟩ rfl rfl ?_
        refine r_ico (x := (nI 0)) rfl rfl ?_
        refine r_ist (ls' := [some (zR (some q)), some (zI (nI row)), some (zI (nI (a + 1))), some (zI (nI (e - (a + 1)))), some (zI (nI 0))]) rfl (Nat.le_of_ble_eq_true rfl) rfl ?_
        rw [if_pos (by first | (rw [h_2]; rfl) | (simp; right; omega))]
        exact l_bwB hrow (by omega) ⟨rfl, rfl⟩
  · replace h_1 : ¬ ((ahd n a b ((rset r 8 row (nI 0)) 2)) = (nI 45)) := h_1
    refine r_rtv rfl ?_
    rw [rset_n _ _ _ (by decide)] at h_1
    simp [bwF, h_1]
