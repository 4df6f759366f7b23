theorem numA_le {n a : Nat} {b : Bool} {t : Nat → Int32} (h : a ≤ n) : a ≤ numA n a b t ∧ numA n a b t ≤ n := by
  unfold numA
  split
  · have := numEnd_ge (t := t) (n := n) (l := if t a = nI 48 then 1 else 10) (a := a)
    unfold numE
    omega
  · omega
def tkA (n a : Nat) (b : Bool) (t : Nat → Int32) (x : Int32) : Nat := if ahd n a b t = x then a + 1 else a
def tkB (n a : Nat) (b : Bool) (t : Nat → Int32) (x : Int32) : Bool := if ahd n a b t = x then b else true
theorem tkA_le {n a : Nat} {b : Bool} {t : Nat → Int32} {x : Int32} (h : a ≤ n) (hx : x ≠ -1) : a ≤ tkA n a b t x ∧ tkA n a b t x ≤ n := by
  unfold tkA
  split
  · rename_i g
    obtain ⟨-, g2, -⟩ := ahd_eq g hx
    omega
  · omega
theorem bwF_le {row n a : Nat} {b : Bool} {r : rA} (h : a ≤ n) : a ≤ (bwF row n a b r).1 ∧ (bwF row n a b r).1 ≤ n := by
  unfold bwF
  split
  · rename_i g
    obtain ⟨-, g2, -⟩ := ahd_eq g (by decide +kernel)
    have := wr_le (nb := true) (t := r 2) (n := n) (a := a + 1) (by omega)
    split
    · show a ≤ (wr true (r 2) n (a + 1)).1 ∧ (wr true (r 2) n (a + 1)).1 ≤ n
      omega
    · show a ≤ (wr true (r 2) n (a + 1)).1 ∧ (wr true (r 2) n (a + 1)).1 ≤ n
      omega
  · exact ⟨Nat.le_refl _, h⟩
/-- beforeWords leaves the other arrays -/
theorem bwF_arr {row n a : Nat} {b : Bool} {r : rA} {j : Nat} (h8 : j ≠ 8) (h9 : j ≠ 9) : (bwF row n a b r).2.2 j = r j := by
  unfold bwF
  split
  · split
    · show rset (rset r 8 row (nI 0)) 8 row _ j = _
      rw [rset_n _ _ _ h8, rset_n _ _ _ h8]
    · show rset (cpR (rset r 8 row (nI 0)) 9 _ _ _) 8 row _ j = _
      rw [rset_n _ _ _ h8, cpR_n h9, rset_n _ _ _ h8]
  · show rset r 8 row (nI 0) j = _
    rw [rset_n _ _ _ h8]
/-- three numbers with points between: at, bad, the numbers -/
def vnF (n a : Nat) (b : Bool) (t : Nat → Int32) : Nat × Bool × Int32 × Int32 × Int32 :=
  let a1 := numA n a b t
  let b1 := numB n a b t
  let a2 := tkA n a1 b1 t (nI 46)
  let b2 := tkB n a1 b1 t (nI 46)
  let a3 := numA n a2 b2 t
  let b3 := numB n a2 b2 t
  let a4 := tkA n a3 b3 t (nI 46)
  let b4 := tkB n a3 b3 t (nI 46)
  (numA n a4 b4 t, numB n a4 b4 t, numV n a b t, numV n a2 b2 t, numV n a4 b4 t)
def pbF (n a : Nat) (b : Bool) (t : Nat → Int32) : Nat × Bool := if ahd n a b t = nI 43 then wr false t n (a + 1) else (a, b)
/-- what version() does: at, bad, the arrays -/
def verF (n a : Nat) (b : Bool) (r : rA) : Nat × Bool × rA :=
  let u := vnF n a b (r 2)
  let w := bwF 40 n u.1 u.2.1 (rset (rset (rset r 5 40 u.2.2.1) 6 40 u.2.2.2.1) 7 40 u.2.2.2.2)
  let x := pbF n w.1 w.2.1 (r 2)
  if x.2 || decide (24 < x.1 - a) then (x.1, true, rset w.2.2 18 40 (nI (x.1 - a))) else (x.1, false, rset (cpR w.2.2 19 960 a (x.1 - a)) 18 40 (nI (x.1 - a)))
/-- which sign is ahead, and what is behind it -/
def sgF (n a : Nat) (b : Bool) (t : Nat → Int32) : Nat × Int32 :=
  if ahd n a b t = nI 94 then (a + 1, nI 1) else if ahd n a b t = nI 126 then (a + 1, nI 2) else if ahd n a b t = nI 61 then (a + 1, nI 3)
  else if ahd n a b t = nI 60 then (if ahd n (a + 1) b t = nI 61 then (a + 1 + 1, nI 7) else (a + 1, nI 6))
  else if ahd n a b t = nI 62 then (if ahd n (a + 1) b t = nI 61 then (a + 1 + 1, nI 5) else (a + 1, nI 4)) else (a, -1)
set_option maxHeartbeats 1000000 in
theorem c_signAhead {q : Nat} {qa : Nat → Nat} {d c n a v f : Nat} {b : Bool} {r : rA}  (hn : n ≤ 160) (ha : a < 80000) : rFun q qa (d + 2) 108 [zR (some q)] (c, n, a, b, v, f, r) (c, n, (sgF n a b (r 2)).1, b, v, f, r) (some (zI ((sgF n a b (r 2)).2))) := by
  refine rFun.of (d := d + 1) (T := tb_108) (L := [some (zR (some q)), none, none]) (Nat.le_of_ble_eq_true rfl) rfl rfl ?_
  refine r_ald rfl rfl ?_
  refine r_call (as := [zR (some q)]) (r := []) (s' := (c, n, a, b, v, f, r)) (v := some (zI (ahd n a b (r 2)))) rfl rfl rfl (Nat.le_of_ble_eq_true rfl) (Or.inr ⟨rfl, rfl, _, rfl⟩) (c_ahead (by omega) (by omega)) ?_
  refine r_ist (ls' := [some (zR (some q)), some (zI (ahd n a b (r 2))), none]) rfl (Nat.le_of_ble_eq_true rfl) rfl ?_
  refine r_ild rfl rfl ?_
  refine r_ico (x := (nI 94)) rfl rfl ?_
  refine r_cmp rfl (fun h_1 => ?_) (fun h_1 => ?_)
  · replace h_1 : (ahd n a b (r 2)) = (nI 94) := h_1
    refine r_ald rfl rfl ?_
    refine r_dup rfl rfl ?_
    refine r_get rfl rfl ?_
    refine r_ico (x := (nI 1)) rfl rfl ?_
    refine r_ibi (v := (nI (a + 1))) rfl (nI_add _ _) ?_
    refine r_put (s' := (c, n, a + 1, b, v, f, r)) rfl (Nat.le_of_ble_eq_true rfl) ⟨_, rfl⟩ rfl rfl ?_
    refine r_ild rfl rfl ?_
    refine r_ico (x := (nI 94)) rfl rfl ?_
    refine r_cmp rfl (fun h_2 => ?_) (fun h_2 => ?_)
    · replace h_2 : ¬ (ahd n a b (r 2)) = (nI 94) := h_2
      exact absurd h_1 h_2
    · replace h_2 : (ahd n a b (r 2)) = (nI 94) := Decidable.of_not_not h_2
      refine r_ico (x := (nI 1)) rfl rfl ?_
      refine r_go rfl ?_
      refine r_ret rfl ⟨_, rfl⟩ ?_
      simp [sgF, *, nI_eq]
  · replace h_1 : ¬ ((ahd n a b (r 2)) = (nI 94)) := h_1
    refine r_ild rfl rfl ?_
    refine r_ico (x := (nI 126)) rfl rfl ?_
    refine r_cmp rfl (fun h_3 => ?_) (fun h_3 => ?_)
    · replace h_3 : (ahd n a b (r 2)) = (nI 126) := h_3
      refine r_ald rfl rfl ?_
      refine r_dup rfl rfl ?_
      refine r_get rfl rfl ?_
      refine r_ico (x := (nI 1)) rfl rfl ?_
      refine r_ibi (v := (nI (a + 1))) rfl (nI_add _ _) ?_
      refine r_put (s' := (c, n, a + 1, b, v, f, r)) rfl (Nat.le_of_ble_eq_true rfl) ⟨_, rfl⟩ rfl rfl ?_
      refine r_ild rfl rfl ?_
      refine r_ico (x := (nI 94)) rfl rfl ?_
      refine r_cmp rfl (fun h_4 => ?_) (fun h_4 => ?_)
      · replace h_4 : ¬ (ahd n a b (r 2)) = (nI 94) := h_4
        refine r_ild rfl rfl ?_
        refine r_ico (x := (nI 126)) rfl rfl ?_
        refine r_cmp rfl (fun h_5 => ?_) (fun h_5 => ?_)
        · replace h_5 : ¬ (ahd n a b (r 2)) = (nI 126) := h_5
          exact absurd h_3 h_5
        · replace h_5 : (ahd n a b (r 2)) = (nI 126) := Decidable.of_not_not h_5
          refine r_ico (x := (nI 2)) rfl rfl ?_
          refine r_go rfl ?_
          refine r_ret rfl ⟨_, rfl⟩ ?_
          simp [sgF, *, nI_eq]
      · replace h_4 : (ahd n a b (r 2)) = (nI 94) := Decidable.of_not_not h_4
        rw [h_3] at h_4; exact absurd h_4 (by decide +kernel)
    · replace h_3 : ¬ ((ahd n a b (r 2)) = (nI 126)) := h_3
      refine r_ild rfl rfl ?_
      refine r_ico (x := (nI 61)) rfl rfl ?_
      refine r_cmp rfl (fun h_6 => ?_) (fun h_6 => ?_)
      · replace h_6 : ¬ (ahd n a b (r 2)) = (nI 61) := h_6
        refine r_ild rfl rfl ?_
        refine r_ico (x := (nI 60)) rfl rfl ?_
        refine r_cmp rfl (fun h_7 => ?_) (fun h_7 => ?_)
        · replace h_7 : (ahd n a b (r 2)) = (nI 60) := h_7
          refine r_ald rfl rfl ?_
          refine r_dup rfl rfl ?_
          refine r_get rfl rfl ?_
          refine r_ico (x := (nI 1)) rfl rfl ?_
          refine r_ibi (v := (nI (a + 1))) rfl (nI_add _ _) ?_
          refine r_put (s' := (c, n, a + 1, b, v, f, r)) rfl (Nat.le_of_ble_eq_true rfl) ⟨_, rfl⟩ rfl rfl ?_
          refine r_ald rfl rfl ?_
          refine r_call (as := [zR (some q)]) (r := []) (s' := (c, n, a + 1, b, v, f, r)) (v := some (zI (ahd n (a + 1) b (r 2)))) rfl rfl rfl (Nat.le_of_ble_eq_true rfl) (Or.inr ⟨rfl, rfl, _, rfl⟩) (c_ahead (by omega) (by omega)) ?_
          refine r_ico (x := (nI 61)) rfl rfl ?_
          refine r_cmp rfl (fun h_8 => ?_) (fun h_8 => ?_)
          · replace h_8 : ¬ (ahd n (a + 1) b (r 2)) = (nI 61) := h_8
            refine r_ico (x := (nI 0)) rfl rfl ?_
            refine r_ist (ls' := [some (zR (some q)), some (zI (ahd n a b (r 2))), some (zI (nI 0))]) rfl (Nat.le_of_ble_eq_true rfl) rfl ?_
            refine r_ald rfl rfl ?_
            refine r_ild rfl rfl ?_
            refine r_ifN (by omega) rfl (fun h_9 => ?_) (fun h_9 => ?_)
            · replace h_9 : 0 = 0 := h_9
              refine r_ald rfl rfl ?_
              refine r_get rfl rfl ?_
              refine r_put (s' := (c, n, a + 1, b, v, f, r)) rfl (Nat.le_of_ble_eq_true rfl) ⟨_, rfl⟩ rfl rfl ?_
              refine r_ild rfl rfl ?_
              refine r_ico (x := (nI 62)) rfl rfl ?_
              refine r_cmp rfl (fun h_10 => ?_) (fun h_10 => ?_)
              · replace h_10 : ¬ (ahd n a b (r 2)) = (nI 62) := h_10
                refine r_ild rfl rfl ?_
                refine r_ifN (by omega) rfl (fun h_11 => ?_) (fun h_11 => ?_)
                · replace h_11 : 0 = 0 := h_11
                  refine r_ico (x := (nI 6)) rfl rfl ?_
                  refine r_ret rfl ⟨_, rfl⟩ ?_
                  simp [sgF, *, nI_eq]
                · replace h_11 : ¬ (0 = 0) := h_11
                  omega
              · replace h_10 : (ahd n a b (r 2)) = (nI 62) := Decidable.of_not_not h_10
                rw [h_7] at h_10; exact absurd h_10 (by decide +kernel)
            · replace h_9 : ¬ (0 = 0) := h_9
              omega
          · replace h_8 : (ahd n (a + 1) b (r 2)) = (nI 61) := Decidable.of_not_not h_8
            refine r_ico (x := (nI 1)) rfl rfl ?_
            refine r_go rfl ?_
            refine r_ist (ls' := [some (zR (some q)), some (zI (ahd n a b (r 2))), some (zI (nI 1))]) rfl (Nat.le_of_ble_eq_true rfl) rfl ?_
            refine r_ald rfl rfl ?_
            refine r_ild rfl rfl ?_
            refine r_ifN (by omega) rfl (fun h_12 => ?_) (fun h_12 => ?_)
            · replace h_12 : 1 = 0 := h_12
              omega
            · replace h_12 : ¬ (1 = 0) := h_12
              refine r_ald rfl rfl ?_
              refine r_get rfl rfl ?_
              refine r_ico (x := (nI 1)) rfl rfl ?_
              refine r_ibi (v := (nI (a + 1 + 1))) rfl (nI_add _ _) ?_
              refine r_go rfl ?_
              refine r_put (s' := (c, n, a + 1 + 1, b, v, f, r)) rfl (Nat.le_of_ble_eq_true rfl) ⟨_, rfl⟩ rfl rfl ?_
              refine r_ild rfl rfl ?_
              refine r_ico (x := (nI 62)) rfl rfl ?_
              refine r_cmp rfl (fun h_13 => ?_) (fun h_13 => ?_)
              · replace h_13 : ¬ (ahd n a b (r 2)) = (nI 62) := h_13
                refine r_ild rfl rfl ?_
                refine r_ifN (by omega) rfl (fun h_14 => ?_) (fun h_14 => ?_)
                · replace h_14 : 1 = 0 := h_14
                  omega
                · replace h_14 : ¬ (1 = 0) := h_14
                  refine r_ico (x := (nI 7)) rfl rfl ?_
                  refine r_go rfl ?_
                  refine r_ret rfl ⟨_, rfl⟩ ?_
                  simp [sgF, *, nI_eq]
              · replace h_13 : (ahd n a b (r 2)) = (nI 62) := Decidable.of_not_not h_13
                rw [h_7] at h_13; exact absurd h_13 (by decide +kernel)
        · replace h_7 : ¬ ((ahd n a b (r 2)) = (nI 60)) := h_7
          refine r_ild rfl rfl ?_
          refine r_ico (x := (nI 62)) rfl rfl ?_
          refine r_cmp rfl (fun h_15 => ?_) (fun h_15 => ?_)
          · replace h_15 : (ahd n a b (r 2)) = (nI 62) := h_15
            refine r_ald rfl rfl ?_
            refine r_dup rfl rfl ?_
            refine r_get rfl rfl ?_
            refine r_ico (x := (nI 1)) rfl rfl ?_
            refine r_ibi (v := (nI (a + 1))) rfl (nI_add _ _) ?_
            refine r_put (s' := (c, n, a + 1, b, v, f, r)) rfl (Nat.le_of_ble_eq_true rfl) ⟨_, rfl⟩ rfl rfl ?_
            refine r_ald rfl rfl ?_
            refine r_call (as := [zR (some q)]) (r := []) (s' := (c, n, a + 1, b, v, f, r)) (v := some (zI (ahd n (a + 1) b (r 2)))) rfl rfl rfl (Nat.le_of_ble_eq_true rfl) (Or.inr ⟨rfl, rfl, _, rfl⟩) (c_ahead (by omega) (by omega)) ?_
            refine r_ico (x := (nI 61)) rfl rfl ?_
            refine r_cmp rfl (fun h_16 => ?_) (fun h_16 => ?_)
            · replace h_16 : ¬ (ahd n (a + 1) b (r 2)) = (nI 61) := h_16
              refine r_ico (x := (nI 0)) rfl rfl ?_
              refine r_ist (ls' := [some (zR (some q)), some (zI (ahd n a b (r 2))), some (zI (nI 0))]) rfl (Nat.le_of_ble_eq_true rfl) rfl ?_
              refine r_ald rfl rfl ?_
              refine r_ild rfl rfl ?_
              refine r_ifN (by omega) rfl (fun h_17 => ?_) (fun h_17 => ?_)
              · replace h_17 : 0 = 0 := h_17
                refine r_ald rfl rfl ?_
                refine r_get rfl rfl ?_
                refine r_put (s' := (c, n, a + 1, b, v, f, r)) rfl (Nat.le_of_ble_eq_true rfl) ⟨_, rfl⟩ rfl rfl ?_
                refine r_ild rfl rfl ?_
                refine r_ico (x := (nI 62)) rfl rfl ?_
                refine r_cmp rfl (fun h_18 => ?_) (fun h_18 => ?_)
                · replace h_18 : ¬ (ahd n a b (r 2)) = (nI 62) := h_18
                  exact absurd h_15 h_18
                · replace h_18 : (ahd n a b (r 2)) = (nI 62) := Decidable.of_not_not h_18
                  refine r_ild rfl rfl ?_
                  refine r_ifN (by omega) rfl (fun h_19 => ?_) (fun h_19 => ?_)
                  · replace h_19 : 0 = 0 := h_19
                    refine r_ico (x := (nI 4)) rfl rfl ?_
                    refine r_go rfl ?_
                    refine r_ret rfl ⟨_, rfl⟩ ?_
                    simp [sgF, *, nI_eq]
                  · replace h_19 : ¬ (0 = 0) := h_19
                    omega
              · replace h_17 : ¬ (0 = 0) := h_17
                omega
            · replace h_16 : (ahd n (a + 1) b (r 2)) = (nI 61) := Decidable.of_not_not h_16
              refine r_ico (x := (nI 1)) rfl rfl ?_
              refine r_go rfl ?_
              refine r_ist (ls' := [some (zR (some q)), some (zI (ahd n a b (r 2))), some (zI (nI 1))]) rfl (Nat.le_of_ble_eq_true rfl) rfl ?_
              refine r_ald rfl rfl ?_
              refine r_ild rfl rfl ?_
              refine r_ifN (by omega) rfl (fun h_20 => ?_) (fun h_20 => ?_)
              · replace h_20 : 1 = 0 := h_20
                omega
              · replace h_20 : ¬ (1 = 0) := h_20
                refine r_ald rfl rfl ?_
                refine r_get rfl rfl ?_
                refine r_ico (x := (nI 1)) rfl rfl ?_
                refine r_ibi (v := (nI (a + 1 + 1))) rfl (nI_add _ _) ?_
                refine r_go rfl ?_
                refine r_put (s' := (c, n, a + 1 + 1, b, v, f, r)) rfl (Nat.le_of_ble_eq_true rfl) ⟨_, rfl⟩ rfl rfl ?_
                refine r_ild rfl rfl ?_
                refine r_ico (x := (nI 62)) rfl rfl ?_
                refine r_cmp rfl (fun h_21 => ?_) (fun h_21 => ?_)
                · replace h_21 : ¬ (ahd n a b (r 2)) = (nI 62) := h_21
                  exact absurd h_15 h_21
                · replace h_21 : (ahd n a b (r 2)) = (nI 62) := Decidable.of_not_not h_21
                  refine r_ild rfl rfl ?_
                  refine r_ifN (by omega) rfl (fun h_22 => ?_) (fun h_22 => ?_)
                  · replace h_22 : 1 = 0 := h_22
                    omega
                  · replace h_22 : ¬ (1 = 0) := h_22
                    refine r_ico (x := (nI 5)) rfl rfl ?_
                    refine r_go rfl ?_
                    refine r_ret rfl ⟨_, rfl⟩ ?_
                    simp [sgF, *, nI_eq]
          · replace h_15 : ¬ ((ahd n a b (r 2)) = (nI 62)) := h_15
            refine r_ico (x := (-1)) rfl rfl ?_
            refine r_ret rfl ⟨_, rfl⟩ ?_
            simp [sgF, *, nI_eq]
      · replace h_6 : (ahd n a b (r 2)) = (nI 61) := Decidable.of_not_not h_6
        refine r_ald rfl rfl ?_
        refine r_dup rfl rfl ?_
        refine r_get rfl rfl ?_
        refine r_ico (x := (nI 1)) rfl rfl ?_
        refine r_ibi (v := (nI (a + 1))) rfl (nI_add _ _) ?_
        refine r_put (s' := (c, n, a + 1, b, v, f, r)) rfl (Nat.le_of_ble_eq_true rfl) ⟨_, rfl⟩ rfl rfl ?_
        refine r_ild rfl rfl ?_
        refine r_ico (x := (nI 94)) rfl rfl ?_
        refine r_cmp rfl (fun h_23 => ?_) (fun h_23 => ?_)
        · replace h_23 : ¬ (ahd n a b (r 2)) = (nI 94) := h_23
          refine r_ild rfl rfl ?_
          refine r_ico (x := (nI 126)) rfl rfl ?_
          refine r_cmp rfl (fun h_24 => ?_) (fun h_24 => ?_)
          · replace h_24 : ¬ (ahd n a b (r 2)) = (nI 126) := h_24
            refine r_ico (x := (nI 3)) rfl rfl ?_
            refine r_ret rfl ⟨_, rfl⟩ ?_
            simp [sgF, *, nI_eq]
          · replace h_24 : (ahd n a b (r 2)) = (nI 126) := Decidable.of_not_not h_24
            rw [h_6] at h_24; exact absurd h_24 (by decide +kernel)
        · replace h_23 : (ahd n a b (r 2)) = (nI 94) := Decidable.of_not_not h_23
          rw [h_6] at h_23; exact absurd h_23 (by decide +kernel)
set_option maxHeartbeats 1000000 in
theorem l_ver {q : Nat} {qa : Nat → Nat} {d c n a v f p m : Nat} {r : rA} {Q : rS → (Option zV ⊕ Nat) → Prop} (hm : m ≤ 24) (hp : p + m ≤ 160) (hQ : Q (c, n, a, false, v, f, rset (cpR r 19 960 p m) 18 40 (nI m)) (.inl none)) : ∀ (i k : Nat), m ≤ k + i → k ≤ m → rEv q qa (d + 4) tb_107 Q 111 [some (zR (some q)), some (zI (nI p)), some (zI (nI m)), some (zI (nI k))] [] (c, n, a, false, v, f, cpR r 19 960 p k) := by
  intro i
  induction i with
  | zero =>
    intro k h1 h2
    have h3 : m = k := by omega
    subst h3
    refine r_ild rfl rfl ?_
    refine r_ild rfl rfl ?_
    refine r_cmpN (by omega) (by omega) rfl (fun h_1 => ?_) (fun h_1 => ?_)
    · replace h_1 : m ≤ m := h_1
      refine r_ald rfl rfl ?_
      refine r_get rfl rfl ?_
      refine r_ico (x := (nI 40)) rfl rfl ?_
      refine r_ild rfl rfl ?_
      refine r_iastN (k0 := 18) (x' := (nI m)) rfl rfl (by omega) (by decide) rfl ?_
      refine r_rtv rfl ?_
      exact hQ
    · replace h_1 := Nat.not_le.mp h_1
      omega
  | succ i ih =>
    intro k h1 h2
    refine r_ild rfl rfl ?_
    refine r_ild rfl rfl ?_
    refine r_cmpN (by omega) (by omega) rfl (fun h_1 => ?_) (fun h_1 => ?_)
    · replace h_1 : m ≤ k := h_1
      refine r_ald rfl rfl ?_
      refine r_get rfl rfl ?_
      refine r_ico (x := (nI 40)) rfl rfl ?_
      refine r_ild rfl rfl ?_
      refine r_iastN (k0 := 18) (x' := (nI m)) rfl rfl (by omega) (by decide) rfl ?_
      refine r_rtv rfl ?_
      have h3 : m = k := by omega
      subst h3
      exact hQ
    · replace h_1 := Nat.not_le.mp h_1
      refine r_ald rfl rfl ?_
      refine r_get rfl rfl ?_
      refine r_ifB1 rfl (fun h_2 => ?_) (fun h_2 => ?_)
      · cases h_2
      · refine r_ald rfl rfl ?_
        refine r_get rfl rfl ?_
        refine r_ico (x := (nI 960)) rfl rfl ?_
        refine r_ild rfl rfl ?_
        refine r_ibi (v := (nI (960 + k))) rfl (nI_add _ _) ?_
        refine r_ald rfl rfl ?_
        refine r_get rfl rfl ?_
        refine r_ild rfl rfl ?_
        refine r_ild rfl rfl ?_
        refine r_ibi (v := (nI (p + k))) rfl (nI_add _ _) ?_
        refine r_ialdN (k0 := 2) rfl rfl (by omega) (by decide) ?_
        refine r_iastN (k0 := 19) (x' := ((cpR r 19 960 p k) 2 (p + k))) rfl rfl (by omega) (by decide) rfl ?_
        refine r_inc (x' := (nI (k + 1))) (ls' := [some (zR (some q)), some (zI (nI p)), some (zI (nI m)), some (zI (nI (k + 1)))]) rfl rfl (nI_1 _) rfl ?_
        refine r_go rfl ?_
        rw [cpR_s (by decide)]
        exact ih (k + 1) (by omega) (by omega)
set_option maxHeartbeats 1000000 in
theorem l_verB {q : Nat} {qa : Nat → Nat} {d c n a v f p m : Nat} {r : rA} {Q : rS → (Option zV ⊕ Nat) → Prop} (hm : m < 90000) (hQ : Q (c, n, a, true, v, f, rset r 18 40 (nI m)) (.inl none)) : rEv q qa (d + 4) tb_107 Q 111 [some (zR (some q)), some (zI (nI p)), some (zI (nI m)), some (zI (nI 0))] [] (c, n, a, true, v, f, r) := by
  refine r_ild rfl rfl ?_
  refine r_ild rfl rfl ?_
  refine r_cmpN (by omega) (by omega) rfl (fun h_1 => ?_) (fun h_1 => ?_)
  · replace h_1 : m ≤ 0 := h_1
    refine r_ald rfl rfl ?_
    refine r_get rfl rfl ?_
    refine r_ico (x := (nI 40)) rfl rfl ?_
    refine r_ild rfl rfl ?_
    refine r_iastN (k0 := 18) (x' := (nI m)) rfl rfl (by omega) (by decide) rfl ?_
    refine r_rtv rfl ?_
    exact hQ
  · replace h_1 := Nat.not_le.mp h_1
    refine r_ald rfl rfl ?_
    refine r_get rfl rfl ?_
    refine r_ifB1 rfl (fun h_2 => ?_) (fun h_2 => ?_)
    · refine r_ald rfl rfl ?_
      refine r_get rfl rfl ?_
      refine r_ico (x := (nI 40)) rfl rfl ?_
      refine r_ild rfl rfl ?_
      refine r_iastN (k0 := 18) (x' := (nI m)) rfl rfl (by omega) (by decide) rfl ?_
      refine r_rtv rfl ?_
      exact hQ
    · cases h_2
set_option maxHeartbeats 2000000 in
theorem c_version {q : Nat} {qa : Nat → Nat} {d c n a v f : Nat} {b : Bool} {r : rA} (hn : n ≤ 160) (ha : a ≤ n) : rFun q qa (d + 5) 107 [zR (some q)] (c, n, a, b, v, f, r) (c, n, (verF n a b r).1, (verF n a b r).2.1, v, f, (verF n a b r).2.2) none := by
  refine rFun.of (d := d + 4) (T := tb_107) (L := [some (zR (some q)), none, none, none]) (Nat.le_of_ble_eq_true rfl) rfl rfl ?_
  refine r_ald rfl rfl ?_
  refine r_get rfl rfl ?_
  refine r_ist (ls' := [some (zR (some q)), some (zI (nI a)), none, none]) rfl (Nat.le_of_ble_eq_true rfl) rfl ?_
  refine r_ald rfl rfl ?_
  refine r_get rfl rfl ?_
  refine r_ico (x := (nI 40)) rfl rfl ?_
  refine r_ald rfl rfl ?_
  obtain ⟨a1, ha1⟩ : ∃ x, x = numA n a b (r 2) := ⟨_, rfl⟩
  obtain ⟨b1, hb1⟩ : ∃ x, x = numB n a b (r 2) := ⟨_, rfl⟩
  obtain ⟨v1, hv1⟩ : ∃ x, x = numV n a b (r 2) := ⟨_, rfl⟩
  have la1 := numA_le (n := n) (a := a) (b := b) (t := r 2) (by omega)
  rw [← ha1] at la1
  refine r_call (as := [zR (some q)]) (r := [zI (nI 40), zR (some (qa 5))]) (s' := (c, n, a1, b1, v, f, r)) (v := some (zI (v1))) rfl rfl rfl (Nat.le_of_ble_eq_true rfl) (Or.inr ⟨rfl, rfl, _, rfl⟩) (by rw [ha1, hb1, hv1]; exact c_number (by omega) (by omega)) ?_
  refine r_iastN (k0 := 5) (x' := (v1)) rfl rfl (by omega) (by decide) rfl ?_
  refine r_ald rfl rfl ?_
  refine r_ico (x := (nI 46)) rfl rfl ?_
  obtain ⟨a2, ha2⟩ : ∃ x, x = tkA n a1 b1 (r 2) (nI 46) := ⟨_, rfl⟩
  obtain ⟨b2, hb2⟩ : ∃ x, x = tkB n a1 b1 (r 2) (nI 46) := ⟨_, rfl⟩
  have la2 := tkA_le (n := n) (a := a1) (b := b1) (t := r 2) (x := (nI 46)) (by omega) (by decide +kernel)
  rw [← ha2] at la2
  refine r_call (as := [zR (some q), zI (nI 46)]) (r := []) (s' := (c, n, a2, b2, v, f, rset r 5 40 (v1))) (v := none) rfl rfl rfl (Nat.le_of_ble_eq_true rfl) (Or.inr ⟨rfl, rfl, _, rfl⟩) (by rw [ha2, hb2]; exact c_take (by omega) (by omega)) ?_
  refine r_ald rfl rfl ?_
  refine r_get rfl rfl ?_
  refine r_ico (x := (nI 40)) rfl rfl ?_
  refine r_ald rfl rfl ?_
  obtain ⟨a3, ha3⟩ : ∃ x, x = numA n a2 b2 (r 2) := ⟨_, rfl⟩
  obtain ⟨b3, hb3⟩ : ∃ x, x = numB n a2 b2 (r 2) := ⟨_, rfl⟩
  obtain ⟨v3, hv3⟩ : ∃ x, x = numV n a2 b2 (r 2) := ⟨_, rfl⟩
  have la3 := numA_le (n := n) (a := a2) (b := b2) (t := r 2) (by omega)
  rw [← ha3] at la3
  refine r_call (as := [zR (some q)]) (r := [zI (nI 40), zR (some (qa 6))]) (s' := (c, n, a3, b3, v, f, rset r 5 40 (v1))) (v := some (zI (v3))) rfl rfl rfl (Nat.le_of_ble_eq_true rfl) (Or.inr ⟨rfl, rfl, _, rfl⟩) (by rw [ha3, hb3, hv3]; exact c_number (by omega) (by omega)) ?_
  refine r_iastN (k0 := 6) (x' := (v3)) rfl rfl (by omega) (by decide) rfl ?_
  refine r_ald rfl rfl ?_
  refine r_ico (x := (nI 46)) rfl rfl ?_
  obtain ⟨a4, ha4⟩ : ∃ x, x = tkA n a3 b3 (r 2) (nI 46) := ⟨_, rfl⟩
  obtain ⟨b4, hb4⟩ : ∃ x, x = tkB n a3 b3 (r 2) (nI 46) := ⟨_, rfl⟩
  have la4 := tkA_le (n := n) (a := a3) (b := b3) (t := r 2) (x := (nI 46)) (by omega) (by decide +kernel)
  rw [← ha4] at la4
  refine r_call (as := [zR (some q), zI (nI 46)]) (r := []) (s' := (c, n, a4, b4, v, f, rset (rset r 5 40 (v1)) 6 40 (v3))) (v := none) rfl rfl rfl (Nat.le_of_ble_eq_true rfl) (Or.inr ⟨rfl, rfl, _, rfl⟩) (by rw [ha4, hb4]; exact c_take (by omega) (by omega)) ?_
  refine r_ald rfl rfl ?_
  refine r_get rfl rfl ?_
  refine r_ico (x := (nI 40)) rfl rfl ?_
  refine r_ald rfl rfl ?_
  obtain ⟨a5, ha5⟩ : ∃ x, x = numA n a4 b4 (r 2) := ⟨_, rfl⟩
  obtain ⟨b5, hb5⟩ : ∃ x, x = numB n a4 b4 (r 2) := ⟨_, rfl⟩
  obtain ⟨v5, hv5⟩ : ∃ x, x = numV n a4 b4 (r 2) := ⟨_, rfl⟩
  have la5 := numA_le (n := n) (a := a4) (b := b4) (t := r 2) (by omega)
  rw [← ha5] at la5
  refine r_call (as := [zR (some q)]) (r := [zI (nI 40), zR (some (qa 7))]) (s' := (c, n, a5, b5, v, f, rset (rset r 5 40 (v1)) 6 40 (v3))) (v := some (zI (v5))) rfl rfl rfl (Nat.le_of_ble_eq_true rfl) (Or.inr ⟨rfl, rfl, _, rfl⟩) (by rw [ha5, hb5, hv5]; exact c_number (by omega) (by omega)) ?_
  refine r_iastN (k0 := 7) (x' := (v5)) rfl rfl (by omega) (by decide) rfl ?_
  refine r_ald rfl rfl ?_
  refine r_ico (x := (nI 40)) rfl rfl ?_
  obtain ⟨w6, hw6⟩ : ∃ x, x = bwF 40 n a5 b5 (rset (rset (rset r 5 40 (v1)) 6 40 (v3)) 7 40 (v5)) := ⟨_, rfl⟩
  have lw6 := bwF_le (row := 40) (n := n) (a := a5) (b := b5) (r := rset (rset (rset r 5 40 (v1)) 6 40 (v3)) 7 40 (v5)) (by omega)
  have tw6 : w6.2.2 2 = r 2 := by rw [hw6]; exact bwF_arr (by decide) (by decide)
  rw [← hw6] at lw6
  obtain ⟨a6, b6, r6⟩ := w6
  replace tw6 : r6 2 = r 2 := tw6
  replace lw6 : a5 ≤ a6 ∧ a6 ≤ n := lw6
  refine r_call (as := [zR (some q), zI (nI 40)]) (r := []) (s' := (c, n, a6, b6, v, f, r6)) (v := none) rfl rfl rfl (Nat.le_of_ble_eq_true rfl) (Or.inr ⟨rfl, rfl, _, rfl⟩) (by have h9 := c_beforeWords (q := q) (qa := qa) (d := d) (c := c) (n := n) (a := a5) (v := v) (f := f) (row := 40) (b := b5) (r := rset (rset (rset r 5 40 (v1)) 6 40 (v3)) 7 40 (v5)) (by omega) (by omega) (by omega); rw [← hw6] at h9; exact h9) ?_
  refine r_ald rfl rfl ?_
  refine r_call (as := [zR (some q)]) (r := []) (s' := (c, n, a6, b6, v, f, r6)) (v := some (zI (ahd n a6 b6 (r 2)))) rfl rfl rfl (Nat.le_of_ble_eq_true rfl) (Or.inr ⟨rfl, rfl, _, rfl⟩) (by have h9 := c_ahead (q := q) (qa := qa) (d := d + 3) (c := c) (n := n) (a := a6) (v := v) (f := f) (b := b6) (r := r6) (by omega) (by omega); rw [tw6] at h9; exact h9) ?_
  refine r_ico (x := (nI 43)) rfl rfl ?_
  refine r_cmp rfl (fun h_1 => ?_) (fun h_1 => ?_)
  · replace h_1 : ¬ (ahd n a6 b6 (r 2)) = (nI 43) := h_1
    refine r_ald rfl rfl ?_
    refine r_get rfl rfl ?_
    refine r_ild rfl rfl ?_
    refine r_ibi (v := (nI (a6 - a))) rfl (pk_sub (by omega)) ?_
    refine r_ist (ls' := [some (zR (some q)), some (zI (nI a)), some (zI (nI (a6 - a))), none]) rfl (Nat.le_of_ble_eq_true rfl) rfl ?_
    have e1 : vnF n a b (r 2) = (a5, b5, v1, v3, v5) := by unfold vnF; simp only [← ha1, ← hb1, ← hv1, ← ha2, ← hb2, ← ha3, ← hb3, ← hv3, ← ha4, ← hb4, ← ha5, ← hb5, ← hv5]
    have e2 : pbF n a6 b6 (r 2) = (a6, b6) := by unfold pbF; rw [if_neg h_1]
    have e3 : verF n a b r = if b6 || decide (24 < a6 - a) then (a6, true, rset r6 18 40 (nI (a6 - a))) else (a6, false, rset (cpR r6 19 960 a (a6 - a)) 18 40 (nI (a6 - a))) := by unfold verF; simp only [e1, ← hw6, e2]
    rw [e3]
    refine r_ald rfl rfl ?_
    refine r_ald rfl rfl ?_
    refine r_get rfl rfl ?_
    refine r_ifB1 rfl (fun h_2 => ?_) (fun h_2 => ?_)
    · refine r_ico (x := (nI 1)) rfl rfl ?_
      refine r_go rfl ?_
      refine r_put (s' := (c, n, a6, true, v, f, r6)) rfl (Nat.le_of_ble_eq_true rfl) ⟨_, rfl, Or.inr rfl⟩ rfl rfl ?_
      refine r_ico (x := (nI 0)) rfl rfl ?_
      refine r_ist (ls' := [some (zR (some q)), some (zI (nI a)), some (zI (nI (a6 - a))), some (zI (nI 0))]) rfl (Nat.le_of_ble_eq_true rfl) rfl ?_
      rw [if_pos (by first | (rw [h_2]; rfl) | (simp; right; omega))]
      exact l_verB (by omega) ⟨rfl, rfl⟩
    · refine r_ild rfl rfl ?_
      refine r_ico (x := (nI 24)) rfl rfl ?_
      refine r_cmpN (by omega) (by omega) rfl (fun h_3 => ?_) (fun h_3 => ?_)
      · replace h_3 : a6 - a ≤ 24 := h_3
        refine r_ico (x := (nI 0)) rfl rfl ?_
        refine r_put (s' := (c, n, a6, false, v, f, r6)) rfl (Nat.le_of_ble_eq_true rfl) ⟨_, rfl, Or.inl rfl⟩ rfl rfl ?_
        refine r_ico (x := (nI 0)) rfl rfl ?_
        refine r_ist (ls' := [some (zR (some q)), some (zI (nI a)), some (zI (nI (a6 - a))), some (zI (nI 0))]) rfl (Nat.le_of_ble_eq_true rfl) rfl ?_
        rw [if_neg (by rw [h_2]; simp; omega)]
        exact Eq.mp (congrArg (fun z => rEv q qa (d + 4) tb_107 _ 111 _ [] (c, n, a6, false, v, f, z)) (cpR_0 r6 19 960 a)) (l_ver (by omega) (by omega) ⟨rfl, rfl⟩ (a6 - a) 0 (by omega) (by omega))
      · replace h_3 := Nat.not_le.mp h_3
        refine r_ico (x := (nI 1)) rfl rfl ?_
        refine r_go rfl ?_
        refine r_put (s' := (c, n, a6, true, v, f, r6)) rfl (Nat.le_of_ble_eq_true rfl) ⟨_, rfl, Or.inr rfl⟩ rfl rfl ?_
        refine r_ico (x := (nI 0)) rfl rfl ?_
        refine r_ist (ls' := [some (zR (some q)), some (zI (nI a)), some (zI (nI (a6 - a))), some (zI (nI 0))]) rfl (Nat.le_of_ble_eq_true rfl) rfl ?_
        rw [if_pos (by first | (rw [h_2]; rfl) | (simp; right; omega))]
        exact l_verB (by omega) ⟨rfl, rfl⟩
  · replace h_1 : (ahd n a6 b6 (r 2)) = (nI 43) := Decidable.of_not_not h_1
    obtain ⟨g1, g2, g3⟩ := ahd_eq h_1 (by decide +kernel)
    subst g1
    refine r_ald rfl rfl ?_
    refine r_dup rfl rfl ?_
    refine r_get rfl rfl ?_
    refine r_ico (x := (nI 1)) rfl rfl ?_
    refine r_ibi (v := (nI (a6 + 1))) rfl (nI_add _ _) ?_
    refine r_put (s' := (c, n, a6 + 1, false, v, f, r6)) rfl (Nat.le_of_ble_eq_true rfl) ⟨_, rfl⟩ rfl rfl ?_
    refine r_ald rfl rfl ?_
    refine r_ico (x := (nI 0)) rfl rfl ?_
    obtain ⟨u7, hu7⟩ : ∃ x, x = wr false (r 2) n (a6 + 1) := ⟨_, rfl⟩
    have lu7 := wr_le (nb := false) (t := r 2) (n := n) (a := a6 + 1) (by omega)
    rw [← hu7] at lu7
    obtain ⟨a7, b7⟩ := u7
    replace lu7 : a6 + 1 ≤ a7 ∧ a7 ≤ n := lu7
    refine r_call (as := [zR (some q), zI (nI 0)]) (r := []) (s' := (c, n, a7, b7, v, f, r6)) (v := none) rfl rfl rfl (Nat.le_of_ble_eq_true rfl) (Or.inr ⟨rfl, rfl, _, rfl⟩) (by have h9 := c_wordRow (q := q) (qa := qa) (d := d + 1) (c := c) (n := n) (a := a6 + 1) (v := v) (f := f) (nb := false) (b := false) (r := r6) (by omega) (by omega) (by omega); rw [tw6, ← hu7] at h9; exact h9) ?_
    refine r_ald rfl rfl ?_
    refine r_get rfl rfl ?_
    refine r_ild rfl rfl ?_
    refine r_ibi (v := (nI (a7 - a))) rfl (pk_sub (by omega)) ?_
    refine r_ist (ls' := [some (zR (some q)), some (zI (nI a)), some (zI (nI (a7 - a))), none]) rfl (Nat.le_of_ble_eq_true rfl) rfl ?_
    have e1 : vnF n a b (r 2) = (a5, b5, v1, v3, v5) := by unfold vnF; simp only [← ha1, ← hb1, ← hv1, ← ha2, ← hb2, ← ha3, ← hb3, ← hv3, ← ha4, ← hb4, ← ha5, ← hb5, ← hv5]
    have e2 : pbF n a6 false (r 2) = (a7, b7) := by unfold pbF; rw [if_pos h_1, ← hu7]
    have e3 : verF n a b r = if b7 || decide (24 < a7 - a) then (a7, true, rset r6 18 40 (nI (a7 - a))) else (a7, false, rset (cpR r6 19 960 a (a7 - a)) 18 40 (nI (a7 - a))) := by unfold verF; simp only [e1, ← hw6, e2]
    rw [e3]
    refine r_ald rfl rfl ?_
    refine r_ald rfl rfl ?_
    refine r_get rfl rfl ?_
    refine r_ifB1 rfl (fun h_4 => ?_) (fun h_4 => ?_)
    · refine r_ico (x := (nI 1)) rfl rfl ?_
      refine r_go rfl ?_
      refine r_put (s' := (c, n, a7, true, v, f, r6)) rfl (Nat.le_of_ble_eq_true rfl) ⟨_, rfl, Or.inr rfl⟩ rfl rfl ?_
      refine r_ico (x := (nI 0)) rfl rfl ?_
      refine r_ist (ls' := [some (zR (some q)), some (zI (nI a)), some (zI (nI (a7 - a))), some (zI (nI 0))]) rfl (Nat.le_of_ble_eq_true rfl) rfl ?_
      rw [if_pos (by first | (rw [h_4]; rfl) | (simp; right; omega))]
      exact l_verB (by omega) ⟨rfl, rfl⟩
    · refine r_ild rfl rfl ?_
      refine r_ico (x := (nI 24)) rfl rfl ?_
      refine r_cmpN (by omega) (by omega) rfl (fun h_5 => ?_) (fun h_5 => ?_)
      · replace h_5 : a7 - a ≤ 24 := h_5
        refine r_ico (x := (nI 0)) rfl rfl ?_
        refine r_put (s' := (c, n, a7, false, v, f, r6)) rfl (Nat.le_of_ble_eq_true rfl) ⟨_, rfl, Or.inl rfl⟩ rfl rfl ?_
        refine r_ico (x := (nI 0)) rfl rfl ?_
        refine r_ist (ls' := [some (zR (some q)), some (zI (nI a)), some (zI (nI (a7 - a))), some (zI (nI 0))]) rfl (Nat.le_of_ble_eq_true rfl) rfl ?_
        rw [if_neg (by rw [h_4]; simp; omega)]
        exact Eq.mp (congrArg (fun z => rEv q qa (d + 4) tb_107 _ 111 _ [] (c, n, a7, false, v, f, z)) (cpR_0 r6 19 960 a)) (l_ver (by omega) (by omega) ⟨rfl, rfl⟩ (a7 - a) 0 (by omega) (by omega))
      · replace h_5 := Nat.not_le.mp h_5
        refine r_ico (x := (nI 1)) rfl rfl ?_
        refine r_go rfl ?_
        refine r_put (s' := (c, n, a7, true, v, f, r6)) rfl (Nat.le_of_ble_eq_true rfl) ⟨_, rfl, Or.inr rfl⟩ rfl rfl ?_
        refine r_ico (x := (nI 0)) rfl rfl ?_
        refine r_ist (ls' := [some (zR (some q)), some (zI (nI a)), some (zI (nI (a7 - a))), some (zI (nI 0))]) rfl (Nat.le_of_ble_eq_true rfl) rfl ?_
        rw [if_pos (by first | (rw [h_4]; rfl) | (simp; right; omega))]
        exact l_verB (by omega) ⟨rfl, rfl⟩
