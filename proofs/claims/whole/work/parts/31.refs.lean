/-- k cells of an array from o on, each anew -/
def rput (r : rA) (k0 o : Nat) (g : Nat → Int32) (k : Nat) : rA := fun j => if j = k0 then (fun i => if o ≤ i ∧ i < o + k then g (i - o) else r k0 i) else r j
theorem rput_0 (r : rA) (k0 o : Nat) (g : Nat → Int32) : rput r k0 o g 0 = r := by
  funext j i
  unfold rput
  split
  · rename_i h
    subst h
    show (if _ then _ else _) = _
    rw [if_neg (by omega)]
  · rfl
theorem rput_n {r : rA} {k0 o : Nat} {g : Nat → Int32} {k j : Nat} (h : j ≠ k0) : rput r k0 o g k j = r j := by simp [rput, h]
theorem rput_s (r : rA) (k0 o : Nat) (g : Nat → Int32) (k : Nat) : rset (rput r k0 o g k) k0 (o + k) (g k) = rput r k0 o g (k + 1) := by
  funext j i
  unfold rset
  split
  · rename_i h
    subst h
    unfold upd rput
    simp only [if_pos]
    by_cases hi : i = o + k
    · subst hi
      simp
    · simp only [if_neg hi]
      by_cases g : o ≤ i ∧ i < o + k
      · rw [if_pos g, if_pos (by omega)]
      · rw [if_neg g, if_neg (by omega)]
  · rename_i h
    rw [rput_n h, rput_n h]
/-- the k-th byte of what is fed -/
def fby (x : Int64) (k : Nat) : Int32 := Int64.toInt32 (zlsh 1 x (nI (8 * k)) &&& 255)
/-- a line of the file -/
def wlF (r R : rA) (p f : Nat) : Nat × rA :=
  if r 22 p = -1 then (f, R) else (f + 1 + 1 + (r 18 (r 22 p).toNatClampNeg).toNatClampNeg + 1, rset (rput (rset (rset R 24 f (nI (48 + p))) 24 (f + 1) (nI 32)) 24 (f + 1 + 1) (fun y => r 19 (24 * (r 22 p).toNatClampNeg + y)) (r 18 (r 22 p).toNatClampNeg).toNatClampNeg) 24 (f + 1 + 1 + (r 18 (r 22 p).toNatClampNeg).toNatClampNeg) (nI 10))
/-- the lines of the first packages -/
def wfF (r : rA) : Nat → Nat × rA
  | 0 => (0, r)
  | p + 1 => wlF r (wfF r p).2 p (wfF r p).1
theorem wfF_n (r : rA) : ∀ (p k : Nat), k ≠ 24 → (wfF r p).2 k = r k
  | 0, k, _ => rfl
  | p + 1, k, h => by
    rw [wfF, wlF]
    split
    · exact wfF_n r p k h
    · show rset (rput (rset (rset _ 24 _ _) 24 _ _) 24 _ _ _) 24 _ _ k = _
      rw [rset_n _ _ _ h, rput_n h, rset_n _ _ _ h, rset_n _ _ _ h]
      exact wfF_n r p k h
theorem wfF_le (r : rA) (hC : ∀ p, p < 8 → r 22 p = -1 ∨ ∃ i, i < 40 ∧ r 22 p = nI i ∧ ∃ m, m ≤ 24 ∧ r 18 i = nI m) : ∀ p, p ≤ 8 → (wfF r p).1 ≤ 27 * p
  | 0, _ => Nat.le_refl _
  | p + 1, h => by
    have ih := wfF_le r hC p (by omega)
    rw [wfF, wlF]
    split
    · exact Nat.le_trans ih (by omega)
    · rename_i hp
      rcases hC p (by omega) with e | ⟨i, hi, e, m, hm, e2⟩
      · exact absurd e hp
      · rw [e, nI_clamp (by omega), e2, nI_clamp (by omega)]
        show _ + 1 + 1 + m + 1 ≤ _
        omega
set_option maxHeartbeats 1000000 in
theorem l_told1 {q : Nat} {qa : Nat → Nat} {d c n a v f : Nat} {b : Bool} {r : rA} {Q : rS → (Option zV ⊕ Nat) → Prop}  (hv : v ≤ 40) (hE : rEv q qa (d + 1) tb_148 Q 45 [some (zR (some q)), some (zI (nI 1)), some (zI (nI (cntB (r 17) v))), some (zI (nI v))] [] (0, n, a, b, v, f, r)) : ∀ k, k ≤ v → rEv q qa (d + 1) tb_148 Q 9 [some (zR (some q)), some (zI (nI 1)), some (zI (nI (cntB (r 17) k))), some (zI (nI k))] [] (0, n, a, b, v, f, r) := by
  refine dn v (fun k hk ih => ?_)
  refine r_ild rfl rfl ?_
  refine r_ald rfl rfl ?_
  refine r_get rfl rfl ?_
  refine r_cmpN (by omega) (by omega) rfl (fun h_1 => ?_) (fun h_1 => ?_)
  · replace h_1 : v ≤ k := h_1
    have h3 : k = v := by omega
    subst h3
    exact hE
  · replace h_1 := Nat.not_le.mp h_1
    refine r_ild rfl rfl ?_
    refine r_ico (x := (nI 1)) rfl rfl ?_
    refine r_cmpN (by omega) (by omega) rfl (fun h_2 => ?_) (fun h_2 => ?_)
    · replace h_2 : ¬ 1 = 1 := h_2
      omega
    · replace h_2 : 1 = 1 := Decidable.of_not_not h_2
      refine r_ild rfl rfl ?_
      refine r_ald rfl rfl ?_
      refine r_get rfl rfl ?_
      refine r_ild rfl rfl ?_
      refine r_ialdN (k0 := 17) rfl rfl (by omega) (by decide) ?_
      refine r_if rfl (fun h_3 => ?_) (fun h_3 => ?_)
      · replace h_3 : (r 17 k) = 0 := h_3
        refine r_ico (x := (nI 0)) rfl rfl ?_
        refine r_ibi (v := (nI (cntB (r 17) k + 0))) rfl (nI_add _ _) ?_
        refine r_ist (ls' := [some (zR (some q)), some (zI (nI 1)), some (zI (nI (cntB (r 17) k + 0))), some (zI (nI k))]) rfl (Nat.le_of_ble_eq_true rfl) rfl ?_
        refine r_inc (x' := (nI (k + 1))) (ls' := [some (zR (some q)), some (zI (nI 1)), some (zI (nI (cntB (r 17) k + 0))), some (zI (nI (k + 1)))]) rfl rfl (nI_1 _) rfl ?_
        refine r_go rfl ?_
        have h9 : cntB (r 17) (k + 1) = cntB (r 17) k + 0 := by rw [cntB, if_pos h_3]
        rw [h9] at ih
        exact ih (by omega)
      · replace h_3 : ¬ ((r 17 k) = 0) := h_3
        refine r_ico (x := (nI 1)) rfl rfl ?_
        refine r_go rfl ?_
        refine r_ibi (v := (nI (cntB (r 17) k + 1))) rfl (nI_add _ _) ?_
        refine r_ist (ls' := [some (zR (some q)), some (zI (nI 1)), some (zI (nI (cntB (r 17) k + 1))), some (zI (nI k))]) rfl (Nat.le_of_ble_eq_true rfl) rfl ?_
        refine r_inc (x' := (nI (k + 1))) (ls' := [some (zR (some q)), some (zI (nI 1)), some (zI (nI (cntB (r 17) k + 1))), some (zI (nI (k + 1)))]) rfl rfl (nI_1 _) rfl ?_
        refine r_go rfl ?_
        have h9 : cntB (r 17) (k + 1) = cntB (r 17) k + 1 := by rw [cntB, if_neg h_3]
        rw [h9] at ih
        exact ih (by omega)
set_option maxHeartbeats 1000000 in
theorem l_told2 {q : Nat} {qa : Nat → Nat} {d c n a v f : Nat} {b : Bool} {r : rA} {Q : rS → (Option zV ⊕ Nat) → Prop}   (hE : rEv q qa (d + 1) tb_148 Q 81 [some (zR (some q)), some (zI (nI 2)), some (zI (nI (cntB (r 20) 8))), some (zI (nI 8))] [] (0, n, a, b, v, f, r)) : ∀ k, k ≤ 8 → rEv q qa (d + 1) tb_148 Q 47 [some (zR (some q)), some (zI (nI 2)), some (zI (nI (cntB (r 20) k))), some (zI (nI k))] [] (0, n, a, b, v, f, r) := by
  refine dn 8 (fun k hk ih => ?_)
  refine r_ild rfl rfl ?_
  refine r_ico (x := (nI 8)) rfl rfl ?_
  refine r_cmpN (by omega) (by omega) rfl (fun h_1 => ?_) (fun h_1 => ?_)
  · replace h_1 : 8 ≤ k := h_1
    have h3 : k = 8 := by omega
    rw [h3]
    exact hE
  · replace h_1 := Nat.not_le.mp h_1
    refine r_ild rfl rfl ?_
    refine r_ico (x := (nI 2)) rfl rfl ?_
    refine r_cmpN (by omega) (by omega) rfl (fun h_2 => ?_) (fun h_2 => ?_)
    · replace h_2 : ¬ 2 = 2 := h_2
      omega
    · replace h_2 : 2 = 2 := Decidable.of_not_not h_2
      refine r_ild rfl rfl ?_
      refine r_ald rfl rfl ?_
      refine r_get rfl rfl ?_
      refine r_ild rfl rfl ?_
      refine r_ialdN (k0 := 20) rfl rfl (by omega) (by decide) ?_
      refine r_if rfl (fun h_3 => ?_) (fun h_3 => ?_)
      · replace h_3 : (r 20 k) = 0 := h_3
        refine r_ico (x := (nI 0)) rfl rfl ?_
        refine r_ibi (v := (nI (cntB (r 20) k + 0))) rfl (nI_add _ _) ?_
        refine r_ist (ls' := [some (zR (some q)), some (zI (nI 2)), some (zI (nI (cntB (r 20) k + 0))), some (zI (nI k))]) rfl (Nat.le_of_ble_eq_true rfl) rfl ?_
        refine r_inc (x' := (nI (k + 1))) (ls' := [some (zR (some q)), some (zI (nI 2)), some (zI (nI (cntB (r 20) k + 0))), some (zI (nI (k + 1)))]) rfl rfl (nI_1 _) rfl ?_
        refine r_go rfl ?_
        have h9 : cntB (r 20) (k + 1) = cntB (r 20) k + 0 := by rw [cntB, if_pos h_3]
        rw [h9] at ih
        exact ih (by omega)
      · replace h_3 : ¬ ((r 20 k) = 0) := h_3
        refine r_ico (x := (nI 1)) rfl rfl ?_
        refine r_go rfl ?_
        refine r_ibi (v := (nI (cntB (r 20) k + 1))) rfl (nI_add _ _) ?_
        refine r_ist (ls' := [some (zR (some q)), some (zI (nI 2)), some (zI (nI (cntB (r 20) k + 1))), some (zI (nI k))]) rfl (Nat.le_of_ble_eq_true rfl) rfl ?_
        refine r_inc (x' := (nI (k + 1))) (ls' := [some (zR (some q)), some (zI (nI 2)), some (zI (nI (cntB (r 20) k + 1))), some (zI (nI (k + 1)))]) rfl rfl (nI_1 _) rfl ?_
        refine r_go rfl ?_
        have h9 : cntB (r 20) (k + 1) = cntB (r 20) k + 1 := by rw [cntB, if_neg h_3]
        rw [h9] at ih
        exact ih (by omega)
set_option maxHeartbeats 1000000 in
theorem c_told0 {q : Nat} {qa : Nat → Nat} {d c n a v f : Nat} {b : Bool} {r : rA}  (hv : v ≤ 40) : rFun q qa (d + 2) 148 [zR (some q), zI (nI 0)] (c, n, a, b, v, f, r) (0, n, a, b, v, f, r) (some (zI (nI v))) := by
  refine rFun.of (d := d + 1) (T := tb_148) (L := [some (zR (some q)), some (zI (nI 0)), none, none]) (Nat.le_of_ble_eq_true rfl) rfl rfl ?_
  refine r_ald rfl rfl ?_
  refine r_ico (x := (nI 0)) rfl rfl ?_
  refine r_put (s' := (0, n, a, b, v, f, r)) rfl (Nat.le_of_ble_eq_true rfl) ⟨_, rfl⟩ rfl rfl ?_
  refine r_ico (x := (nI 0)) rfl rfl ?_
  refine r_ist (ls' := [some (zR (some q)), some (zI (nI 0)), some (zI (nI 0)), none]) rfl (Nat.le_of_ble_eq_true rfl) rfl ?_
  refine r_ico (x := (nI 0)) rfl rfl ?_
  refine r_ist (ls' := [some (zR (some q)), some (zI (nI 0)), some (zI (nI 0)), some (zI (nI 0))]) rfl (Nat.le_of_ble_eq_true rfl) rfl ?_
  refine r_ild rfl rfl ?_
  refine r_ald rfl rfl ?_
  refine r_get rfl rfl ?_
  refine r_cmpN (by omega) (by omega) rfl (fun h_1 => ?_) (fun h_1 => ?_)
  · replace h_1 : v ≤ 0 := h_1
    refine r_ico (x := (nI 0)) rfl rfl ?_
    refine r_ist (ls' := [some (zR (some q)), some (zI (nI 0)), some (zI (nI 0)), some (zI (nI 0))]) rfl (Nat.le_of_ble_eq_true rfl) rfl ?_
    refine r_ild rfl rfl ?_
    refine r_ico (x := (nI 8)) rfl rfl ?_
    refine r_cmpN (by omega) (by omega) rfl (fun h_2 => ?_) (fun h_2 => ?_)
    · replace h_2 : 8 ≤ 0 := h_2
      omega
    · replace h_2 := Nat.not_le.mp h_2
      refine r_ild rfl rfl ?_
      refine r_ico (x := (nI 2)) rfl rfl ?_
      refine r_cmpN (by omega) (by omega) rfl (fun h_3 => ?_) (fun h_3 => ?_)
      · replace h_3 : ¬ 0 = 2 := h_3
        refine r_ild rfl rfl ?_
        refine r_ifN (by omega) rfl (fun h_4 => ?_) (fun h_4 => ?_)
        · replace h_4 : ¬ 0 = 0 := h_4
          omega
        · replace h_4 : 0 = 0 := Decidable.of_not_not h_4
          refine r_ald rfl rfl ?_
          refine r_get rfl rfl ?_
          refine r_go rfl ?_
          refine r_ret rfl ⟨_, rfl⟩ ?_
          exact ⟨rfl, rfl⟩
      · replace h_3 : 0 = 2 := Decidable.of_not_not h_3
        omega
  · replace h_1 := Nat.not_le.mp h_1
    refine r_ild rfl rfl ?_
    refine r_ico (x := (nI 1)) rfl rfl ?_
    refine r_cmpN (by omega) (by omega) rfl (fun h_5 => ?_) (fun h_5 => ?_)
    · replace h_5 : ¬ 0 = 1 := h_5
      refine r_ico (x := (nI 0)) rfl rfl ?_
      refine r_ist (ls' := [some (zR (some q)), some (zI (nI 0)), some (zI (nI 0)), some (zI (nI 0))]) rfl (Nat.le_of_ble_eq_true rfl) rfl ?_
      refine r_ild rfl rfl ?_
      refine r_ico (x := (nI 8)) rfl rfl ?_
      refine r_cmpN (by omega) (by omega) rfl (fun h_6 => ?_) (fun h_6 => ?_)
      · replace h_6 : 8 ≤ 0 := h_6
        omega
      · replace h_6 := Nat.not_le.mp h_6
        refine r_ild rfl rfl ?_
        refine r_ico (x := (nI 2)) rfl rfl ?_
        refine r_cmpN (by omega) (by omega) rfl (fun h_7 => ?_) (fun h_7 => ?_)
        · replace h_7 : ¬ 0 = 2 := h_7
          refine r_ild rfl rfl ?_
          refine r_ifN (by omega) rfl (fun h_8 => ?_) (fun h_8 => ?_)
          · replace h_8 : ¬ 0 = 0 := h_8
            omega
          · replace h_8 : 0 = 0 := Decidable.of_not_not h_8
            refine r_ald rfl rfl ?_
            refine r_get rfl rfl ?_
            refine r_go rfl ?_
            refine r_ret rfl ⟨_, rfl⟩ ?_
            exact ⟨rfl, rfl⟩
        · replace h_7 : 0 = 2 := Decidable.of_not_not h_7
          omega
    · replace h_5 : 0 = 1 := Decidable.of_not_not h_5
      omega
set_option maxHeartbeats 1000000 in
theorem c_told1 {q : Nat} {qa : Nat → Nat} {d c n a v f : Nat} {b : Bool} {r : rA}  (hv : v ≤ 40) : rFun q qa (d + 2) 148 [zR (some q), zI (nI 1)] (c, n, a, b, v, f, r) (0, n, a, b, v, f, r) (some (zI (nI (cntB (r 17) v)))) := by
  refine rFun.of (d := d + 1) (T := tb_148) (L := [some (zR (some q)), some (zI (nI 1)), none, none]) (Nat.le_of_ble_eq_true rfl) rfl rfl ?_
  refine r_ald rfl rfl ?_
  refine r_ico (x := (nI 0)) rfl rfl ?_
  refine r_put (s' := (0, n, a, b, v, f, r)) rfl (Nat.le_of_ble_eq_true rfl) ⟨_, rfl⟩ rfl rfl ?_
  refine r_ico (x := (nI 0)) rfl rfl ?_
  refine r_ist (ls' := [some (zR (some q)), some (zI (nI 1)), some (zI (nI 0)), none]) rfl (Nat.le_of_ble_eq_true rfl) rfl ?_
  refine r_ico (x := (nI 0)) rfl rfl ?_
  refine r_ist (ls' := [some (zR (some q)), some (zI (nI 1)), some (zI (nI 0)), some (zI (nI 0))]) rfl (Nat.le_of_ble_eq_true rfl) rfl ?_
  refine l_told1 (c := c) hv ?_ 0 (by omega)
  refine r_ico (x := (nI 0)) rfl rfl ?_
  refine r_ist (ls' := [some (zR (some q)), some (zI (nI 1)), some (zI (nI (cntB (r 17) v))), some (zI (nI 0))]) rfl (Nat.le_of_ble_eq_true rfl) rfl ?_
  refine r_ild rfl rfl ?_
  refine r_ico (x := (nI 8)) rfl rfl ?_
  refine r_cmpN (by omega) (by omega) rfl (fun h_1 => ?_) (fun h_1 => ?_)
  · replace h_1 : 8 ≤ 0 := h_1
    omega
  · replace h_1 := Nat.not_le.mp h_1
    refine r_ild rfl rfl ?_
    refine r_ico (x := (nI 2)) rfl rfl ?_
    refine r_cmpN (by omega) (by omega) rfl (fun h_2 => ?_) (fun h_2 => ?_)
    · replace h_2 : ¬ 1 = 2 := h_2
      refine r_ild rfl rfl ?_
      refine r_ifN (by omega) rfl (fun h_3 => ?_) (fun h_3 => ?_)
      · replace h_3 : ¬ 1 = 0 := h_3
        refine r_ild rfl rfl ?_
        refine r_ico (x := (nI 1)) rfl rfl ?_
        refine r_cmpN (by omega) (by omega) rfl (fun h_4 => ?_) (fun h_4 => ?_)
        · replace h_4 : 1 = 1 := h_4
          refine r_ild rfl rfl ?_
          refine r_go rfl ?_
          refine r_ret rfl ⟨_, rfl⟩ ?_
          exact ⟨rfl, rfl⟩
        · replace h_4 : ¬ (1 = 1) := h_4
          omega
      · replace h_3 : 1 = 0 := Decidable.of_not_not h_3
        omega
    · replace h_2 : 1 = 2 := Decidable.of_not_not h_2
      omega
set_option maxHeartbeats 1000000 in
theorem c_told2 {q : Nat} {qa : Nat → Nat} {d c n a v f : Nat} {b : Bool} {r : rA}  (hv : v ≤ 40) : rFun q qa (d + 2) 148 [zR (some q), zI (nI 2)] (c, n, a, b, v, f, r) (0, n, a, b, v, f, r) (some (zI (nI (cntB (r 20) 8)))) := by
  refine rFun.of (d := d + 1) (T := tb_148) (L := [some (zR (some q)), some (zI (nI 2)), none, none]) (Nat.le_of_ble_eq_true rfl) rfl rfl ?_
  refine r_ald rfl rfl ?_
  refine r_ico (x := (nI 0)) rfl rfl ?_
  refine r_put (s' := (0, n, a, b, v, f, r)) rfl (Nat.le_of_ble_eq_true rfl) ⟨_, rfl⟩ rfl rfl ?_
  refine r_ico (x := (nI 0)) rfl rfl ?_
  refine r_ist (ls' := [some (zR (some q)), some (zI (nI 2)), some (zI (nI 0)), none]) rfl (Nat.le_of_ble_eq_true rfl) rfl ?_
  refine r_ico (x := (nI 0)) rfl rfl ?_
  refine r_ist (ls' := [some (zR (some q)), some (zI (nI 2)), some (zI (nI 0)), some (zI (nI 0))]) rfl (Nat.le_of_ble_eq_true rfl) rfl ?_
  refine r_ild rfl rfl ?_
  refine r_ald rfl rfl ?_
  refine r_get rfl rfl ?_
  refine r_cmpN (by omega) (by omega) rfl (fun h_1 => ?_) (fun h_1 => ?_)
  · replace h_1 : v ≤ 0 := h_1
    refine r_ico (x := (nI 0)) rfl rfl ?_
    refine r_ist (ls' := [some (zR (some q)), some (zI (nI 2)), some (zI (nI 0)), some (zI (nI 0))]) rfl (Nat.le_of_ble_eq_true rfl) rfl ?_
    refine l_told2 (c := c) ?_ 0 (by omega)
    refine r_ild rfl rfl ?_
    refine r_ifN (by omega) rfl (fun h_2 => ?_) (fun h_2 => ?_)
    · replace h_2 : ¬ 2 = 0 := h_2
      refine r_ild rfl rfl ?_
      refine r_ico (x := (nI 1)) rfl rfl ?_
      refine r_cmpN (by omega) (by omega) rfl (fun h_3 => ?_) (fun h_3 => ?_)
      · replace h_3 : 2 = 1 := h_3
        omega
      · replace h_3 : ¬ (2 = 1) := h_3
        refine r_ild rfl rfl ?_
        refine r_ico (x := (nI 2)) rfl rfl ?_
        refine r_cmpN (by omega) (by omega) rfl (fun h_4 => ?_) (fun h_4 => ?_)
        · replace h_4 : ¬ 2 = 2 := h_4
          omega
        · replace h_4 : 2 = 2 := Decidable.of_not_not h_4
          refine r_ild rfl rfl ?_
          refine r_go rfl ?_
          refine r_ret rfl ⟨_, rfl⟩ ?_
          exact ⟨rfl, rfl⟩
    · replace h_2 : 2 = 0 := Decidable.of_not_not h_2
      omega
  · replace h_1 := Nat.not_le.mp h_1
    refine r_ild rfl rfl ?_
    refine r_ico (x := (nI 1)) rfl rfl ?_
    refine r_cmpN (by omega) (by omega) rfl (fun h_5 => ?_) (fun h_5 => ?_)
    · replace h_5 : ¬ 2 = 1 := h_5
      refine r_ico (x := (nI 0)) rfl rfl ?_
      refine r_ist (ls' := [some (zR (some q)), some (zI (nI 2)), some (zI (nI 0)), some (zI (nI 0))]) rfl (Nat.le_of_ble_eq_true rfl) rfl ?_
      refine l_told2 (c := c) ?_ 0 (by omega)
      refine r_ild rfl rfl ?_
      refine r_ifN (by omega) rfl (fun h_6 => ?_) (fun h_6 => ?_)
      · replace h_6 : ¬ 2 = 0 := h_6
        refine r_ild rfl rfl ?_
        refine r_ico (x := (nI 1)) rfl rfl ?_
        refine r_cmpN (by omega) (by omega) rfl (fun h_7 => ?_) (fun h_7 => ?_)
        · replace h_7 : 2 = 1 := h_7
          omega
        · replace h_7 : ¬ (2 = 1) := h_7
          refine r_ild rfl rfl ?_
          refine r_ico (x := (nI 2)) rfl rfl ?_
          refine r_cmpN (by omega) (by omega) rfl (fun h_8 => ?_) (fun h_8 => ?_)
          · replace h_8 : ¬ 2 = 2 := h_8
            omega
          · replace h_8 : 2 = 2 := Decidable.of_not_not h_8
            refine r_ild rfl rfl ?_
            refine r_go rfl ?_
            refine r_ret rfl ⟨_, rfl⟩ ?_
            exact ⟨rfl, rfl⟩
      · replace h_6 : 2 = 0 := Decidable.of_not_not h_6
        omega
    · replace h_5 : 2 = 1 := Decidable.of_not_not h_5
      omega
set_option maxHeartbeats 1000000 in
theorem c_told3 {q : Nat} {qa : Nat → Nat} {d c n a v f : Nat} {b : Bool} {r : rA}  (hv : v ≤ 40) : rFun q qa (d + 2) 148 [zR (some q), zI (nI 3)] (c, n, a, b, v, f, r) (0, n, a, b, v, f, r) (some (zI (nI (cntF (r 21) 8)))) := by
  refine rFun.of (d := d + 1) (T := tb_148) (L := [some (zR (some q)), some (zI (nI 3)), none, none]) (Nat.le_of_ble_eq_true rfl) rfl rfl ?_
  refine r_ald rfl rfl ?_
  refine r_ico (x := (nI 0)) rfl rfl ?_
  refine r_put (s' := (0, n, a, b, v, f, r)) rfl (Nat.le_of_ble_eq_true rfl) ⟨_, rfl⟩ rfl rfl ?_
  refine r_ico (x := (nI 0)) rfl rfl ?_
  refine r_ist (ls' := [some (zR (some q)), some (zI (nI 3)), some (zI (nI 0)), none]) rfl (Nat.le_of_ble_eq_true rfl) rfl ?_
  refine r_ico (x := (nI 0)) rfl rfl ?_
  refine r_ist (ls' := [some (zR (some q)), some (zI (nI 3)), some (zI (nI 0)), some (zI (nI 0))]) rfl (Nat.le_of_ble_eq_true rfl) rfl ?_
  refine r_ild rfl rfl ?_
  refine r_ald rfl rfl ?_
  refine r_get rfl rfl ?_
  refine r_cmpN (by omega) (by omega) rfl (fun h_1 => ?_) (fun h_1 => ?_)
  · replace h_1 : v ≤ 0 := h_1
    refine r_ico (x := (nI 0)) rfl rfl ?_
    refine r_ist (ls' := [some (zR (some q)), some (zI (nI 3)), some (zI (nI 0)), some (zI (nI 0))]) rfl (Nat.le_of_ble_eq_true rfl) rfl ?_
    refine r_ild rfl rfl ?_
    refine r_ico (x := (nI 8)) rfl rfl ?_
    refine r_cmpN (by omega) (by omega) rfl (fun h_2 => ?_) (fun h_2 => ?_)
    · replace h_2 : 8 ≤ 0 := h_2
      omega
    · replace h_2 := Nat.not_le.mp h_2
      refine r_ild rfl rfl ?_
      refine r_ico (x := (nI 2)) rfl rfl ?_
      refine r_cmpN (by omega) (by omega) rfl (fun h_3 => ?_) (fun h_3 => ?_)
      · replace h_3 : ¬ 3 = 2 := h_3
        refine r_ild rfl rfl ?_
        refine r_ifN (by omega) rfl (fun h_4 => ?_) (fun h_4 => ?_)
        · replace h_4 : ¬ 3 = 0 := h_4
          refine r_ild rfl rfl ?_
          refine r_ico (x := (nI 1)) rfl rfl ?_
          refine r_cmpN (by omega) (by omega) rfl (fun h_5 => ?_) (fun h_5 => ?_)
          · replace h_5 : 3 = 1 := h_5
            omega
          · replace h_5 : ¬ (3 = 1) := h_5
            refine r_ild rfl rfl ?_
            refine r_ico (x := (nI 2)) rfl rfl ?_
            refine r_cmpN (by omega) (by omega) rfl (fun h_6 => ?_) (fun h_6 => ?_)
            · replace h_6 : ¬ 3 = 2 := h_6
              refine r_ild rfl rfl ?_
              refine r_ico (x := (nI 3)) rfl rfl ?_
              refine r_cmpN (by omega) (by omega) rfl (fun h_7 => ?_) (fun h_7 => ?_)
              · replace h_7 : ¬ 3 = 3 := h_7
                omega
              · replace h_7 : 3 = 3 := Decidable.of_not_not h_7
                refine r_ald rfl rfl ?_
                refine r_call (as := [zR (some q)]) (r := []) (s' := (0, n, a, b, v, f, r)) (v := some (zI (nI (cntF (r 21) 8)))) rfl rfl rfl (Nat.le_of_ble_eq_true rfl) (Or.inr ⟨rfl, rfl, _, rfl⟩) c_pins ?_
                refine r_go rfl ?_
                refine r_ret rfl ⟨_, rfl⟩ ?_
                exact ⟨rfl, rfl⟩
            · replace h_6 : 3 = 2 := Decidable.of_not_not h_6
              omega
        · replace h_4 : 3 = 0 := Decidable.of_not_not h_4
          omega
      · replace h_3 : 3 = 2 := Decidable.of_not_not h_3
        omega
  · replace h_1 := Nat.not_le.mp h_1
    refine r_ild rfl rfl ?_
    refine r_ico (x := (nI 1)) rfl rfl ?_
    refine r_cmpN (by omega) (by omega) rfl (fun h_8 => ?_) (fun h_8 => ?_)
    · replace h_8 : ¬ 3 = 1 := h_8
      refine r_ico (x := (nI 0)) rfl rfl ?_
      refine r_ist (ls' := [some (zR (some q)), some (zI (nI 3)), some (zI (nI 0)), some (zI (nI 0))]) rfl (Nat.le_of_ble_eq_true rfl) rfl ?_
      refine r_ild rfl rfl ?_
      refine r_ico (x := (nI 8)) rfl rfl ?_
      refine r_cmpN (by omega) (by omega) rfl (fun h_9 => ?_) (fun h_9 => ?_)
      · replace h_9 : 8 ≤ 0 := h_9
        omega
      · replace h_9 := Nat.not_le.mp h_9
        refine r_ild rfl rfl ?_
        refine r_ico (x := (nI 2)) rfl rfl ?_
        refine r_cmpN (by omega) (by omega) rfl (fun h_10 => ?_) (fun h_10 => ?_)
        · replace h_10 : ¬ 3 = 2 := h_10
          refine r_ild rfl rfl ?_
          refine r_ifN (by omega) rfl (fun h_11 => ?_) (fun h_11 => ?_)
          · replace h_11 : ¬ 3 = 0 := h_11
            refine r_ild rfl rfl ?_
            refine r_ico (x := (nI 1)) rfl rfl ?_
            refine r_cmpN (by omega) (by omega) rfl (fun h_12 => ?_) (fun h_12 => ?_)
            · replace h_12 : 3 = 1 := h_12
              omega
            · replace h_12 : ¬ (3 = 1) := h_12
              refine r_ild rfl rfl ?_
              refine r_ico (x := (nI 2)) rfl rfl ?_
              refine r_cmpN (by omega) (by omega) rfl (fun h_13 => ?_) (fun h_13 => ?_)
              · replace h_13 : ¬ 3 = 2 := h_13
                refine r_ild rfl rfl ?_
                refine r_ico (x := (nI 3)) rfl rfl ?_
                refine r_cmpN (by omega) (by omega) rfl (fun h_14 => ?_) (fun h_14 => ?_)
                · replace h_14 : ¬ 3 = 3 := h_14
                  omega
                · replace h_14 : 3 = 3 := Decidable.of_not_not h_14
                  refine r_ald rfl rfl ?_
                  refine r_call (as := [zR (some q)]) (r := []) (s' := (0, n, a, b, v, f, r)) (v := some (zI (nI (cntF (r 21) 8)))) rfl rfl rfl (Nat.le_of_ble_eq_true rfl) (Or.inr ⟨rfl, rfl, _, rfl⟩) c_pins ?_
                  refine r_go rfl ?_
                  refine r_ret rfl ⟨_, rfl⟩ ?_
                  exact ⟨rfl, rfl⟩
              · replace h_13 : 3 = 2 := Decidable.of_not_not h_13
                omega
          · replace h_11 : 3 = 0 := Decidable.of_not_not h_11
            omega
        · replace h_10 : 3 = 2 := Decidable.of_not_not h_10
          omega
    · replace h_8 : 3 = 1 := Decidable.of_not_not h_8
      omega
set_option maxHeartbeats 1000000 in
theorem c_told4 {q : Nat} {qa : Nat → Nat} {d c n a v f : Nat} {b : Bool} {r : rA}  (hv : v ≤ 40) : rFun q qa (d + 2) 148 [zR (some q), zI (nI 4)] (c, n, a, b, v, f, r) (0, n, a, b, v, f, r) (some (zI (nI n))) := by
  refine rFun.of (d := d + 1) (T := tb_148) (L := [some (zR (some q)), some (zI (nI 4)), none, none]) (Nat.le_of_ble_eq_true rfl) rfl rfl ?_
  refine r_ald rfl rfl ?_
  refine r_ico (x := (nI 0)) rfl rfl ?_
  refine r_put (s' := (0, n, a, b, v, f, r)) rfl (Nat.le_of_ble_eq_true rfl) ⟨_, rfl⟩ rfl rfl ?_
  refine r_ico (x := (nI 0)) rfl rfl ?_
  refine r_ist (ls' := [some (zR (some q)), some (zI (nI 4)), some (zI (nI 0)), none]) rfl (Nat.le_of_ble_eq_true rfl) rfl ?_
  refine r_ico (x := (nI 0)) rfl rfl ?_
  refine r_ist (ls' := [some (zR (some q)), some (zI (nI 4)), some (zI (nI 0)), some (zI (nI 0))]) rfl (Nat.le_of_ble_eq_true rfl) rfl ?_
  refine r_ild rfl rfl ?_
  refine r_ald rfl rfl ?_
  refine r_get rfl rfl ?_
  refine r_cmpN (by omega) (by omega) rfl (fun h_1 => ?_) (fun h_1 => ?_)
  · replace h_1 : v ≤ 0 := h_1
    refine r_ico (x := (nI 0)) rfl rfl ?_
    refine r_ist (ls' := [some (zR (some q)), some (zI (nI 4)), some (zI (nI 0)), some (zI (nI 0))]) rfl (Nat.le_of_ble_eq_true rfl) rfl ?_
    refine r_ild rfl rfl ?_
    refine r_ico (x := (nI 8)) rfl rfl ?_
    refine r_cmpN (by omega) (by omega) rfl (fun h_2 => ?_) (fun h_2 => ?_)
    · replace h_2 : 8 ≤ 0 := h_2
      omega
    · replace h_2 := Nat.not_le.mp h_2
      refine r_ild rfl rfl ?_
      refine r_ico (x := (nI 2)) rfl rfl ?_
      refine r_cmpN (by omega) (by omega) rfl (fun h_3 => ?_) (fun h_3 => ?_)
      · replace h_3 : ¬ 4 = 2 := h_3
        refine r_ild rfl rfl ?_
        refine r_ifN (by omega) rfl (fun h_4 => ?_) (fun h_4 => ?_)
        · replace h_4 : ¬ 4 = 0 := h_4
          refine r_ild rfl rfl ?_
          refine r_ico (x := (nI 1)) rfl rfl ?_
          refine r_cmpN (by omega) (by omega) rfl (fun h_5 => ?_) (fun h_5 => ?_)
          · replace h_5 : 4 = 1 := h_5
            omega
          · replace h_5 : ¬ (4 = 1) := h_5
            refine r_ild rfl rfl ?_
            refine r_ico (x := (nI 2)) rfl rfl ?_
            refine r_cmpN (by omega) (by omega) rfl (fun h_6 => ?_) (fun h_6 => ?_)
            · replace h_6 : ¬ 4 = 2 := h_6
              refine r_ild rfl rfl ?_
              refine r_ico (x := (nI 3)) rfl rfl ?_
              refine r_cmpN (by omega) (by omega) rfl (fun h_7 => ?_) (fun h_7 => ?_)
              · replace h_7 : ¬ 4 = 3 := h_7
                refine r_ild rfl rfl ?_
                refine r_ico (x := (nI 4)) rfl rfl ?_
                refine r_cmpN (by omega) (by omega) rfl (fun h_8 => ?_) (fun h_8 => ?_)
                · replace h_8 : ¬ 4 = 4 := h_8
                  omega
                · replace h_8 : 4 = 4 := Decidable.of_not_not h_8
                  refine r_ald rfl rfl ?_
                  refine r_get rfl rfl ?_
                  refine r_go rfl ?_
                  refine r_ret rfl ⟨_, rfl⟩ ?_
                  exact ⟨rfl, rfl⟩
              · replace h_7 : 4 = 3 := Decidable.of_not_not h_7
                omega
            · replace h_6 : 4 = 2 := Decidable.of_not_not h_6
              omega
        · replace h_4 : 4 = 0 := Decidable.of_not_not h_4
          omega
      · replace h_3 : 4 = 2 := Decidable.of_not_not h_3
        omega
  · replace h_1 := Nat.not_le.mp h_1
    refine r_ild rfl rfl ?_
    refine r_ico (x := (nI 1)) rfl rfl ?_
    refine r_cmpN (by omega) (by omega) rfl (fun h_9 => ?_) (fun h_9 => ?_)
    · replace h_9 : ¬ 4 = 1 := h_9
      refine r_ico (x := (nI 0)) rfl rfl ?_
      refine r_ist (ls' := [some (zR (some q)), some (zI (nI 4)), some (zI (nI 0)), some (zI (nI 0))]) rfl (Nat.le_of_ble_eq_true rfl) rfl ?_
      refine r_ild rfl rfl ?_
      refine r_ico (x := (nI 8)) rfl rfl ?_
      refine r_cmpN (by omega) (by omega) rfl (fun h_10 => ?_) (fun h_10 => ?_)
      · replace h_10 : 8 ≤ 0 := h_10
        omega
      · replace h_10 := Nat.not_le.mp h_10
        refine r_ild rfl rfl ?_
        refine r_ico (x := (nI 2)) rfl rfl ?_
        refine r_cmpN (by omega) (by omega) rfl (fun h_11 => ?_) (fun h_11 => ?_)
        · replace h_11 : ¬ 4 = 2 := h_11
          refine r_ild rfl rfl ?_
          refine r_ifN (by omega) rfl (fun h_12 => ?_) (fun h_12 => ?_)
          · replace h_12 : ¬ 4 = 0 := h_12
            refine r_ild rfl rfl ?_
            refine r_ico (x := (nI 1)) rfl rfl ?_
            refine r_cmpN (by omega) (by omega) rfl (fun h_13 => ?_) (fun h_13 => ?_)
            · replace h_13 : 4 = 1 := h_13
              omega
            · replace h_13 : ¬ (4 = 1) := h_13
              refine r_ild rfl rfl ?_
              refine r_ico (x := (nI 2)) rfl rfl ?_
              refine r_cmpN (by omega) (by omega) rfl (fun h_14 => ?_) (fun h_14 => ?_)
              · replace h_14 : ¬ 4 = 2 := h_14
                refine r_ild rfl rfl ?_
                refine r_ico (x := (nI 3)) rfl rfl ?_
                refine r_cmpN (by omega) (by omega) rfl (fun h_15 => ?_) (fun h_15 => ?_)
                · replace h_15 : ¬ 4 = 3 := h_15
                  refine r_ild rfl rfl ?_
                  refine r_ico (x := (nI 4)) rfl rfl ?_
                  refine r_cmpN (by omega) (by omega) rfl (fun h_16 => ?_) (fun h_16 => ?_)
                  · replace h_16 : ¬ 4 = 4 := h_16
                    omega
                  · replace h_16 : 4 = 4 := Decidable.of_not_not h_16
                    refine r_ald rfl rfl ?_
                    refine r_get rfl rfl ?_
                    refine r_go rfl ?_
                    refine r_ret rfl ⟨_, rfl⟩ ?_
                    exact ⟨rfl, rfl⟩
                · replace h_15 : 4 = 3 := Decidable.of_not_not h_15
                  omega
              · replace h_14 : 4 = 2 := Decidable.of_not_not h_14
                omega
          · replace h_12 : 4 = 0 := Decidable.of_not_not h_12
            omega
        · replace h_11 : 4 = 2 := Decidable.of_not_not h_11
          omega
    · replace h_9 : 4 = 1 := Decidable.of_not_not h_9
      omega
set_option maxHeartbeats 1000000 in
theorem c_toldX {q : Nat} {qa : Nat → Nat} {d c n a v f : Nat} {b : Bool} {r : rA} {x : Int32} (hv : v ≤ 40) (h0 : ¬ x = nI 0) (h1 : ¬ x = nI 1) (h2 : ¬ x = nI 2) (h3 : ¬ x = nI 3) (h4 : ¬ x = nI 4) : rFun q qa (d + 2) 148 [zR (some q), zI (x)] (c, n, a, b, v, f, r) (0, n, a, b, v, f, r) (some (zI (-1))) := by
  refine rFun.of (d := d + 1) (T := tb_148) (L := [some (zR (some q)), some (zI (x)), none, none]) (Nat.le_of_ble_eq_true rfl) rfl rfl ?_
  refine r_ald rfl rfl ?_
  refine r_ico (x := (nI 0)) rfl rfl ?_
  refine r_put (s' := (0, n, a, b, v, f, r)) rfl (Nat.le_of_ble_eq_true rfl) ⟨_, rfl⟩ rfl rfl ?_
  refine r_ico (x := (nI 0)) rfl rfl ?_
  refine r_ist (ls' := [some (zR (some q)), some (zI (x)), some (zI (nI 0)), none]) rfl (Nat.le_of_ble_eq_true rfl) rfl ?_
  refine r_ico (x := (nI 0)) rfl rfl ?_
  refine r_ist (ls' := [some (zR (some q)), some (zI (x)), some (zI (nI 0)), some (zI (nI 0))]) rfl (Nat.le_of_ble_eq_true rfl) rfl ?_
  refine r_ild rfl rfl ?_
  refine r_ald rfl rfl ?_
  refine r_get rfl rfl ?_
  refine r_cmpN (by omega) (by omega) rfl (fun h_1 => ?_) (fun h_1 => ?_)
  · replace h_1 : v ≤ 0 := h_1
    refine r_ico (x := (nI 0)) rfl rfl ?_
    refine r_ist (ls' := [some (zR (some q)), some (zI (x)), some (zI (nI 0)), some (zI (nI 0))]) rfl (Nat.le_of_ble_eq_true rfl) rfl ?_
    refine r_ild rfl rfl ?_
    refine r_ico (x := (nI 8)) rfl rfl ?_
    refine r_cmpN (by omega) (by omega) rfl (fun h_2 => ?_) (fun h_2 => ?_)
    · replace h_2 : 8 ≤ 0 := h_2
      omega
    · replace h_2 := Nat.not_le.mp h_2
      refine r_ild rfl rfl ?_
      refine r_ico (x := (nI 2)) rfl rfl ?_
      refine r_cmp rfl (fun h_3 => ?_) (fun h_3 => ?_)
      · replace h_3 : ¬ (x) = (nI 2) := h_3
        refine r_ild rfl rfl ?_
        refine r_if rfl (fun h_4 => ?_) (fun h_4 => ?_)
        · replace h_4 : ¬ (x) = 0 := h_4
          refine r_ild rfl rfl ?_
          refine r_ico (x := (nI 1)) rfl rfl ?_
          refine r_cmp rfl (fun h_5 => ?_) (fun h_5 => ?_)
          · replace h_5 : (x) = (nI 1) := h_5
            exact absurd h_5 h1
          · replace h_5 : ¬ ((x) = (nI 1)) := h_5
            refine r_ild rfl rfl ?_
            refine r_ico (x := (nI 2)) rfl rfl ?_
            refine r_cmp rfl (fun h_6 => ?_) (fun h_6 => ?_)
            · replace h_6 : ¬ (x) = (nI 2) := h_6
              refine r_ild rfl rfl ?_
              refine r_ico (x := (nI 3)) rfl rfl ?_
              refine r_cmp rfl (fun h_7 => ?_) (fun h_7 => ?_)
              · replace h_7 : ¬ (x) = (nI 3) := h_7
                refine r_ild rfl rfl ?_
                refine r_ico (x := (nI 4)) rfl rfl ?_
                refine r_cmp rfl (fun h_8 => ?_) (fun h_8 => ?_)
                · replace h_8 : ¬ (x) = (nI 4) := h_8
                  refine r_ico (x := (-1)) rfl rfl ?_
                  refine r_ret rfl ⟨_, rfl⟩ ?_
                  exact ⟨rfl, rfl⟩
                · replace h_8 : (x) = (nI 4) := Decidable.of_not_not h_8
                  exact absurd h_8 h4
              · replace h_7 : (x) = (nI 3) := Decidable.of_not_not h_7
                exact absurd h_7 h3
            · replace h_6 : (x) = (nI 2) := Decidable.of_not_not h_6
              exact absurd h_6 h_3
        · replace h_4 : (x) = 0 := Decidable.of_not_not h_4
          exact absurd h_4 h0
      · replace h_3 : (x) = (nI 2) := Decidable.of_not_not h_3
        exact absurd h_3 h2
  · replace h_1 := Nat.not_le.mp h_1
    refine r_ild rfl rfl ?_
    refine r_ico (x := (nI 1)) rfl rfl ?_
    refine r_cmp rfl (fun h_9 => ?_) (fun h_9 => ?_)
    · replace h_9 : ¬ (x) = (nI 1) := h_9
      refine r_ico (x := (nI 0)) rfl rfl ?_
      refine r_ist (ls' := [some (zR (some q)), some (zI (x)), some (zI (nI 0)), some (zI (nI 0))]) rfl (Nat.le_of_ble_eq_true rfl) rfl ?_
      refine r_ild rfl rfl ?_
      refine r_ico (x := (nI 8)) rfl rfl ?_
      refine r_cmpN (by omega) (by omega) rfl (fun h_10 => ?_) (fun h_10 => ?_)
      · replace h_10 : 8 ≤ 0 := h_10
        omega
      · replace h_10 := Nat.not_le.mp h_10
        refine r_ild rfl rfl ?_
        refine r_ico (x := (nI 2)) rfl rfl ?_
        refine r_cmp rfl (fun h_11 => ?_) (fun h_11 => ?_)
        · replace h_11 : ¬ (x) = (nI 2) := h_11
          refine r_ild rfl rfl ?_
          refine r_if rfl (fun h_12 => ?_) (fun h_12 => ?_)
          · replace h_12 : ¬ (x) = 0 := h_12
            refine r_ild rfl rfl ?_
            refine r_ico (x := (nI 1)) rfl rfl ?_
            refine r_cmp rfl (fun h_13 => ?_) (fun h_13 => ?_)
            · replace h_13 : (x) = (nI 1) := h_13
              exact absurd h_13 h_9
            · replace h_13 : ¬ ((x) = (nI 1)) := h_13
              refine r_ild rfl rfl ?_
              refine r_ico (x := (nI 2)) rfl rfl ?_
              refine r_cmp rfl (fun h_14 => ?_) (fun h_14 => ?_)
              · replace h_14 : ¬ (x) = (nI 2) := h_14
                refine r_ild rfl rfl ?_
                refine r_ico (x := (nI 3)) rfl rfl ?_
                refine r_cmp rfl (fun h_15 => ?_) (fun h_15 => ?_)
                · replace h_15 : ¬ (x) = (nI 3) := h_15
                  refine r_ild rfl rfl ?_
                  refine r_ico (x := (nI 4)) rfl rfl ?_
                  refine r_cmp rfl (fun h_16 => ?_) (fun h_16 => ?_)
                  · replace h_16 : ¬ (x) = (nI 4) := h_16
                    refine r_ico (x := (-1)) rfl rfl ?_
                    refine r_ret rfl ⟨_, rfl⟩ ?_
                    exact ⟨rfl, rfl⟩
                  · replace h_16 : (x) = (nI 4) := Decidable.of_not_not h_16
                    exact absurd h_16 h4
                · replace h_15 : (x) = (nI 3) := Decidable.of_not_not h_15
                  exact absurd h_15 h3
              · replace h_14 : (x) = (nI 2) := Decidable.of_not_not h_14
                exact absurd h_14 h_11
          · replace h_12 : (x) = 0 := Decidable.of_not_not h_12
            exact absurd h_12 h0
        · replace h_11 : (x) = (nI 2) := Decidable.of_not_not h_11
          exact absurd h_11 h2
    · replace h_9 : (x) = (nI 1) := Decidable.of_not_not h_9
      exact absurd h_9 h1
set_option maxHeartbeats 1000000 in
theorem c_feed1 {q : Nat} {qa : Nat → Nat} {d c n a v f : Nat} {b : Bool} {r : rA} {x : Int64} {y : Int32} (hx : isIn y (nI 1) (nI 8) = false) : rFun q qa (d + 2) 99 [zR (some q), zJ (x), zI (y)] (c, n, a, b, v, f, r) (1, n, a, b, v, f, r) (some (zI (nI 0))) := by
  refine rFun.of (d := d + 1) (T := tb_99) (L := [some (zR (some q)), some (zJ (x)), none, some (zI (y)), none]) (Nat.le_of_ble_eq_true rfl) rfl rfl ?_
  refine r_ald rfl rfl ?_
  refine r_ild rfl rfl ?_
  refine r_ico (x := (nI 1)) rfl rfl ?_
  refine r_ico (x := (nI 8)) rfl rfl ?_
  refine r_call (as := [zI (y), zI (nI 1), zI (nI 8)]) (r := [zR (some q)]) (s' := (c, n, a, b, v, f, r)) (v := some (zI (bI (false)))) rfl rfl rfl (Nat.le_of_ble_eq_true rfl) (Or.inl rfl) (c_inZ hx) ?_
  refine r_ifB1 rfl (fun h_1 => ?_) (fun h_1 => ?_)
  · cases h_1
  · refine r_ico (x := (nI 1)) rfl rfl ?_
    refine r_go rfl ?_
    refine r_put (s' := (1, n, a, b, v, f, r)) rfl (Nat.le_of_ble_eq_true rfl) ⟨_, rfl⟩ rfl rfl ?_
    refine r_ald rfl rfl ?_
    refine r_get rfl rfl ?_
    refine r_ifN (by omega) rfl (fun h_2 => ?_) (fun h_2 => ?_)
    · replace h_2 : 1 ≤ 0 := h_2
      omega
    · replace h_2 := Nat.not_le.mp h_2
      refine r_ico (x := (nI 0)) rfl rfl ?_
      refine r_ret rfl ⟨_, rfl⟩ ?_
      exact ⟨rfl, rfl⟩
set_option maxHeartbeats 1000000 in
theorem c_feed2 {q : Nat} {qa : Nat → Nat} {d c n a v f : Nat} {b : Bool} {r : rA} {x : Int64} {m : Nat} (hn : n ≤ 160) (hm : m ≤ 8) (h : 160 < n + m) (hx : isIn (nI m) (nI 1) (nI 8) = true) : rFun q qa (d + 2) 99 [zR (some q), zJ (x), zI (nI m)] (c, n, a, b, v, f, r) (2, n, a, b, v, f, r) (some (zI (nI 0))) := by
  refine rFun.of (d := d + 1) (T := tb_99) (L := [some (zR (some q)), some (zJ (x)), none, some (zI (nI m)), none]) (Nat.le_of_ble_eq_true rfl) rfl rfl ?_
  refine r_ald rfl rfl ?_
  refine r_ild rfl rfl ?_
  refine r_ico (x := (nI 1)) rfl rfl ?_
  refine r_ico (x := (nI 8)) rfl rfl ?_
  refine r_call (as := [zI (nI m), zI (nI 1), zI (nI 8)]) (r := [zR (some q)]) (s' := (c, n, a, b, v, f, r)) (v := some (zI (bI (true)))) rfl rfl rfl (Nat.le_of_ble_eq_true rfl) (Or.inl rfl) (c_inZ hx) ?_
  refine r_ifB1 rfl (fun h_1 => ?_) (fun h_1 => ?_)
  · refine r_ald rfl rfl ?_
    refine r_get rfl rfl ?_
    refine r_ild rfl rfl ?_
    refine r_ibi (v := (nI (n + m))) rfl (nI_add _ _) ?_
    refine r_ico (x := (nI 160)) rfl rfl ?_
    refine r_cmpN (by omega) (by omega) rfl (fun h_2 => ?_) (fun h_2 => ?_)
    · replace h_2 : n + m ≤ 160 := h_2
      omega
    · replace h_2 := Nat.not_le.mp h_2
      refine r_ico (x := (nI 2)) rfl rfl ?_
      refine r_go rfl ?_
      refine r_put (s' := (2, n, a, b, v, f, r)) rfl (Nat.le_of_ble_eq_true rfl) ⟨_, rfl⟩ rfl rfl ?_
      refine r_ald rfl rfl ?_
      refine r_get rfl rfl ?_
      refine r_ifN (by omega) rfl (fun h_3 => ?_) (fun h_3 => ?_)
      · replace h_3 : 2 ≤ 0 := h_3
        omega
      · replace h_3 := Nat.not_le.mp h_3
        refine r_ico (x := (nI 0)) rfl rfl ?_
        refine r_ret rfl ⟨_, rfl⟩ ?_
        exact ⟨rfl, rfl⟩
  · cases h_1
set_option maxHeartbeats 1000000 in
theorem l_feed {q : Nat} {qa : Nat → Nat} {d c n a v f : Nat} {b : Bool} {r : rA} {Q : rS → (Option zV ⊕ Nat) → Prop} {x : Int64} {m : Nat} (hm : n + m ≤ 160) (hQ : Q (0, n + m, a, b, v, f, rput r 2 n (fby x) m) (.inl (some (zI (nI (n + m)))))) : ∀ k, k ≤ m → rEv q qa (d + 1) tb_99 Q 47 [some (zR (some q)), some (zJ (x)), none, some (zI (nI m)), some (zI (nI k))] [] (0, n + k, a, b, v, f, rput r 2 n (fby x) k) := by
  refine dn m (fun k hk ih => ?_)
  refine r_ild rfl rfl ?_
  refine r_ild rfl rfl ?_
  refine r_cmpN (by omega) (by omega) rfl (fun h_1 => ?_) (fun h_1 => ?_)
  · replace h_1 : m ≤ k := h_1
    refine r_ald rfl rfl ?_
    refine r_get rfl rfl ?_
    refine r_ret rfl ⟨_, rfl⟩ ?_
    have h3 : k = m := by omega
    subst h3
    exact hQ
  · replace h_1 := Nat.not_le.mp h_1
    refine r_ald rfl rfl ?_
    refine r_get rfl rfl ?_
    refine r_ald rfl rfl ?_
    refine r_get rfl rfl ?_
    refine r_lld rfl rfl ?_
    refine r_ico (x := (nI 8)) rfl rfl ?_
    refine r_ild rfl rfl ?_
    refine r_ibi (v := (nI (8 * k))) rfl (pk_mul _ _) ?_
    refine r_lsh (v := zlsh 1 (x) (nI (8 * k))) rfl rfl ?_
    refine r_lco (x := 255) rfl rfl ?_
    refine r_lbi (v := (zlsh 1 (x) (nI (8 * k))) &&& (255)) rfl rfl ?_
    refine r_l2i (v := Int64.toInt32 ((zlsh 1 (x) (nI (8 * k))) &&& (255))) rfl rfl ?_
    refine r_iastN (k0 := 2) (x' := (Int64.toInt32 ((zlsh 1 (x) (nI (8 * k))) &&& (255)))) rfl rfl (by omega) (by decide) rfl ?_
    refine r_ald rfl rfl ?_
    refine r_dup rfl rfl ?_
    refine r_get rfl rfl ?_
    refine r_ico (x := (nI 1)) rfl rfl ?_
    refine r_ibi (v := (nI (n + k + 1))) rfl (nI_add _ _) ?_
    refine r_put (s' := (0, n + k + 1, a, b, v, f, rset (rput r 2 n (fby x) k) 2 (n + k) (Int64.toInt32 ((zlsh 1 (x) (nI (8 * k))) &&& (255))))) rfl (Nat.le_of_ble_eq_true rfl) ⟨_, rfl⟩ rfl rfl ?_
    refine r_inc (x' := (nI (k + 1))) (ls' := [some (zR (some q)), some (zJ (x)), none, some (zI (nI m)), some (zI (nI (k + 1)))]) rfl rfl (nI_1 _) rfl ?_
    refine r_go rfl ?_
    rw [show Int64.toInt32 (zlsh 1 x (nI (8 * k)) &&& 255) = fby x k from rfl, rput_s]
    exact ih (by omega)
set_option maxHeartbeats 1000000 in
theorem c_feed0 {q : Nat} {qa : Nat → Nat} {d c n a v f : Nat} {b : Bool} {r : rA} {x : Int64} {m : Nat} (hm : n + m ≤ 160) (hx : isIn (nI m) (nI 1) (nI 8) = true) : rFun q qa (d + 2) 99 [zR (some q), zJ (x), zI (nI m)] (c, n, a, b, v, f, r) (0, n + m, a, b, v, f, rput r 2 n (fby x) m) (some (zI (nI (n + m)))) := by
  refine rFun.of (d := d + 1) (T := tb_99) (L := [some (zR (some q)), some (zJ (x)), none, some (zI (nI m)), none]) (Nat.le_of_ble_eq_true rfl) rfl rfl ?_
  refine r_ald rfl rfl ?_
  refine r_ild rfl rfl ?_
  refine r_ico (x := (nI 1)) rfl rfl ?_
  refine r_ico (x := (nI 8)) rfl rfl ?_
  refine r_call (as := [zI (nI m), zI (nI 1), zI (nI 8)]) (r := [zR (some q)]) (s' := (c, n, a, b, v, f, r)) (v := some (zI (bI (true)))) rfl rfl rfl (Nat.le_of_ble_eq_true rfl) (Or.inl rfl) (c_inZ hx) ?_
  refine r_ifB1 rfl (fun h_1 => ?_) (fun h_1 => ?_)
  · refine r_ald rfl rfl ?_
    refine r_get rfl rfl ?_
    refine r_ild rfl rfl ?_
    refine r_ibi (v := (nI (n + m))) rfl (nI_add _ _) ?_
    refine r_ico (x := (nI 160)) rfl rfl ?_
    refine r_cmpN (by omega) (by omega) rfl (fun h_2 => ?_) (fun h_2 => ?_)
    · replace h_2 : n + m ≤ 160 := h_2
      refine r_ico (x := (nI 0)) rfl rfl ?_
      refine r_put (s' := (0, n, a, b, v, f, r)) rfl (Nat.le_of_ble_eq_true rfl) ⟨_, rfl⟩ rfl rfl ?_
      refine r_ald rfl rfl ?_
      refine r_get rfl rfl ?_
      refine r_ifN (by omega) rfl (fun h_3 => ?_) (fun h_3 => ?_)
      · replace h_3 : 0 ≤ 0 := h_3
        refine r_ico (x := (nI 0)) rfl rfl ?_
        refine r_ist (ls' := [some (zR (some q)), some (zJ (x)), none, some (zI (nI m)), some (zI (nI 0))]) rfl (Nat.le_of_ble_eq_true rfl) rfl ?_
        exact rEv_rr (rput_0 r 2 n (fby x)) (l_feed (c := c) hm ⟨rfl, rfl⟩ 0 (by omega))
      · replace h_3 := Nat.not_le.mp h_3
        omega
    · replace h_2 := Nat.not_le.mp h_2
      omega
  · cases h_1
set_option maxHeartbeats 1000000 in
theorem c_yank {q : Nat} {qa : Nat → Nat} {d c n a v f : Nat} {b : Bool} {r : rA} {i : Nat} {y on : Bool} (hv : v ≤ 40) (hi : i < v) (hY : r 17 i = bI y) : rFun q qa (d + 3) 127 [zR (some q), zI (nI i), zI (bI (on))] (c, n, a, b, v, f, r) (0, n, a, b, v, f, rset r 17 i (bI on)) (some (zI (bI (y)))) := by
  refine rFun.of (d := d + 2) (T := tb_127) (L := [some (zR (some q)), some (zI (nI i)), some (zI (bI (on))), none]) (Nat.le_of_ble_eq_true rfl) rfl rfl ?_
  refine r_ald rfl rfl ?_
  refine r_ald rfl rfl ?_
  refine r_ild rfl rfl ?_
  refine r_call (as := [zR (some q), zI (nI i)]) (r := [zR (some q)]) (s' := (c, n, a, b, v, f, r)) (v := some (zI (bI (true)))) rfl rfl rfl (Nat.le_of_ble_eq_true rfl) (Or.inr ⟨rfl, rfl, _, rfl⟩) (c_isVersionZ (isIn_v hi (by omega))) ?_
  refine r_ifB0 rfl (fun h_1 => ?_) (fun h_1 => ?_)
  · cases h_1
  · refine r_ico (x := (nI 0)) rfl rfl ?_
    refine r_go rfl ?_
    refine r_put (s' := (0, n, a, b, v, f, r)) rfl (Nat.le_of_ble_eq_true rfl) ⟨_, rfl⟩ rfl rfl ?_
    refine r_ald rfl rfl ?_
    refine r_get rfl rfl ?_
    refine r_ifN (by omega) rfl (fun h_2 => ?_) (fun h_2 => ?_)
    · replace h_2 : 0 ≤ 0 := h_2
      refine r_ald rfl rfl ?_
      refine r_get rfl rfl ?_
      refine r_ild rfl rfl ?_
      refine r_ialdN (k0 := 17) rfl rfl (by omega) (by decide) ?_
      refine r_top (y := (bI (y))) (by simp [rar, hY]) ?_
      refine r_ist (ls' := [some (zR (some q)), some (zI (nI i)), some (zI (bI (on))), some (zI (bI (y)))]) rfl (Nat.le_of_ble_eq_true rfl) rfl ?_
      refine r_ald rfl rfl ?_
      refine r_get rfl rfl ?_
      refine r_ild rfl rfl ?_
      refine r_ild rfl rfl ?_
      refine r_iastN (k0 := 17) (x' := (bI (on))) rfl rfl (by omega) (by decide) (znar_b _) ?_
      refine r_ild rfl rfl ?_
      refine r_ret rfl ⟨_, rfl, bI_01 _⟩ ?_
      exact ⟨rfl, rfl⟩
    · replace h_2 := Nat.not_le.mp h_2
      omega
set_option maxHeartbeats 1000000 in
theorem c_yankX {q : Nat} {qa : Nat → Nat} {d c n a v f : Nat} {b : Bool} {r : rA} {x : Int32} {on : Bool} (hx : isIn x (nI 0) (nI v - nI 1) = false) : rFun q qa (d + 3) 127 [zR (some q), zI (x), zI (bI (on))] (c, n, a, b, v, f, r) (1, n, a, b, v, f, r) (some (zI (bI (false)))) := by
  refine rFun.of (d := d + 2) (T := tb_127) (L := [some (zR (some q)), some (zI (x)), some (zI (bI (on))), none]) (Nat.le_of_ble_eq_true rfl) rfl rfl ?_
  refine r_ald rfl rfl ?_
  refine r_ald rfl rfl ?_
  refine r_ild rfl rfl ?_
  refine r_call (as := [zR (some q), zI (x)]) (r := [zR (some q)]) (s' := (c, n, a, b, v, f, r)) (v := some (zI (bI (false)))) rfl rfl rfl (Nat.le_of_ble_eq_true rfl) (Or.inr ⟨rfl, rfl, _, rfl⟩) (c_isVersionZ hx) ?_
  refine r_ifB0 rfl (fun h_1 => ?_) (fun h_1 => ?_)
  · refine r_ico (x := (nI 1)) rfl rfl ?_
    refine r_put (s' := (1, n, a, b, v, f, r)) rfl (Nat.le_of_ble_eq_true rfl) ⟨_, rfl⟩ rfl rfl ?_
    refine r_ald rfl rfl ?_
    refine r_get rfl rfl ?_
    refine r_ifN (by omega) rfl (fun h_2 => ?_) (fun h_2 => ?_)
    · replace h_2 : 1 ≤ 0 := h_2
      omega
    · replace h_2 := Nat.not_le.mp h_2
      refine r_ico (x := (nI 0)) rfl rfl ?_
      refine r_ret rfl ⟨_, rfl, Or.inl rfl⟩ ?_
      exact ⟨rfl, rfl⟩
  · cases h_1
set_option maxHeartbeats 1000000 in
theorem c_drop {q : Nat} {qa : Nat → Nat} {d c n a v f : Nat} {b : Bool} {r : rA} {p : Nat} {y : Bool} (hp : p < 8) (hY : r 20 p = bI y) : rFun q qa (d + 2) 130 [zR (some q), zI (nI p)] (c, n, a, b, v, f, r) (0, n, a, b, v, f, rset r 20 p (bI false)) (some (zI (bI (y)))) := by
  refine rFun.of (d := d + 1) (T := tb_130) (L := [some (zR (some q)), some (zI (nI p)), none]) (Nat.le_of_ble_eq_true rfl) rfl rfl ?_
  refine r_ald rfl rfl ?_
  refine r_ild rfl rfl ?_
  refine r_ico (x := (nI 0)) rfl rfl ?_
  refine r_ico (x := (nI 7)) rfl rfl ?_
  refine r_call (as := [zI (nI p), zI (nI 0), zI (nI 7)]) (r := [zR (some q)]) (s' := (c, n, a, b, v, f, r)) (v := some (zI (bI (true)))) rfl rfl rfl (Nat.le_of_ble_eq_true rfl) (Or.inl rfl) (c_inZ (isIn_n (by omega) (by decide))) ?_
  refine r_ifB0 rfl (fun h_1 => ?_) (fun h_1 => ?_)
  · cases h_1
  · refine r_ico (x := (nI 0)) rfl rfl ?_
    refine r_go rfl ?_
    refine r_put (s' := (0, n, a, b, v, f, r)) rfl (Nat.le_of_ble_eq_true rfl) ⟨_, rfl⟩ rfl rfl ?_
    refine r_ald rfl rfl ?_
    refine r_get rfl rfl ?_
    refine r_ifN (by omega) rfl (fun h_2 => ?_) (fun h_2 => ?_)
    · replace h_2 : 0 ≤ 0 := h_2
      refine r_ald rfl rfl ?_
      refine r_get rfl rfl ?_
      refine r_ild rfl rfl ?_
      refine r_ialdN (k0 := 20) rfl rfl (by omega) (by decide) ?_
      refine r_top (y := (bI (y))) (by simp [rar, hY]) ?_
      refine r_ist (ls' := [some (zR (some q)), some (zI (nI p)), some (zI (bI (y)))]) rfl (Nat.le_of_ble_eq_true rfl) rfl ?_
      refine r_ald rfl rfl ?_
      refine r_get rfl rfl ?_
      refine r_ild rfl rfl ?_
      refine r_ico (x := (nI 0)) rfl rfl ?_
      refine r_iastN (k0 := 20) (x' := (bI (false))) rfl rfl (by omega) (by decide) (by decide +kernel) ?_
      refine r_ild rfl rfl ?_
      refine r_ret rfl ⟨_, rfl, bI_01 _⟩ ?_
      exact ⟨rfl, rfl⟩
    · replace h_2 := Nat.not_le.mp h_2
      omega
set_option maxHeartbeats 1000000 in
theorem c_dropX {q : Nat} {qa : Nat → Nat} {d c n a v f : Nat} {b : Bool} {r : rA} {x : Int32} (hx : isIn x (nI 0) (nI 7) = false) : rFun q qa (d + 2) 130 [zR (some q), zI (x)] (c, n, a, b, v, f, r) (1, n, a, b, v, f, r) (some (zI (bI (false)))) := by
  refine rFun.of (d := d + 1) (T := tb_130) (L := [some (zR (some q)), some (zI (x)), none]) (Nat.le_of_ble_eq_true rfl) rfl rfl ?_
  refine r_ald rfl rfl ?_
  refine r_ild rfl rfl ?_
  refine r_ico (x := (nI 0)) rfl rfl ?_
  refine r_ico (x := (nI 7)) rfl rfl ?_
  refine r_call (as := [zI (x), zI (nI 0), zI (nI 7)]) (r := [zR (some q)]) (s' := (c, n, a, b, v, f, r)) (v := some (zI (bI (false)))) rfl rfl rfl (Nat.le_of_ble_eq_true rfl) (Or.inl rfl) (c_inZ hx) ?_
  refine r_ifB0 rfl (fun h_1 => ?_) (fun h_1 => ?_)
  · refine r_ico (x := (nI 1)) rfl rfl ?_
    refine r_put (s' := (1, n, a, b, v, f, r)) rfl (Nat.le_of_ble_eq_true rfl) ⟨_, rfl⟩ rfl rfl ?_
    refine r_ald rfl rfl ?_
    refine r_get rfl rfl ?_
    refine r_ifN (by omega) rfl (fun h_2 => ?_) (fun h_2 => ?_)
    · replace h_2 : 1 ≤ 0 := h_2
      omega
    · replace h_2 := Nat.not_le.mp h_2
      refine r_ico (x := (nI 0)) rfl rfl ?_
      refine r_ret rfl ⟨_, rfl, Or.inl rfl⟩ ?_
      exact ⟨rfl, rfl⟩
  · cases h_1
set_option maxHeartbeats 1000000 in
theorem c_put {q : Nat} {qa : Nat → Nat} {d c n a v f : Nat} {b : Bool} {r : rA} {x : Int32} (hf : f < 250) : rFun q qa (d + 1) 149 [zR (some q), zI (x)] (c, n, a, b, v, f, r) (c, n, a, b, v, f + 1, rset r 24 f x) none := by
  refine rFun.of (T := tb_149) (L := [some (zR (some q)), some (zI (x))]) (Nat.le_of_ble_eq_true rfl) rfl rfl ?_
  refine r_ald rfl rfl ?_
  refine r_get rfl rfl ?_
  refine r_ald rfl rfl ?_
  refine r_get rfl rfl ?_
  refine r_ild rfl rfl ?_
  refine r_iastN (k0 := 24) (x' := (x)) rfl rfl (by omega) (by decide) rfl ?_
  refine r_ald rfl rfl ?_
  refine r_dup rfl rfl ?_
  refine r_get rfl rfl ?_
  refine r_ico (x := (nI 1)) rfl rfl ?_
  refine r_ibi (v := (nI (f + 1))) rfl (nI_add _ _) ?_
  refine r_put (s' := (c, n, a, b, v, f + 1, rset r 24 f (x))) rfl (Nat.le_of_ble_eq_true rfl) ⟨_, rfl⟩ rfl rfl ?_
  refine r_rtv rfl ?_
  exact ⟨rfl, rfl⟩
set_option maxHeartbeats 1000000 in
theorem l_wl {q : Nat} {qa : Nat → Nat} {d c n a v f : Nat} {b : Bool} {r : rA} {Q : rS → (Option zV ⊕ Nat) → Prop} {p i m : Nat} (hi : i < 40) (hm : m ≤ 24) (hM : r 18 i = nI m) (hf : f + m < 250) (hE : rEv q qa (d + 1) tb_150 Q 77 [some (zR (some q)), some (zI (nI p)), some (zI (nI i)), some (zI (nI m))] [] (c, n, a, b, v, f + m, rput r 24 f (fun y => r 19 (24 * i + y)) m)) : ∀ k, k ≤ m → rEv q qa (d + 1) tb_150 Q 46 [some (zR (some q)), some (zI (nI p)), some (zI (nI i)), some (zI (nI k))] [] (c, n, a, b, v, f + k, rput r 24 f (fun y => r 19 (24 * i + y)) k) := by
  refine dn m (fun k hk ih => ?_)
  refine r_ild rfl rfl ?_
  refine r_ald rfl rfl ?_
  refine r_get rfl rfl ?_
  refine r_ild rfl rfl ?_
  refine r_ialdN (k0 := 18) rfl rfl (by omega) (by decide) ?_
  refine r_top (y := (nI m)) (by simp [rar, rput_n, hM]) ?_
  refine r_cmpN (by omega) (by omega) rfl (fun h_1 => ?_) (fun h_1 => ?_)
  · replace h_1 : m ≤ k := h_1
    have h3 : k = m := by omega
    subst h3
    exact hE
  · replace h_1 := Nat.not_le.mp h_1
    refine r_ald rfl rfl ?_
    refine r_ald rfl rfl ?_
    refine r_get rfl rfl ?_
    refine r_ico (x := (nI 24)) rfl rfl ?_
    refine r_ild rfl rfl ?_
    refine r_ibi (v := (nI (24 * i))) rfl (pk_mul _ _) ?_
    refine r_ild rfl rfl ?_
    refine r_ibi (v := (nI (24 * i + k))) rfl (nI_add _ _) ?_
    refine r_ialdN (k0 := 19) rfl rfl (by omega) (by decide) ?_
    refine r_call (as := [zR (some q), zI ((rput r 24 f (fun y => r 19 (24 * i + y)) k) 19 (24 * i + k))]) (r := []) (s' := (c, n, a, b, v, f + k + 1, rset (rput r 24 f (fun y => r 19 (24 * i + y)) k) 24 (f + k) ((rput r 24 f (fun y => r 19 (24 * i + y)) k) 19 (24 * i + k)))) (v := none) rfl rfl rfl (Nat.le_of_ble_eq_true rfl) (Or.inr ⟨rfl, rfl, _, rfl⟩) (c_put (by omega)) ?_
    refine r_inc (x' := (nI (k + 1))) (ls' := [some (zR (some q)), some (zI (nI p)), some (zI (nI i)), some (zI (nI (k + 1)))]) rfl rfl (nI_1 _) rfl ?_
    refine r_go rfl ?_
    rw [rput_n (j := 19) (by decide), rput_s r 24 f (fun y => r 19 (24 * i + y))]
    exact ih (by omega)
set_option maxHeartbeats 1000000 in
theorem l_write {q : Nat} {qa : Nat → Nat} {d c n a v f : Nat} {b : Bool} {r : rA} {Q : rS → (Option zV ⊕ Nat) → Prop}  (hC : ∀ p, p < 8 → r 22 p = -1 ∨ ∃ i, i < 40 ∧ r 22 p = nI i ∧ ∃ m, m ≤ 24 ∧ r 18 i = nI m) (hQ : Q (0, n, a, b, v, (wfF r 8).1, (wfF r 8).2) (.inl (some (zI (nI (wfF r 8).1))))) : ∀ p, p ≤ 8 → ∀ (x2 x3 : Option zV), rEv q qa (d + 1) tb_150 Q 12 [some (zR (some q)), some (zI (nI p)), x2, x3] [] (0, n, a, b, v, (wfF r p).1, (wfF r p).2) := by
  refine dn 8 (fun p hk ih x2 x3 => ?_)
  refine r_ild rfl rfl ?_
  refine r_ico (x := (nI 8)) rfl rfl ?_
  refine r_cmpN (by omega) (by omega) rfl (fun h_1 => ?_) (fun h_1 => ?_)
  · replace h_1 : 8 ≤ p := h_1
    refine r_ald rfl rfl ?_
    refine r_get rfl rfl ?_
    refine r_ret rfl ⟨_, rfl⟩ ?_
    have h3 : p = 8 := by omega
    rw [h3]
    exact hQ
  · replace h_1 := Nat.not_le.mp h_1
    refine r_ald rfl rfl ?_
    refine r_get rfl rfl ?_
    refine r_ild rfl rfl ?_
    refine r_ialdN (k0 := 22) rfl rfl (by omega) (by decide) ?_
    refine r_top (y := (r 22 p)) (by rw [show rar (0, n, a, b, v, (wfF r p).1, (wfF r p).2) = (wfF r p).2 from rfl, wfF_n r p 22 (by decide)]) ?_
    refine r_ist (ls' := [some (zR (some q)), some (zI (nI p)), some (zI (r 22 p)), x3]) rfl (Nat.le_of_ble_eq_true rfl) rfl ?_
    refine r_ild rfl rfl ?_
    refine r_ico (x := (-1)) rfl rfl ?_
    refine r_cmp rfl (fun h_2 => ?_) (fun h_2 => ?_)
    · replace h_2 : (r 22 p) = (-1) := h_2
      refine r_inc (x' := (nI (p + 1))) (ls' := [some (zR (some q)), some (zI (nI (p + 1))), some (zI (r 22 p)), x3]) rfl rfl (nI_1 _) rfl ?_
      refine r_go rfl ?_
      have h7 : wfF r (p + 1) = wfF r p := by rw [wfF, wlF, if_pos h_2]
      rw [h7] at ih
      exact ih (by omega) _ _
    · replace h_2 : ¬ ((r 22 p) = (-1)) := h_2
      obtain ⟨i, hi, e, m, hm, hM⟩ := (hC p (by omega)).resolve_left h_2
      have hb := wfF_le r hC p (by omega)
      have h7 : wfF r (p + 1) = ((wfF r p).1 + 1 + 1 + m + 1, rset (rput (rset (rset (wfF r p).2 24 (wfF r p).1 (nI (48 + p))) 24 ((wfF r p).1 + 1) (nI 32)) 24 ((wfF r p).1 + 1 + 1) (fun y => r 19 (24 * i + y)) m) 24 ((wfF r p).1 + 1 + 1 + m) (nI 10)) := by rw [wfF, wlF, if_neg h_2, e, nI_clamp (by omega), hM, nI_clamp (by omega)]
      rw [h7] at ih
      rw [e]
      refine r_ald rfl rfl ?_
      refine r_ico (x := (nI 48)) rfl rfl ?_
      refine r_ild rfl rfl ?_
      refine r_ibi (v := (nI (48 + p))) rfl (nI_add _ _) ?_
      refine r_call (as := [zR (some q), zI (nI (48 + p))]) (r := []) (s' := (0, n, a, b, v, (wfF r p).1 + 1, rset ((wfF r p).2) 24 ((wfF r p).1) (nI (48 + p)))) (v := none) rfl rfl rfl (Nat.le_of_ble_eq_true rfl) (Or.inr ⟨rfl, rfl, _, rfl⟩) (c_put (by omega)) ?_
      refine r_ald rfl rfl ?_
      refine r_ico (x := (nI 32)) rfl rfl ?_
      refine r_call (as := [zR (some q), zI (nI 32)]) (r := []) (s' := (0, n, a, b, v, (wfF r p).1 + 1 + 1, rset (rset ((wfF r p).2) 24 ((wfF r p).1) (nI (48 + p))) 24 ((wfF r p).1 + 1) (nI 32))) (v := none) rfl rfl rfl (Nat.le_of_ble_eq_true rfl) (Or.inr ⟨rfl, rfl, _, rfl⟩) (c_put (by omega)) ?_
      refine r_ico (x := (nI 0)) rfl rfl ?_
      refine r_ist (ls' := [some (zR (some q)), some (zI (nI p)), some (zI (nI i)), some (zI (nI 0))]) rfl (Nat.le_of_ble_eq_true rfl) rfl ?_
      have h6 : ∀ k, k ≠ 24 → (rset (rset (wfF r p).2 24 (wfF r p).1 (nI (48 + p))) 24 ((wfF r p).1 + 1) (nI 32)) k = r k := by intro k hk; rw [rset_n _ _ _ hk, rset_n _ _ _ hk]; exact wfF_n r p k hk
      have h8 := l_wl (q := q) (qa := qa) (d := d) (c := 0) (n := n) (a := a) (v := v) (f := (wfF r p).1 + 1 + 1) (b := b) (Q := Q) (r := rset (rset (wfF r p).2 24 (wfF r p).1 (nI (48 + p))) 24 ((wfF r p).1 + 1) (nI 32)) (p := p) (i := i) (m := m) hi hm (by rw [h6 18 (by decide)]; exact hM) (by omega) ?_ 0 (by omega)
      exact rEv_rr (rput_0 _ _ _ _) h8
      rw [h6 19 (by decide)]
      refine r_ald rfl rfl ?_
      refine r_ico (x := (nI 10)) rfl rfl ?_
      refine r_call (as := [zR (some q), zI (nI 10)]) (r := []) (s' := (0, n, a, b, v, (wfF r p).1 + 1 + 1 + m + 1, rset (rput (rset (rset (wfF r p).2 24 (wfF r p).1 (nI (48 + p))) 24 ((wfF r p).1 + 1) (nI 32)) 24 ((wfF r p).1 + 1 + 1) (fun y => r 19 (24 * i + y)) m) 24 ((wfF r p).1 + 1 + 1 + m) (nI 10))) (v := none) rfl rfl rfl (Nat.le_of_ble_eq_true rfl) (Or.inr ⟨rfl, rfl, _, rfl⟩) (c_put (by omega)) ?_
      refine r_inc (x' := (nI (p + 1))) (ls' := [some (zR (some q)), some (zI (nI (p + 1))), some (zI (nI i)), some (zI (nI m))]) rfl rfl (nI_1 _) rfl ?_
      refine r_go rfl ?_
      exact ih (by omega) _ _
set_option maxHeartbeats 1000000 in
theorem c_write {q : Nat} {qa : Nat → Nat} {d c n a v f : Nat} {b : Bool} {r : rA}  (hC : ∀ p, p < 8 → r 22 p = -1 ∨ ∃ i, i < 40 ∧ r 22 p = nI i ∧ ∃ m, m ≤ 24 ∧ r 18 i = nI m) : rFun q qa (d + 2) 150 [zR (some q)] (c, n, a, b, v, f, r) (0, n, a, b, v, (wfF r 8).1, (wfF r 8).2) (some (zI (nI ((wfF r 8).1)))) := by
  refine rFun.of (d := d + 1) (T := tb_150) (L := [some (zR (some q)), none, none, none]) (Nat.le_of_ble_eq_true rfl) rfl rfl ?_
  refine r_ald rfl rfl ?_
  refine r_ico (x := (nI 0)) rfl rfl ?_
  refine r_put (s' := (0, n, a, b, v, f, r)) rfl (Nat.le_of_ble_eq_true rfl) ⟨_, rfl⟩ rfl rfl ?_
  refine r_ald rfl rfl ?_
  refine r_ico (x := (nI 0)) rfl rfl ?_
  refine r_put (s' := (0, n, a, b, v, 0, r)) rfl (Nat.le_of_ble_eq_true rfl) ⟨_, rfl⟩ rfl rfl ?_
  refine r_ico (x := (nI 0)) rfl rfl ?_
  refine r_ist (ls' := [some (zR (some q)), some (zI (nI 0)), none, none]) rfl (Nat.le_of_ble_eq_true rfl) rfl ?_
  exact l_write (c := c) (f := f) hC ⟨rfl, rfl⟩ 0 (by omega) none none
