/-- is a version below the first one that a comparator's numbers leave out upward? -/
def bnF (r : rA) (i k : Nat) (ct : Bool) : Bool :=
  if r 11 k = nI 1 ∨ (ct = true ∧ ¬ r 5 k ≤ 0) then !decide (0 ≤ oT r i (r 5 k + nI 1) (nI 0) (nI 0))
  else if ct = true ∧ r 11 k = nI 3 ∧ r 6 k = 0 then !decide (0 ≤ oT r i (nI 0) (nI 0) (r 7 k + nI 1)) else !decide (0 ≤ oT r i (r 5 k) (r 6 k + nI 1) (nI 0))
/-- does version i meet comparator k, whose sign is g? -/
def metF (r : rA) (g k mk i mi : Nat) : Bool := match g with
  | 0 => true
  | 1 => !decide (ordF r i mi k mk < 0) && bnF r i k true
  | 2 => !decide (ordF r i mi k mk < 0) && bnF r i k false
  | 3 => if r 11 k = nI 3 then decide (ordF r i mi k mk = 0) else !decide (ordF r i mi k mk < 0) && bnF r i k false
  | 4 => if r 11 k = nI 3 then !decide (ordF r i mi k mk ≤ 0) else !bnF r i k false
  | 5 => !decide (ordF r i mi k mk < 0)
  | 6 => !decide (0 ≤ ordF r i mi k mk)
  | _ => if r 11 k = nI 3 then !decide (0 < ordF r i mi k mk) else bnF r i k false
set_option maxHeartbeats 1000000 in
theorem c_isBelowNext {q : Nat} {qa : Nat → Nat} {d c n a v f : Nat} {b : Bool} {r : rA} {i k : Nat} {ct : Bool} (hi : i < 900) (hk : k < 900) : rFun q qa (d + 2) 119 [zR (some q), zI (nI i), zI (nI k), zI (bI (ct))] (c, n, a, b, v, f, r) (c, n, a, b, v, f, r) (some (zI (bI (bnF r i k ct)))) := by
  refine rFun.of (d := d + 1) (T := tb_119) (L := [some (zR (some q)), some (zI (nI i)), some (zI (nI k)), some (zI (bI (ct))), none, none, none, none]) (Nat.le_of_ble_eq_true rfl) rfl rfl ?_
  refine r_ald rfl rfl ?_
  refine r_get rfl rfl ?_
  refine r_ild rfl rfl ?_
  refine r_ialdN (k0 := 5) rfl rfl (by omega) (by decide) ?_
  refine r_ist (ls' := [some (zR (some q)), some (zI (nI i)), some (zI (nI k)), some (zI (bI (ct))), some (zI (r 5 k)), none, none, none]) rfl (Nat.le_of_ble_eq_true rfl) rfl ?_
  refine r_ald rfl rfl ?_
  refine r_get rfl rfl ?_
  refine r_ild rfl rfl ?_
  refine r_ialdN (k0 := 6) rfl rfl (by omega) (by decide) ?_
  refine r_ist (ls' := [some (zR (some q)), some (zI (nI i)), some (zI (nI k)), some (zI (bI (ct))), some (zI (r 5 k)), some (zI (r 6 k)), none, none]) rfl (Nat.le_of_ble_eq_true rfl) rfl ?_
  refine r_ald rfl rfl ?_
  refine r_get rfl rfl ?_
  refine r_ild rfl rfl ?_
  refine r_ialdN (k0 := 11) rfl rfl (by omega) (by decide) ?_
  refine r_ico (x := (nI 1)) rfl rfl ?_
  refine r_cmp rfl (fun h_1 => ?_) (fun h_1 => ?_)
  · replace h_1 : (r 11 k) = (nI 1) := h_1
    refine r_ico (x := (nI 1)) rfl rfl ?_
    refine r_go rfl ?_
    refine r_ist (ls' := [some (zR (some q)), some (zI (nI i)), some (zI (nI k)), some (zI (bI (ct))), some (zI (r 5 k)), some (zI (r 6 k)), some (zI (nI 1)), none]) rfl (Nat.le_of_ble_eq_true rfl) rfl ?_
    refine r_ild rfl rfl ?_
    refine r_ifN (by omega) rfl (fun h_2 => ?_) (fun h_2 => ?_)
    · replace h_2 : 1 = 0 := h_2
      omega
    · replace h_2 : ¬ (1 = 0) := h_2
      refine r_ald rfl rfl ?_
      refine r_ild rfl rfl ?_
      refine r_ild rfl rfl ?_
      refine r_ico (x := (nI 1)) rfl rfl ?_
      refine r_ibi (v := ((r 5 k) + (nI 1))) rfl rfl ?_
      refine r_ico (x := (nI 0)) rfl rfl ?_
      refine r_ico (x := (nI 0)) rfl rfl ?_
      refine r_call (as := [zR (some q), zI (nI i), zI ((r 5 k) + (nI 1)), zI (nI 0), zI (nI 0)]) (r := []) (s' := (c, n, a, b, v, f, r)) (v := some (zI (oT r i ((r 5 k) + (nI 1)) (nI 0) (nI 0)))) rfl rfl rfl (Nat.le_of_ble_eq_true rfl) (Or.inr ⟨rfl, rfl, _, rfl⟩) (c_orderTo (by omega)) ?_
      refine r_if rfl (fun h_3 => ?_) (fun h_3 => ?_)
      · replace h_3 : 0 ≤ (oT r i ((r 5 k) + (nI 1)) (nI 0) (nI 0)) := h_3
        refine r_ico (x := (nI 0)) rfl rfl ?_
        refine r_ret rfl ⟨_, rfl, Or.inl rfl⟩ ?_
        exact ⟨rfl, ret_f (by simp [bnF, *, nI_eq])⟩
      · replace h_3 : ¬ (0 ≤ (oT r i ((r 5 k) + (nI 1)) (nI 0) (nI 0))) := h_3
        refine r_ico (x := (nI 1)) rfl rfl ?_
        refine r_go rfl ?_
        refine r_ret rfl ⟨_, rfl, Or.inr rfl⟩ ?_
        exact ⟨rfl, ret_t (by simp [bnF, *, nI_eq])⟩
  · replace h_1 : ¬ ((r 11 k) = (nI 1)) := h_1
    refine r_ild rfl rfl ?_
    refine r_ifB0 rfl (fun h_4 => ?_) (fun h_4 => ?_)
    · refine r_ico (x := (nI 0)) rfl rfl ?_
      refine r_ist (ls' := [some (zR (some q)), some (zI (nI i)), some (zI (nI k)), some (zI (bI (ct))), some (zI (r 5 k)), some (zI (r 6 k)), some (zI (nI 0)), none]) rfl (Nat.le_of_ble_eq_true rfl) rfl ?_
      refine r_ild rfl rfl ?_
      refine r_ifN (by omega) rfl (fun h_5 => ?_) (fun h_5 => ?_)
      · replace h_5 : 0 = 0 := h_5
        refine r_ild rfl rfl ?_
        refine r_ifB0 rfl (fun h_6 => ?_) (fun h_6 => ?_)
        · refine r_ico (x := (nI 0)) rfl rfl ?_
          refine r_ist (ls' := [some (zR (some q)), some (zI (nI i)), some (zI (nI k)), some (zI (bI (ct))), some (zI (r 5 k)), some (zI (r 6 k)), some (zI (nI 0)), some (zI (nI 0))]) rfl (Nat.le_of_ble_eq_true rfl) rfl ?_
          refine r_ild rfl rfl ?_
          refine r_ifN (by omega) rfl (fun h_7 => ?_) (fun h_7 => ?_)
          · replace h_7 : 0 = 0 := h_7
            refine r_ald rfl rfl ?_
            refine r_ild rfl rfl ?_
            refine r_ild rfl rfl ?_
            refine r_ild rfl rfl ?_
            refine r_ico (x := (nI 1)) rfl rfl ?_
            refine r_ibi (v := ((r 6 k) + (nI 1))) rfl rfl ?_
            refine r_ico (x := (nI 0)) rfl rfl ?_
            refine r_call (as := [zR (some q), zI (nI i), zI (r 5 k), zI ((r 6 k) + (nI 1)), zI (nI 0)]) (r := []) (s' := (c, n, a, b, v, f, r)) (v := some (zI (oT r i (r 5 k) ((r 6 k) + (nI 1)) (nI 0)))) rfl rfl rfl (Nat.le_of_ble_eq_true rfl) (Or.inr ⟨rfl, rfl, _, rfl⟩) (c_orderTo (by omega)) ?_
            refine r_if rfl (fun h_8 => ?_) (fun h_8 => ?_)
            · replace h_8 : 0 ≤ (oT r i (r 5 k) ((r 6 k) + (nI 1)) (nI 0)) := h_8
              refine r_ico (x := (nI 0)) rfl rfl ?_
              refine r_ret rfl ⟨_, rfl, Or.inl rfl⟩ ?_
              exact ⟨rfl, ret_f (by simp [bnF, *, nI_eq])⟩
            · replace h_8 : ¬ (0 ≤ (oT r i (r 5 k) ((r 6 k) + (nI 1)) (nI 0))) := h_8
              refine r_ico (x := (nI 1)) rfl rfl ?_
              refine r_go rfl ?_
              refine r_ret rfl ⟨_, rfl, Or.inr rfl⟩ ?_
              exact ⟨rfl, ret_t (by simp [bnF, *, nI_eq])⟩
          · replace h_7 : ¬ (0 = 0) := h_7
            omega
        · rw [h_4] at h_6; cases h_6
      · replace h_5 : ¬ (0 = 0) := h_5
        omega
    · refine r_ild rfl rfl ?_
      refine r_if rfl (fun h_9 => ?_) (fun h_9 => ?_)
      · replace h_9 : (r 5 k) ≤ 0 := h_9
        refine r_ico (x := (nI 0)) rfl rfl ?_
        refine r_ist (ls' := [some (zR (some q)), some (zI (nI i)), some (zI (nI k)), some (zI (bI (ct))), some (zI (r 5 k)), some (zI (r 6 k)), some (zI (nI 0)), none]) rfl (Nat.le_of_ble_eq_true rfl) rfl ?_
        refine r_ild rfl rfl ?_
        refine r_ifN (by omega) rfl (fun h_10 => ?_) (fun h_10 => ?_)
        · replace h_10 : 0 = 0 := h_10
          refine r_ild rfl rfl ?_
          refine r_ifB0 rfl (fun h_11 => ?_) (fun h_11 => ?_)
          · rw [h_4] at h_11; cases h_11
          · refine r_ald rfl rfl ?_
            refine r_get rfl rfl ?_
            refine r_ild rfl rfl ?_
            refine r_ialdN (k0 := 11) rfl rfl (by omega) (by decide) ?_
            refine r_ico (x := (nI 3)) rfl rfl ?_
            refine r_cmp rfl (fun h_12 => ?_) (fun h_12 => ?_)
            · replace h_12 : ¬ (r 11 k) = (nI 3) := h_12
              refine r_ico (x := (nI 0)) rfl rfl ?_
              refine r_ist (ls' := [some (zR (some q)), some (zI (nI i)), some (zI (nI k)), some (zI (bI (ct))), some (zI (r 5 k)), some (zI (r 6 k)), some (zI (nI 0)), some (zI (nI 0))]) rfl (Nat.le_of_ble_eq_true rfl) rfl ?_
              refine r_ild rfl rfl ?_
              refine r_ifN (by omega) rfl (fun h_13 => ?_) (fun h_13 => ?_)
              · replace h_13 : 0 = 0 := h_13
                refine r_ald rfl rfl ?_
                refine r_ild rfl rfl ?_
                refine r_ild rfl rfl ?_
                refine r_ild rfl rfl ?_
                refine r_ico (x := (nI 1)) rfl rfl ?_
                refine r_ibi (v := ((r 6 k) + (nI 1))) rfl rfl ?_
                refine r_ico (x := (nI 0)) rfl rfl ?_
                refine r_call (as := [zR (some q), zI (nI i), zI (r 5 k), zI ((r 6 k) + (nI 1)), zI (nI 0)]) (r := []) (s' := (c, n, a, b, v, f, r)) (v := some (zI (oT r i (r 5 k) ((r 6 k) + (nI 1)) (nI 0)))) rfl rfl rfl (Nat.le_of_ble_eq_true rfl) (Or.inr ⟨rfl, rfl, _, rfl⟩) (c_orderTo (by omega)) ?_
                refine r_if rfl (fun h_14 => ?_) (fun h_14 => ?_)
                · replace h_14 : 0 ≤ (oT r i (r 5 k) ((r 6 k) + (nI 1)) (nI 0)) := h_14
                  refine r_ico (x := (nI 0)) rfl rfl ?_
                  refine r_ret rfl ⟨_, rfl, Or.inl rfl⟩ ?_
                  exact ⟨rfl, ret_f (by simp [bnF, *, nI_eq])⟩
                · replace h_14 : ¬ (0 ≤ (oT r i (r 5 k) ((r 6 k) + (nI 1)) (nI 0))) := h_14
                  refine r_ico (x := (nI 1)) rfl rfl ?_
                  refine r_go rfl ?_
                  refine r_ret rfl ⟨_, rfl, Or.inr rfl⟩ ?_
                  exact ⟨rfl, ret_t (by simp [bnF, *, nI_eq])⟩
              · replace h_13 : ¬ (0 = 0) := h_13
                omega
            · replace h_12 : (r 11 k) = (nI 3) := Decidable.of_not_not h_12
              refine r_ild rfl rfl ?_
              refine r_if rfl (fun h_15 => ?_) (fun h_15 => ?_)
              · replace h_15 : ¬ (r 6 k) = 0 := h_15
                refine r_ico (x := (nI 0)) rfl rfl ?_
                refine r_ist (ls' := [some (zR (some q)), some (zI (nI i)), some (zI (nI k)), some (zI (bI (ct))), some (zI (r 5 k)), some (zI (r 6 k)), some (zI (nI 0)), some (zI (nI 0))]) rfl (Nat.le_of_ble_eq_true rfl) rfl ?_
                refine r_ild rfl rfl ?_
                refine r_ifN (by omega) rfl (fun h_16 => ?_) (fun h_16 => ?_)
                · replace h_16 : 0 = 0 := h_16
                  refine r_ald rfl rfl ?_
                  refine r_ild rfl rfl ?_
                  refine r_ild rfl rfl ?_
                  refine r_ild rfl rfl ?_
                  refine r_ico (x := (nI 1)) rfl rfl ?_
                  refine r_ibi (v := ((r 6 k) + (nI 1))) rfl rfl ?_
                  refine r_ico (x := (nI 0)) rfl rfl ?_
                  refine r_call (as := [zR (some q), zI (nI i), zI (r 5 k), zI ((r 6 k) + (nI 1)), zI (nI 0)]) (r := []) (s' := (c, n, a, b, v, f, r)) (v := some (zI (oT r i (r 5 k) ((r 6 k) + (nI 1)) (nI 0)))) rfl rfl rfl (Nat.le_of_ble_eq_true rfl) (Or.inr ⟨rfl, rfl, _, rfl⟩) (c_orderTo (by omega)) ?_
                  refine r_if rfl (fun h_17 => ?_) (fun h_17 => ?_)
                  · replace h_17 : 0 ≤ (oT r i (r 5 k) ((r 6 k) + (nI 1)) (nI 0)) := h_17
                    refine r_ico (x := (nI 0)) rfl rfl ?_
                    refine r_ret rfl ⟨_, rfl, Or.inl rfl⟩ ?_
                    exact ⟨rfl, ret_f (by simp [bnF, *, nI_eq])⟩
                  · replace h_17 : ¬ (0 ≤ (oT r i (r 5 k) ((r 6 k) + (nI 1)) (nI 0))) := h_17
                    refine r_ico (x := (nI 1)) rfl rfl ?_
                    refine r_go rfl ?_
                    refine r_ret rfl ⟨_, rfl, Or.inr rfl⟩ ?_
                    exact ⟨rfl, ret_t (by simp [bnF, *, nI_eq])⟩
                · replace h_16 : ¬ (0 = 0) := h_16
                  omega
              · replace h_15 : (r 6 k) = 0 := Decidable.of_not_not h_15
                refine r_ico (x := (nI 1)) rfl rfl ?_
                refine r_go rfl ?_
                refine r_ist (ls' := [some (zR (some q)), some (zI (nI i)), some (zI (nI k)), some (zI (bI (ct))), some (zI (r 5 k)), some (zI (r 6 k)), some (zI (nI 0)), some (zI (nI 1))]) rfl (Nat.le_of_ble_eq_true rfl) rfl ?_
                refine r_ild rfl rfl ?_
                refine r_ifN (by omega) rfl (fun h_18 => ?_) (fun h_18 => ?_)
                · replace h_18 : 1 = 0 := h_18
                  omega
                · replace h_18 : ¬ (1 = 0) := h_18
                  refine r_ald rfl rfl ?_
                  refine r_ild rfl rfl ?_
                  refine r_ico (x := (nI 0)) rfl rfl ?_
                  refine r_ico (x := (nI 0)) rfl rfl ?_
                  refine r_ald rfl rfl ?_
                  refine r_get rfl rfl ?_
                  refine r_ild rfl rfl ?_
                  refine r_ialdN (k0 := 7) rfl rfl (by omega) (by decide) ?_
                  refine r_ico (x := (nI 1)) rfl rfl ?_
                  refine r_ibi (v := ((r 7 k) + (nI 1))) rfl rfl ?_
                  refine r_call (as := [zR (some q), zI (nI i), zI (nI 0), zI (nI 0), zI ((r 7 k) + (nI 1))]) (r := []) (s' := (c, n, a, b, v, f, r)) (v := some (zI (oT r i (nI 0) (nI 0) ((r 7 k) + (nI 1))))) rfl rfl rfl (Nat.le_of_ble_eq_true rfl) (Or.inr ⟨rfl, rfl, _, rfl⟩) (c_orderTo (by omega)) ?_
                  refine r_if rfl (fun h_19 => ?_) (fun h_19 => ?_)
                  · replace h_19 : 0 ≤ (oT r i (nI 0) (nI 0) ((r 7 k) + (nI 1))) := h_19
                    refine r_ico (x := (nI 0)) rfl rfl ?_
                    refine r_go rfl ?_
                    refine r_ret rfl ⟨_, rfl, Or.inl rfl⟩ ?_
                    exact ⟨rfl, ret_f (by simp [bnF, *, nI_eq])⟩
                  · replace h_19 : ¬ (0 ≤ (oT r i (nI 0) (nI 0) ((r 7 k) + (nI 1)))) := h_19
                    refine r_ico (x := (nI 1)) rfl rfl ?_
                    refine r_go rfl ?_
                    refine r_ret rfl ⟨_, rfl, Or.inr rfl⟩ ?_
                    exact ⟨rfl, ret_t (by simp [bnF, *, nI_eq])⟩
        · replace h_10 : ¬ (0 = 0) := h_10
          omega
      · replace h_9 : ¬ ((r 5 k) ≤ 0) := h_9
        refine r_ico (x := (nI 1)) rfl rfl ?_
        refine r_go rfl ?_
        refine r_ist (ls' := [some (zR (some q)), some (zI (nI i)), some (zI (nI k)), some (zI (bI (ct))), some (zI (r 5 k)), some (zI (r 6 k)), some (zI (nI 1)), none]) rfl (Nat.le_of_ble_eq_true rfl) rfl ?_
        refine r_ild rfl rfl ?_
        refine r_ifN (by omega) rfl (fun h_20 => ?_) (fun h_20 => ?_)
        · replace h_20 : 1 = 0 := h_20
          omega
        · replace h_20 : ¬ (1 = 0) := h_20
          refine r_ald rfl rfl ?_
          refine r_ild rfl rfl ?_
          refine r_ild rfl rfl ?_
          refine r_ico (x := (nI 1)) rfl rfl ?_
          refine r_ibi (v := ((r 5 k) + (nI 1))) rfl rfl ?_
          refine r_ico (x := (nI 0)) rfl rfl ?_
          refine r_ico (x := (nI 0)) rfl rfl ?_
          refine r_call (as := [zR (some q), zI (nI i), zI ((r 5 k) + (nI 1)), zI (nI 0), zI (nI 0)]) (r := []) (s' := (c, n, a, b, v, f, r)) (v := some (zI (oT r i ((r 5 k) + (nI 1)) (nI 0) (nI 0)))) rfl rfl rfl (Nat.le_of_ble_eq_true rfl) (Or.inr ⟨rfl, rfl, _, rfl⟩) (c_orderTo (by omega)) ?_
          refine r_if rfl (fun h_21 => ?_) (fun h_21 => ?_)
          · replace h_21 : 0 ≤ (oT r i ((r 5 k) + (nI 1)) (nI 0) (nI 0)) := h_21
            refine r_ico (x := (nI 0)) rfl rfl ?_
            refine r_ret rfl ⟨_, rfl, Or.inl rfl⟩ ?_
            exact ⟨rfl, ret_f (by simp [bnF, *, nI_eq])⟩
          · replace h_21 : ¬ (0 ≤ (oT r i ((r 5 k) + (nI 1)) (nI 0) (nI 0))) := h_21
            refine r_ico (x := (nI 1)) rfl rfl ?_
            refine r_go rfl ?_
            refine r_ret rfl ⟨_, rfl, Or.inr rfl⟩ ?_
            exact ⟨rfl, ret_t (by simp [bnF, *, nI_eq])⟩
set_option maxHeartbeats 4000000 in
theorem c_isMet {q : Nat} {qa : Nat → Nat} {d c n a v f g k mk i mi : Nat} {b : Bool} {r : rA} (hk : k < 900) (hi : i < 900) (hmk : mk ≤ 24) (hmi : mi ≤ 24) (hK : r 8 k = nI mk) (hI : r 8 i = nI mi) (hG : r 10 k = nI g) (hg : g ≤ 7) : rFun q qa (d + 5) 120 [zR (some q), zI (nI k), zI (nI i)] (c, n, a, b, v, f, r) (c, n, a, b, v, f, r) (some (zI (bI (metF r g k mk i mi)))) := by
  refine rFun.of (d := d + 4) (T := tb_120) (L := [some (zR (some q)), some (zI (nI k)), some (zI (nI i)), none, none]) (Nat.le_of_ble_eq_true rfl) rfl rfl ?_
  refine r_ald rfl rfl ?_
  refine r_ild rfl rfl ?_
  refine r_ild rfl rfl ?_
  refine r_call (as := [zR (some q), zI (nI i), zI (nI k)]) (r := []) (s' := (c, n, a, b, v, f, r)) (v := some (zI (ordF r i mi k mk))) rfl rfl rfl (Nat.le_of_ble_eq_true rfl) (Or.inr ⟨rfl, rfl, _, rfl⟩) (c_order (by omega) (by omega) (by omega) (by omega) hI hK) ?_
  refine r_ist (ls' := [some (zR (some q)), some (zI (nI k)), some (zI (nI i)), some (zI (ordF r i mi k mk)), none]) rfl (Nat.le_of_ble_eq_true rfl) rfl ?_
  refine r_ald rfl rfl ?_
  refine r_get rfl rfl ?_
  refine r_ild rfl rfl ?_
  refine r_ialdN (k0 := 11) rfl rfl (by omega) (by decide) ?_
  refine r_ico (x := (nI 3)) rfl rfl ?_
  refine r_cmp rfl (fun h_1 => ?_) (fun h_1 => ?_)
  · replace h_1 : ¬ (r 11 k) = (nI 3) := h_1
    refine r_ico (x := (nI 0)) rfl rfl ?_
    refine r_ist (ls' := [some (zR (some q)), some (zI (nI k)), some (zI (nI i)), some (zI (ordF r i mi k mk)), some (zI (nI 0))]) rfl (Nat.le_of_ble_eq_true rfl) rfl ?_
    refine r_ald rfl rfl ?_
    refine r_get rfl rfl ?_
    refine r_ild rfl rfl ?_
    refine r_ialdN (k0 := 10) rfl rfl (by omega) (by decide) ?_
    refine r_top (y := (nI g)) hG ?_
    rcases (show g = 0 ∨ g = 1 ∨ g = 2 ∨ g = 3 ∨ g = 4 ∨ g = 5 ∨ g = 6 ∨ g = 7 by omega) with h9 | h9 | h9 | h9 | h9 | h9 | h9 | h9 <;> subst h9
    · refine r_sw (t := 72) rfl (by decide +kernel) ?_
      refine r_ico (x := (nI 1)) rfl rfl ?_
      refine r_ret rfl ⟨_, rfl, Or.inr rfl⟩ ?_
      exact ⟨rfl, ret_t (by simp [metF, *])⟩
    · refine r_sw (t := 74) rfl (by decide +kernel) ?_
      refine r_ild rfl rfl ?_
      refine r_if rfl (fun h_2 => ?_) (fun h_2 => ?_)
      · replace h_2 : (ordF r i mi k mk) < 0 := h_2
        refine r_ico (x := (nI 0)) rfl rfl ?_
        refine r_ret rfl ⟨_, rfl, Or.inl rfl⟩ ?_
        exact ⟨rfl, ret_f (by simp [metF, *])⟩
      · replace h_2 : ¬ ((ordF r i mi k mk) < 0) := h_2
        refine r_ald rfl rfl ?_
        refine r_ild rfl rfl ?_
        refine r_ild rfl rfl ?_
        refine r_ico (x := (nI 1)) rfl rfl ?_
        refine r_call (as := [zR (some q), zI (nI i), zI (nI k), zI (nI 1)]) (r := []) (s' := (c, n, a, b, v, f, r)) (v := some (zI (bI (bnF r i k true)))) rfl rfl rfl (Nat.le_of_ble_eq_true rfl) (Or.inr ⟨rfl, rfl, _, rfl⟩) (c_isBelowNext (by omega) (by omega)) ?_
        refine r_ifB0 rfl (fun h_3 => ?_) (fun h_3 => ?_)
        · refine r_ico (x := (nI 0)) rfl rfl ?_
          refine r_ret rfl ⟨_, rfl, Or.inl rfl⟩ ?_
          exact ⟨rfl, ret_f (by simp [metF, *])⟩
        · refine r_ico (x := (nI 1)) rfl rfl ?_
          refine r_go rfl ?_
          refine r_ret rfl ⟨_, rfl, Or.inr rfl⟩ ?_
          exact ⟨rfl, ret_t (by simp [metF, *])⟩
    · refine r_sw (t := 94) rfl (by decide +kernel) ?_
      refine r_ild rfl rfl ?_
      refine r_if rfl (fun h_4 => ?_) (fun h_4 => ?_)
      · replace h_4 : (ordF r i mi k mk) < 0 := h_4
        refine r_ico (x := (nI 0)) rfl rfl ?_
        refine r_ret rfl ⟨_, rfl, Or.inl rfl⟩ ?_
        exact ⟨rfl, ret_f (by simp [metF, *])⟩
      · replace h_4 : ¬ ((ordF r i mi k mk) < 0) := h_4
        refine r_ald rfl rfl ?_
        refine r_ild rfl rfl ?_
        refine r_ild rfl rfl ?_
        refine r_ico (x := (nI 0)) rfl rfl ?_
        refine r_call (as := [zR (some q), zI (nI i), zI (nI k), zI (nI 0)]) (r := []) (s' := (c, n, a, b, v, f, r)) (v := some (zI (bI (bnF r i k false)))) rfl rfl rfl (Nat.le_of_ble_eq_true rfl) (Or.inr ⟨rfl, rfl, _, rfl⟩) (c_isBelowNext (by omega) (by omega)) ?_
        refine r_ifB0 rfl (fun h_5 => ?_) (fun h_5 => ?_)
        · refine r_ico (x := (nI 0)) rfl rfl ?_
          refine r_ret rfl ⟨_, rfl, Or.inl rfl⟩ ?_
          exact ⟨rfl, ret_f (by simp [metF, *])⟩
        · refine r_ico (x := (nI 1)) rfl rfl ?_
          refine r_go rfl ?_
          refine r_ret rfl ⟨_, rfl, Or.inr rfl⟩ ?_
          exact ⟨rfl, ret_t (by simp [metF, *])⟩
    · refine r_sw (t := 114) rfl (by decide +kernel) ?_
      refine r_ild rfl rfl ?_
      refine r_ifN (by omega) rfl (fun h_6 => ?_) (fun h_6 => ?_)
      · replace h_6 : 0 = 0 := h_6
        refine r_ild rfl rfl ?_
        refine r_if rfl (fun h_7 => ?_) (fun h_7 => ?_)
        · replace h_7 : (ordF r i mi k mk) < 0 := h_7
          refine r_ico (x := (nI 0)) rfl rfl ?_
          refine r_ret rfl ⟨_, rfl, Or.inl rfl⟩ ?_
          exact ⟨rfl, ret_f (by simp [metF, *])⟩
        · replace h_7 : ¬ ((ordF r i mi k mk) < 0) := h_7
          refine r_ald rfl rfl ?_
          refine r_ild rfl rfl ?_
          refine r_ild rfl rfl ?_
          refine r_ico (x := (nI 0)) rfl rfl ?_
          refine r_call (as := [zR (some q), zI (nI i), zI (nI k), zI (nI 0)]) (r := []) (s' := (c, n, a, b, v, f, r)) (v := some (zI (bI (bnF r i k false)))) rfl rfl rfl (Nat.le_of_ble_eq_true rfl) (Or.inr ⟨rfl, rfl, _, rfl⟩) (c_isBelowNext (by omega) (by omega)) ?_
          refine r_ifB0 rfl (fun h_8 => ?_) (fun h_8 => ?_)
          · refine r_ico (x := (nI 0)) rfl rfl ?_
            refine r_ret rfl ⟨_, rfl, Or.inl rfl⟩ ?_
            exact ⟨rfl, ret_f (by simp [metF, *])⟩
          · refine r_ico (x := (nI 1)) rfl rfl ?_
            refine r_go rfl ?_
            refine r_ret rfl ⟨_, rfl, Or.inr rfl⟩ ?_
            exact ⟨rfl, ret_t (by simp [metF, *])⟩
      · replace h_6 : ¬ (0 = 0) := h_6
        omega
    · refine r_sw (t := 151) rfl (by decide +kernel) ?_
      refine r_ild rfl rfl ?_
      refine r_ifN (by omega) rfl (fun h_9 => ?_) (fun h_9 => ?_)
      · replace h_9 : 0 = 0 := h_9
        refine r_ald rfl rfl ?_
        refine r_ild rfl rfl ?_
        refine r_ild rfl rfl ?_
        refine r_ico (x := (nI 0)) rfl rfl ?_
        refine r_call (as := [zR (some q), zI (nI i), zI (nI k), zI (nI 0)]) (r := []) (s' := (c, n, a, b, v, f, r)) (v := some (zI (bI (bnF r i k false)))) rfl rfl rfl (Nat.le_of_ble_eq_true rfl) (Or.inr ⟨rfl, rfl, _, rfl⟩) (c_isBelowNext (by omega) (by omega)) ?_
        refine r_ifB1 rfl (fun h_10 => ?_) (fun h_10 => ?_)
        · refine r_ico (x := (nI 0)) rfl rfl ?_
          refine r_ret rfl ⟨_, rfl, Or.inl rfl⟩ ?_
          exact ⟨rfl, ret_f (by simp [metF, *])⟩
        · refine r_ico (x := (nI 1)) rfl rfl ?_
          refine r_go rfl ?_
          refine r_ret rfl ⟨_, rfl, Or.inr rfl⟩ ?_
          exact ⟨rfl, ret_t (by simp [metF, *])⟩
      · replace h_9 : ¬ (0 = 0) := h_9
        omega
    · refine r_sw (t := 184) rfl (by decide +kernel) ?_
      refine r_ild rfl rfl ?_
      refine r_if rfl (fun h_11 => ?_) (fun h_11 => ?_)
      · replace h_11 : (ordF r i mi k mk) < 0 := h_11
        refine r_ico (x := (nI 0)) rfl rfl ?_
        refine r_ret rfl ⟨_, rfl, Or.inl rfl⟩ ?_
        exact ⟨rfl, ret_f (by simp [metF, *])⟩
      · replace h_11 : ¬ ((ordF r i mi k mk) < 0) := h_11
        refine r_ico (x := (nI 1)) rfl rfl ?_
        refine r_go rfl ?_
        refine r_ret rfl ⟨_, rfl, Or.inr rfl⟩ ?_
        exact ⟨rfl, ret_t (by simp [metF, *])⟩
    · refine r_sw (t := 194) rfl (by decide +kernel) ?_
      refine r_ild rfl rfl ?_
      refine r_if rfl (fun h_12 => ?_) (fun h_12 => ?_)
      · replace h_12 : 0 ≤ (ordF r i mi k mk) := h_12
        refine r_ico (x := (nI 0)) rfl rfl ?_
        refine r_ret rfl ⟨_, rfl, Or.inl rfl⟩ ?_
        exact ⟨rfl, ret_f (by simp [metF, *])⟩
      · replace h_12 : ¬ (0 ≤ (ordF r i mi k mk)) := h_12
        refine r_ico (x := (nI 1)) rfl rfl ?_
        refine r_go rfl ?_
        refine r_ret rfl ⟨_, rfl, Or.inr rfl⟩ ?_
        exact ⟨rfl, ret_t (by simp [metF, *])⟩
    · refine r_sw (t := 204) rfl (by decide +kernel) ?_
      refine r_ild rfl rfl ?_
      refine r_ifN (by omega) rfl (fun h_13 => ?_) (fun h_13 => ?_)
      · replace h_13 : 0 = 0 := h_13
        refine r_ald rfl rfl ?_
        refine r_ild rfl rfl ?_
        refine r_ild rfl rfl ?_
        refine r_ico (x := (nI 0)) rfl rfl ?_
        refine r_call (as := [zR (some q), zI (nI i), zI (nI k), zI (nI 0)]) (r := []) (s' := (c, n, a, b, v, f, r)) (v := some (zI (bI (bnF r i k false)))) rfl rfl rfl (Nat.le_of_ble_eq_true rfl) (Or.inr ⟨rfl, rfl, _, rfl⟩) (c_isBelowNext (by omega) (by omega)) ?_
        refine r_ret rfl ⟨_, rfl, bI_01 _⟩ ?_
        exact ⟨rfl, by simp [metF, *]⟩
      · replace h_13 : ¬ (0 = 0) := h_13
        omega
  · replace h_1 : (r 11 k) = (nI 3) := Decidable.of_not_not h_1
    refine r_ico (x := (nI 1)) rfl rfl ?_
    refine r_go rfl ?_
    refine r_ist (ls' := [some (zR (some q)), some (zI (nI k)), some (zI (nI i)), some (zI (ordF r i mi k mk)), some (zI (nI 1))]) rfl (Nat.le_of_ble_eq_true rfl) rfl ?_
    refine r_ald rfl rfl ?_
    refine r_get rfl rfl ?_
    refine r_ild rfl rfl ?_
    refine r_ialdN (k0 := 10) rfl rfl (by omega) (by decide) ?_
    refine r_top (y := (nI g)) hG ?_
    rcases (show g = 0 ∨ g = 1 ∨ g = 2 ∨ g = 3 ∨ g = 4 ∨ g = 5 ∨ g = 6 ∨ g = 7 by omega) with h9 | h9 | h9 | h9 | h9 | h9 | h9 | h9 <;> subst h9
    · refine r_sw (t := 72) rfl (by decide +kernel) ?_
      refine r_ico (x := (nI 1)) rfl rfl ?_
      refine r_ret rfl ⟨_, rfl, Or.inr rfl⟩ ?_
      exact ⟨rfl, ret_t (by simp [metF, *])⟩
    · refine r_sw (t := 74) rfl (by decide +kernel) ?_
      refine r_ild rfl rfl ?_
      refine r_if rfl (fun h_14 => ?_) (fun h_14 => ?_)
      · replace h_14 : (ordF r i mi k mk) < 0 := h_14
        refine r_ico (x := (nI 0)) rfl rfl ?_
        refine r_ret rfl ⟨_, rfl, Or.inl rfl⟩ ?_
        exact ⟨rfl, ret_f (by simp [metF, *])⟩
      · replace h_14 : ¬ ((ordF r i mi k mk) < 0) := h_14
        refine r_ald rfl rfl ?_
        refine r_ild rfl rfl ?_
        refine r_ild rfl rfl ?_
        refine r_ico (x := (nI 1)) rfl rfl ?_
        refine r_call (as := [zR (some q), zI (nI i), zI (nI k), zI (nI 1)]) (r := []) (s' := (c, n, a, b, v, f, r)) (v := some (zI (bI (bnF r i k true)))) rfl rfl rfl (Nat.le_of_ble_eq_true rfl) (Or.inr ⟨rfl, rfl, _, rfl⟩) (c_isBelowNext (by omega) (by omega)) ?_
        refine r_ifB0 rfl (fun h_15 => ?_) (fun h_15 => ?_)
        · refine r_ico (x := (nI 0)) rfl rfl ?_
          refine r_ret rfl ⟨_, rfl, Or.inl rfl⟩ ?_
          exact ⟨rfl, ret_f (by simp [metF, *])⟩
        · refine r_ico (x := (nI 1)) rfl rfl ?_
          refine r_go rfl ?_
          refine r_ret rfl ⟨_, rfl, Or.inr rfl⟩ ?_
          exact ⟨rfl, ret_t (by simp [metF, *])⟩
    · refine r_sw (t := 94) rfl (by decide +kernel) ?_
      refine r_ild rfl rfl ?_
      refine r_if rfl (fun h_16 => ?_) (fun h_16 => ?_)
      · replace h_16 : (ordF r i mi k mk) < 0 := h_16
        refine r_ico (x := (nI 0)) rfl rfl ?_
        refine r_ret rfl ⟨_, rfl, Or.inl rfl⟩ ?_
        exact ⟨rfl, ret_f (by simp [metF, *])⟩
      · replace h_16 : ¬ ((ordF r i mi k mk) < 0) := h_16
        refine r_ald rfl rfl ?_
        refine r_ild rfl rfl ?_
        refine r_ild rfl rfl ?_
        refine r_ico (x := (nI 0)) rfl rfl ?_
        refine r_call (as := [zR (some q), zI (nI i), zI (nI k), zI (nI 0)]) (r := []) (s' := (c, n, a, b, v, f, r)) (v := some (zI (bI (bnF r i k false)))) rfl rfl rfl (Nat.le_of_ble_eq_true rfl) (Or.inr ⟨rfl, rfl, _, rfl⟩) (c_isBelowNext (by omega) (by omega)) ?_
        refine r_ifB0 rfl (fun h_17 => ?_) (fun h_17 => ?_)
        · refine r_ico (x := (nI 0)) rfl rfl ?_
          refine r_ret rfl ⟨_, rfl, Or.inl rfl⟩ ?_
          exact ⟨rfl, ret_f (by simp [metF, *])⟩
        · refine r_ico (x := (nI 1)) rfl rfl ?_
          refine r_go rfl ?_
          refine r_ret rfl ⟨_, rfl, Or.inr rfl⟩ ?_
          exact ⟨rfl, ret_t (by simp [metF, *])⟩
    · refine r_sw (t := 114) rfl (by decide +kernel) ?_
      refine r_ild rfl rfl ?_
      refine r_ifN (by omega) rfl (fun h_18 => ?_) (fun h_18 => ?_)
      · replace h_18 : 1 = 0 := h_18
        omega
      · replace h_18 : ¬ (1 = 0) := h_18
        refine r_ild rfl rfl ?_
        refine r_if rfl (fun h_19 => ?_) (fun h_19 => ?_)
        · replace h_19 : ¬ (ordF r i mi k mk) = 0 := h_19
          refine r_ico (x := (nI 0)) rfl rfl ?_
          refine r_go rfl ?_
          refine r_ret rfl ⟨_, rfl, Or.inl rfl⟩ ?_
          exact ⟨rfl, ret_f (by simp [metF, *])⟩
        · replace h_19 : (ordF r i mi k mk) = 0 := Decidable.of_not_not h_19
          refine r_ico (x := (nI 1)) rfl rfl ?_
          refine r_go rfl ?_
          refine r_ret rfl ⟨_, rfl, Or.inr rfl⟩ ?_
          exact ⟨rfl, ret_t (by simp [metF, *])⟩
    · refine r_sw (t := 151) rfl (by decide +kernel) ?_
      refine r_ild rfl rfl ?_
      refine r_ifN (by omega) rfl (fun h_20 => ?_) (fun h_20 => ?_)
      · replace h_20 : 1 = 0 := h_20
        omega
      · replace h_20 : ¬ (1 = 0) := h_20
        refine r_ild rfl rfl ?_
        refine r_if rfl (fun h_21 => ?_) (fun h_21 => ?_)
        · replace h_21 : (ordF r i mi k mk) ≤ 0 := h_21
          refine r_ico (x := (nI 0)) rfl rfl ?_
          refine r_go rfl ?_
          refine r_ret rfl ⟨_, rfl, Or.inl rfl⟩ ?_
          exact ⟨rfl, ret_f (by simp [metF, *])⟩
        · replace h_21 : ¬ ((ordF r i mi k mk) ≤ 0) := h_21
          refine r_ico (x := (nI 1)) rfl rfl ?_
          refine r_go rfl ?_
          refine r_ret rfl ⟨_, rfl, Or.inr rfl⟩ ?_
          exact ⟨rfl, ret_t (by simp [metF, *])⟩
    · refine r_sw (t := 184) rfl (by decide +kernel) ?_
      refine r_ild rfl rfl ?_
      refine r_if rfl (fun h_22 => ?_) (fun h_22 => ?_)
      · replace h_22 : (ordF r i mi k mk) < 0 := h_22
        refine r_ico (x := (nI 0)) rfl rfl ?_
        refine r_ret rfl ⟨_, rfl, Or.inl rfl⟩ ?_
        exact ⟨rfl, ret_f (by simp [metF, *])⟩
      · replace h_22 : ¬ ((ordF r i mi k mk) < 0) := h_22
        refine r_ico (x := (nI 1)) rfl rfl ?_
        refine r_go rfl ?_
        refine r_ret rfl ⟨_, rfl, Or.inr rfl⟩ ?_
        exact ⟨rfl, ret_t (by simp [metF, *])⟩
    · refine r_sw (t := 194) rfl (by decide +kernel) ?_
      refine r_ild rfl rfl ?_
      refine r_if rfl (fun h_23 => ?_) (fun h_23 => ?_)
      · replace h_23 : 0 ≤ (ordF r i mi k mk) := h_23
        refine r_ico (x := (nI 0)) rfl rfl ?_
        refine r_ret rfl ⟨_, rfl, Or.inl rfl⟩ ?_
        exact ⟨rfl, ret_f (by simp [metF, *])⟩
      · replace h_23 : ¬ (0 ≤ (ordF r i mi k mk)) := h_23
        refine r_ico (x := (nI 1)) rfl rfl ?_
        refine r_go rfl ?_
        refine r_ret rfl ⟨_, rfl, Or.inr rfl⟩ ?_
        exact ⟨rfl, ret_t (by simp [metF, *])⟩
    · refine r_sw (t := 204) rfl (by decide +kernel) ?_
      refine r_ild rfl rfl ?_
      refine r_ifN (by omega) rfl (fun h_24 => ?_) (fun h_24 => ?_)
      · replace h_24 : 1 = 0 := h_24
        omega
      · replace h_24 : ¬ (1 = 0) := h_24
        refine r_ild rfl rfl ?_
        refine r_if rfl (fun h_25 => ?_) (fun h_25 => ?_)
        · replace h_25 : 0 < (ordF r i mi k mk) := h_25
          refine r_ico (x := (nI 0)) rfl rfl ?_
          refine r_go rfl ?_
          refine r_ret rfl ⟨_, rfl, Or.inl rfl⟩ ?_
          exact ⟨rfl, ret_f (by simp [metF, *])⟩
        · replace h_25 : ¬ (0 < (ordF r i mi k mk)) := h_25
          refine r_ico (x := (nI 1)) rfl rfl ?_
          refine r_go rfl ?_
          refine r_ret rfl ⟨_, rfl, Or.inr rfl⟩ ?_
          exact ⟨rfl, ret_t (by simp [metF, *])⟩
