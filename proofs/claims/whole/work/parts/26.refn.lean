/-- the words of two rows, from p and s on -/
def owF (r : rA) (ra ma rb mb : Nat) : Nat → Nat → Nat → Int32
  | 0, _, _ => nI 0
  | j + 1, p, s => if p < ma ∧ s < mb then (if cwR r ra ma p rb mb s = 0 then owF r ra ma rb mb j (spn noPt (rw9 r ra) ma p + 1) (spn noPt (rw9 r rb) mb s + 1) else cwR r ra ma p rb mb s) else if ma ≤ p then (if mb ≤ s then nI 0 else -1) else nI 1
/-- the precedence of two rows -/
def ordF (r : rA) (ra ma rb mb : Nat) : Int32 :=
  if r 5 ra = r 5 rb ∧ r 6 ra = r 6 rb ∧ r 7 ra = r 7 rb then (if ma = 0 ∨ mb = 0 then (if ma = mb then nI 0 else if ma = 0 then nI 1 else -1) else owF r ra ma rb mb (ma + 1 + 1) 0 0) else oT r ra (r 5 rb) (r 6 rb) (r 7 rb)
set_option maxHeartbeats 2000000 in
theorem l_ord {q : Nat} {qa : Nat → Nat} {d c n a v f ra rb ma mb : Nat} {y : Int32} {b : Bool} {r : rA} {Q : rS → (Option zV ⊕ Nat) → Prop} (hra : ra < 900) (hrb : rb < 900) (hma : ma ≤ 24) (hmb : mb ≤ 24) (hA : r 8 ra = nI ma) (hB : r 8 rb = nI mb) : ∀ (j p s : Nat) (x7 x8 : Option zV), ma + 1 < p + j → p ≤ ma + 1 → s ≤ mb + 1 → Q (c, n, a, b, v, f, r) (.inl (some (zI (owF r ra ma rb mb j p s)))) → rEv q qa (d + 3) tb_117 Q 141 [some (zR (some q)), some (zI (nI ra)), some (zI (nI rb)), some (zI (y)), some (zI (nI 1)), some (zI (nI p)), some (zI (nI s)), x7, x8] [] (c, n, a, b, v, f, r) := by
  intro j
  induction j with
  | zero =>
    intro p s x7 x8 h1 h2 h3 hQ
    omega
  | succ j ih =>
    intro p s x7 x8 h1 h2 h3 hQ
    rw [owF] at hQ
    refine r_ild rfl rfl ?_
    refine r_ald rfl rfl ?_
    refine r_get rfl rfl ?_
    refine r_ild rfl rfl ?_
    refine r_ialdN (k0 := 8) rfl rfl (by omega) (by decide) ?_
    refine r_top (y := (nI ma)) hA ?_
    refine r_cmpN (by omega) (by omega) rfl (fun h_1 => ?_) (fun h_1 => ?_)
    · replace h_1 : ma ≤ p := h_1
      rw [if_neg (by omega)] at hQ
      refine r_ild rfl rfl ?_
      refine r_ald rfl rfl ?_
      refine r_get rfl rfl ?_
      refine r_ild rfl rfl ?_
      refine r_ialdN (k0 := 8) rfl rfl (by omega) (by decide) ?_
      refine r_top (y := (nI ma)) hA ?_
      refine r_cmpN (by omega) (by omega) rfl (fun h_2 => ?_) (fun h_2 => ?_)
      · replace h_2 : p < ma := h_2
        refine r_ico (x := (nI 0)) rfl rfl ?_
        refine r_ist (ls' := [some (zR (some q)), some (zI (nI ra)), some (zI (nI rb)), some (zI (y)), some (zI (nI 1)), some (zI (nI p)), some (zI (nI s)), some (zI (nI 0)), x8]) rfl (Nat.le_of_ble_eq_true rfl) rfl ?_
        refine r_ild rfl rfl ?_
        refine r_ald rfl rfl ?_
        refine r_get rfl rfl ?_
        refine r_ild rfl rfl ?_
        refine r_ialdN (k0 := 8) rfl rfl (by omega) (by decide) ?_
        refine r_top (y := (nI mb)) hB ?_
        refine r_cmpN (by omega) (by omega) rfl (fun h_3 => ?_) (fun h_3 => ?_)
        · replace h_3 : s < mb := h_3
          refine r_ico (x := (nI 0)) rfl rfl ?_
          refine r_ist (ls' := [some (zR (some q)), some (zI (nI ra)), some (zI (nI rb)), some (zI (y)), some (zI (nI 1)), some (zI (nI p)), some (zI (nI s)), some (zI (nI 0)), some (zI (nI 0))]) rfl (Nat.le_of_ble_eq_true rfl) rfl ?_
          refine r_ild rfl rfl ?_
          refine r_ild rfl rfl ?_
          refine r_cmpN (by omega) (by omega) rfl (fun h_4 => ?_) (fun h_4 => ?_)
          · replace h_4 : ¬ 0 = 0 := h_4
            omega
          · replace h_4 : 0 = 0 := Decidable.of_not_not h_4
            refine r_ico (x := (nI 0)) rfl rfl ?_
            refine r_go rfl ?_
            refine r_ret rfl ⟨_, rfl⟩ ?_
            first | (rw [if_pos (by omega), if_pos (by omega)] at hQ; exact hQ) | omega
        · replace h_3 := Nat.not_lt.mp h_3
          refine r_ico (x := (nI 1)) rfl rfl ?_
          refine r_go rfl ?_
          refine r_ist (ls' := [some (zR (some q)), some (zI (nI ra)), some (zI (nI rb)), some (zI (y)), some (zI (nI 1)), some (zI (nI p)), some (zI (nI s)), some (zI (nI 0)), some (zI (nI 1))]) rfl (Nat.le_of_ble_eq_true rfl) rfl ?_
          refine r_ild rfl rfl ?_
          refine r_ild rfl rfl ?_
          refine r_cmpN (by omega) (by omega) rfl (fun h_5 => ?_) (fun h_5 => ?_)
          · replace h_5 : ¬ 0 = 1 := h_5
            refine r_ild rfl rfl ?_
            refine r_ifN (by omega) rfl (fun h_6 => ?_) (fun h_6 => ?_)
            · replace h_6 : 0 = 0 := h_6
              refine r_ico (x := (nI 1)) rfl rfl ?_
              refine r_ret rfl ⟨_, rfl⟩ ?_
              first | (rw [if_neg (by omega)] at hQ; exact hQ) | omega
            · replace h_6 : ¬ (0 = 0) := h_6
              omega
          · replace h_5 : 0 = 1 := Decidable.of_not_not h_5
            omega
      · replace h_2 := Nat.not_lt.mp h_2
        refine r_ico (x := (nI 1)) rfl rfl ?_
        refine r_go rfl ?_
        refine r_ist (ls' := [some (zR (some q)), some (zI (nI ra)), some (zI (nI rb)), some (zI (y)), some (zI (nI 1)), some (zI (nI p)), some (zI (nI s)), some (zI (nI 1)), x8]) rfl (Nat.le_of_ble_eq_true rfl) rfl ?_
        refine r_ild rfl rfl ?_
        refine r_ald rfl rfl ?_
        refine r_get rfl rfl ?_
        refine r_ild rfl rfl ?_
        refine r_ialdN (k0 := 8) rfl rfl (by omega) (by decide) ?_
        refine r_top (y := (nI mb)) hB ?_
        refine r_cmpN (by omega) (by omega) rfl (fun h_7 => ?_) (fun h_7 => ?_)
        · replace h_7 : s < mb := h_7
          refine r_ico (x := (nI 0)) rfl rfl ?_
          refine r_ist (ls' := [some (zR (some q)), some (zI (nI ra)), some (zI (nI rb)), some (zI (y)), some (zI (nI 1)), some (zI (nI p)), some (zI (nI s)), some (zI (nI 1)), some (zI (nI 0))]) rfl (Nat.le_of_ble_eq_true rfl) rfl ?_
          refine r_ild rfl rfl ?_
          refine r_ild rfl rfl ?_
          refine r_cmpN (by omega) (by omega) rfl (fun h_8 => ?_) (fun h_8 => ?_)
          · replace h_8 : ¬ 1 = 0 := h_8
            refine r_ild rfl rfl ?_
            refine r_ifN (by omega) rfl (fun h_9 => ?_) (fun h_9 => ?_)
            · replace h_9 : 1 = 0 := h_9
              omega
            · replace h_9 : ¬ (1 = 0) := h_9
              refine r_ico (x := (-1)) rfl rfl ?_
              refine r_go rfl ?_
              refine r_ret rfl ⟨_, rfl⟩ ?_
              first | (rw [if_pos (by omega), if_neg (by omega)] at hQ; exact hQ) | omega
          · replace h_8 : 1 = 0 := Decidable.of_not_not h_8
            omega
        · replace h_7 := Nat.not_lt.mp h_7
          refine r_ico (x := (nI 1)) rfl rfl ?_
          refine r_go rfl ?_
          refine r_ist (ls' := [some (zR (some q)), some (zI (nI ra)), some (zI (nI rb)), some (zI (y)), some (zI (nI 1)), some (zI (nI p)), some (zI (nI s)), some (zI (nI 1)), some (zI (nI 1))]) rfl (Nat.le_of_ble_eq_true rfl) rfl ?_
          refine r_ild rfl rfl ?_
          refine r_ild rfl rfl ?_
          refine r_cmpN (by omega) (by omega) rfl (fun h_10 => ?_) (fun h_10 => ?_)
          · replace h_10 : ¬ 1 = 1 := h_10
            omega
          · replace h_10 : 1 = 1 := Decidable.of_not_not h_10
            refine r_ico (x := (nI 0)) rfl rfl ?_
            refine r_go rfl ?_
            refine r_ret rfl ⟨_, rfl⟩ ?_
            first | (rw [if_pos (by omega), if_pos (by omega)] at hQ; exact hQ) | omega
    · replace h_1 := Nat.not_le.mp h_1
      refine r_ild rfl rfl ?_
      refine r_ald rfl rfl ?_
      refine r_get rfl rfl ?_
      refine r_ild rfl rfl ?_
      refine r_ialdN (k0 := 8) rfl rfl (by omega) (by decide) ?_
      refine r_top (y := (nI mb)) hB ?_
      refine r_cmpN (by omega) (by omega) rfl (fun h_11 => ?_) (fun h_11 => ?_)
      · replace h_11 : mb ≤ s := h_11
        rw [if_neg (by omega)] at hQ
        refine r_ild rfl rfl ?_
        refine r_ald rfl rfl ?_
        refine r_get rfl rfl ?_
        refine r_ild rfl rfl ?_
        refine r_ialdN (k0 := 8) rfl rfl (by omega) (by decide) ?_
        refine r_top (y := (nI ma)) hA ?_
        refine r_cmpN (by omega) (by omega) rfl (fun h_12 => ?_) (fun h_12 => ?_)
        · replace h_12 : p < ma := h_12
          refine r_ico (x := (nI 0)) rfl rfl ?_
          refine r_ist (ls' := [some (zR (some q)), some (zI (nI ra)), some (zI (nI rb)), some (zI (y)), some (zI (nI 1)), some (zI (nI p)), some (zI (nI s)), some (zI (nI 0)), x8]) rfl (Nat.le_of_ble_eq_true rfl) rfl ?_
          refine r_ild rfl rfl ?_
          refine r_ald rfl rfl ?_
          refine r_get rfl rfl ?_
          refine r_ild rfl rfl ?_
          refine r_ialdN (k0 := 8) rfl rfl (by omega) (by decide) ?_
          refine r_top (y := (nI mb)) hB ?_
          refine r_cmpN (by omega) (by omega) rfl (fun h_13 => ?_) (fun h_13 => ?_)
          · replace h_13 : s < mb := h_13
            refine r_ico (x := (nI 0)) rfl rfl ?_
            refine r_ist (ls' := [some (zR (some q)), some (zI (nI ra)), some (zI (nI rb)), some (zI (y)), some (zI (nI 1)), some (zI (nI p)), some (zI (nI s)), some (zI (nI 0)), some (zI (nI 0))]) rfl (Nat.le_of_ble_eq_true rfl) rfl ?_
            refine r_ild rfl rfl ?_
            refine r_ild rfl rfl ?_
            refine r_cmpN (by omega) (by omega) rfl (fun h_14 => ?_) (fun h_14 => ?_)
            · replace h_14 : ¬ 0 = 0 := h_14
              omega
            · replace h_14 : 0 = 0 := Decidable.of_not_not h_14
              refine r_ico (x := (nI 0)) rfl rfl ?_
              refine r_go rfl ?_
              refine r_ret rfl ⟨_, rfl⟩ ?_
              first | (rw [if_pos (by omega), if_pos (by omega)] at hQ; exact hQ) | omega
          · replace h_13 := Nat.not_lt.mp h_13
            refine r_ico (x := (nI 1)) rfl rfl ?_
            refine r_go rfl ?_
            refine r_ist (ls' := [some (zR (some q)), some (zI (nI ra)), some (zI (nI rb)), some (zI (y)), some (zI (nI 1)), some (zI (nI p)), some (zI (nI s)), some (zI (nI 0)), some (zI (nI 1))]) rfl (Nat.le_of_ble_eq_true rfl) rfl ?_
            refine r_ild rfl rfl ?_
            refine r_ild rfl rfl ?_
            refine r_cmpN (by omega) (by omega) rfl (fun h_15 => ?_) (fun h_15 => ?_)
            · replace h_15 : ¬ 0 = 1 := h_15
              refine r_ild rfl rfl ?_
              refine r_ifN (by omega) rfl (fun h_16 => ?_) (fun h_16 => ?_)
              · replace h_16 : 0 = 0 := h_16
                refine r_ico (x := (nI 1)) rfl rfl ?_
                refine r_ret rfl ⟨_, rfl⟩ ?_
                first | (rw [if_neg (by omega)] at hQ; exact hQ) | omega
              · replace h_16 : ¬ (0 = 0) := h_16
                omega
            · replace h_15 : 0 = 1 := Decidable.of_not_not h_15
              omega
        · replace h_12 := Nat.not_lt.mp h_12
          refine r_ico (x := (nI 1)) rfl rfl ?_
          refine r_go rfl ?_
          refine r_ist (ls' := [some (zR (some q)), some (zI (nI ra)), some (zI (nI rb)), some (zI (y)), some (zI (nI 1)), some (zI (nI p)), some (zI (nI s)), some (zI (nI 1)), x8]) rfl (Nat.le_of_ble_eq_true rfl) rfl ?_
          refine r_ild rfl rfl ?_
          refine r_ald rfl rfl ?_
          refine r_get rfl rfl ?_
          refine r_ild rfl rfl ?_
          refine r_ialdN (k0 := 8) rfl rfl (by omega) (by decide) ?_
          refine r_top (y := (nI mb)) hB ?_
          refine r_cmpN (by omega) (by omega) rfl (fun h_17 => ?_) (fun h_17 => ?_)
          · replace h_17 : s < mb := h_17
            refine r_ico (x := (nI 0)) rfl rfl ?_
            refine r_ist (ls' := [some (zR (some q)), some (zI (nI ra)), some (zI (nI rb)), some (zI (y)), some (zI (nI 1)), some (zI (nI p)), some (zI (nI s)), some (zI (nI 1)), some (zI (nI 0))]) rfl (Nat.le_of_ble_eq_true rfl) rfl ?_
            refine r_ild rfl rfl ?_
            refine r_ild rfl rfl ?_
            refine r_cmpN (by omega) (by omega) rfl (fun h_18 => ?_) (fun h_18 => ?_)
            · replace h_18 : ¬ 1 = 0 := h_18
              refine r_ild rfl rfl ?_
              refine r_ifN (by omega) rfl (fun h_19 => ?_) (fun h_19 => ?_)
              · replace h_19 : 1 = 0 := h_19
                omega
              · replace h_19 : ¬ (1 = 0) := h_19
                refine r_ico (x := (-1)) rfl rfl ?_
                refine r_go rfl ?_
                refine r_ret rfl ⟨_, rfl⟩ ?_
                first | (rw [if_pos (by omega), if_neg (by omega)] at hQ; exact hQ) | omega
            · replace h_18 : 1 = 0 := Decidable.of_not_not h_18
              omega
          · replace h_17 := Nat.not_lt.mp h_17
            refine r_ico (x := (nI 1)) rfl rfl ?_
            refine r_go rfl ?_
            refine r_ist (ls' := [some (zR (some q)), some (zI (nI ra)), some (zI (nI rb)), some (zI (y)), some (zI (nI 1)), some (zI (nI p)), some (zI (nI s)), some (zI (nI 1)), some (zI (nI 1))]) rfl (Nat.le_of_ble_eq_true rfl) rfl ?_
            refine r_ild rfl rfl ?_
            refine r_ild rfl rfl ?_
            refine r_cmpN (by omega) (by omega) rfl (fun h_20 => ?_) (fun h_20 => ?_)
            · replace h_20 : ¬ 1 = 1 := h_20
              omega
            · replace h_20 : 1 = 1 := Decidable.of_not_not h_20
              refine r_ico (x := (nI 0)) rfl rfl ?_
              refine r_go rfl ?_
              refine r_ret rfl ⟨_, rfl⟩ ?_
              first | (rw [if_pos (by omega), if_pos (by omega)] at hQ; exact hQ) | omega
      · replace h_11 := Nat.not_le.mp h_11
        rw [if_pos ⟨by omega, by omega⟩] at hQ
        refine r_ald rfl rfl ?_
        refine r_ild rfl rfl ?_
        refine r_ild rfl rfl ?_
        refine r_ild rfl rfl ?_
        refine r_ild rfl rfl ?_
        refine r_call (as := [zR (some q), zI (nI ra), zI (nI p), zI (nI rb), zI (nI s)]) (r := []) (s' := (c, n, a, b, v, f, r)) (v := some (zI (cwR r ra ma p rb mb s))) rfl rfl rfl (Nat.le_of_ble_eq_true rfl) (Or.inr ⟨rfl, rfl, _, rfl⟩) (c_compareWords (by omega) (by omega) (by omega) (by omega) (by omega) (by omega) hA hB) ?_
        refine r_ist (ls' := [some (zR (some q)), some (zI (nI ra)), some (zI (nI rb)), some (zI (y)), some (zI (nI 1)), some (zI (nI p)), some (zI (nI s)), some (zI (cwR r ra ma p rb mb s)), x8]) rfl (Nat.le_of_ble_eq_true rfl) rfl ?_
        refine r_ild rfl rfl ?_
        refine r_if rfl (fun h_21 => ?_) (fun h_21 => ?_)
        · replace h_21 : (cwR r ra ma p rb mb s) = 0 := h_21
          refine r_ald rfl rfl ?_
          refine r_ild rfl rfl ?_
          refine r_ild rfl rfl ?_
          obtain ⟨e30, he30⟩ : ∃ x, x = spn noPt (rw9 r ra) ma p := ⟨_, rfl⟩
          have le30 : p ≤ e30 ∧ e30 ≤ max ma p := by rw [he30]; exact ⟨spn_ge, spn_lem⟩
          refine r_call (as := [zR (some q), zI (nI ra), zI (nI p)]) (r := []) (s' := (c, n, a, b, v, f, r)) (v := some (zI (nI e30))) rfl rfl rfl (Nat.le_of_ble_eq_true rfl) (Or.inr ⟨rfl, rfl, _, rfl⟩) (by rw [he30]; exact c_wordEnd (by omega) (by omega) hA (by omega)) ?_
          refine r_ico (x := (nI 1)) rfl rfl ?_
          refine r_ibi (v := (nI (e30 + 1))) rfl (nI_add _ _) ?_
          refine r_ist (ls' := [some (zR (some q)), some (zI (nI ra)), some (zI (nI rb)), some (zI (y)), some (zI (nI 1)), some (zI (nI (e30 + 1))), some (zI (nI s)), some (zI (cwR r ra ma p rb mb s)), x8]) rfl (Nat.le_of_ble_eq_true rfl) rfl ?_
          refine r_ald rfl rfl ?_
          refine r_ild rfl rfl ?_
          refine r_ild rfl rfl ?_
          obtain ⟨e31, he31⟩ : ∃ x, x = spn noPt (rw9 r rb) mb s := ⟨_, rfl⟩
          have le31 : s ≤ e31 ∧ e31 ≤ max mb s := by rw [he31]; exact ⟨spn_ge, spn_lem⟩
          refine r_call (as := [zR (some q), zI (nI rb), zI (nI s)]) (r := []) (s' := (c, n, a, b, v, f, r)) (v := some (zI (nI e31))) rfl rfl rfl (Nat.le_of_ble_eq_true rfl) (Or.inr ⟨rfl, rfl, _, rfl⟩) (by rw [he31]; exact c_wordEnd (by omega) (by omega) hB (by omega)) ?_
          refine r_ico (x := (nI 1)) rfl rfl ?_
          refine r_ibi (v := (nI (e31 + 1))) rfl (nI_add _ _) ?_
          refine r_ist (ls' := [some (zR (some q)), some (zI (nI ra)), some (zI (nI rb)), some (zI (y)), some (zI (nI 1)), some (zI (nI (e30 + 1))), some (zI (nI (e31 + 1))), some (zI (cwR r ra ma p rb mb s)), x8]) rfl (Nat.le_of_ble_eq_true rfl) rfl ?_
          refine r_go rfl ?_
          rw [if_pos h_21, ← he30, ← he31] at hQ
          exact ih _ _ _ _ (by omega) (by omega) (by omega) hQ
        · replace h_21 : ¬ ((cwR r ra ma p rb mb s) = 0) := h_21
          refine r_ild rfl rfl ?_
          refine r_ret rfl ⟨_, rfl⟩ ?_
          rw [if_neg h_21] at hQ
          exact hQ
set_option maxHeartbeats 2000000 in
theorem c_order {q : Nat} {qa : Nat → Nat} {d c n a v f ra rb ma mb : Nat} {b : Bool} {r : rA} (hra : ra < 900) (hrb : rb < 900) (hma : ma ≤ 24) (hmb : mb ≤ 24) (hA : r 8 ra = nI ma) (hB : r 8 rb = nI mb) : rFun q qa (d + 4) 117 [zR (some q), zI (nI ra), zI (nI rb)] (c, n, a, b, v, f, r) (c, n, a, b, v, f, r) (some (zI (ordF r ra ma rb mb))) := by
  refine rFun.of (d := d + 3) (T := tb_117) (L := [some (zR (some q)), some (zI (nI ra)), some (zI (nI rb)), none, none, none, none, none, none]) (Nat.le_of_ble_eq_true rfl) rfl rfl ?_
  refine r_ald rfl rfl ?_
  refine r_ild rfl rfl ?_
  refine r_ald rfl rfl ?_
  refine r_get rfl rfl ?_
  refine r_ild rfl rfl ?_
  refine r_ialdN (k0 := 5) rfl rfl (by omega) (by decide) ?_
  refine r_ald rfl rfl ?_
  refine r_get rfl rfl ?_
  refine r_ild rfl rfl ?_
  refine r_ialdN (k0 := 6) rfl rfl (by omega) (by decide) ?_
  refine r_ald rfl rfl ?_
  refine r_get rfl rfl ?_
  refine r_ild rfl rfl ?_
  refine r_ialdN (k0 := 7) rfl rfl (by omega) (by decide) ?_
  refine r_call (as := [zR (some q), zI (nI ra), zI (r 5 rb), zI (r 6 rb), zI (r 7 rb)]) (r := []) (s' := (c, n, a, b, v, f, r)) (v := some (zI (oT r ra (r 5 rb) (r 6 rb) (r 7 rb)))) rfl rfl rfl (Nat.le_of_ble_eq_true rfl) (Or.inr ⟨rfl, rfl, _, rfl⟩) (c_orderTo (by omega)) ?_
  refine r_ist (ls' := [some (zR (some q)), some (zI (nI ra)), some (zI (nI rb)), some (zI (oT r ra (r 5 rb) (r 6 rb) (r 7 rb))), none, none, none, none, none]) rfl (Nat.le_of_ble_eq_true rfl) rfl ?_
  refine r_ald rfl rfl ?_
  refine r_get rfl rfl ?_
  refine r_ild rfl rfl ?_
  refine r_ialdN (k0 := 5) rfl rfl (by omega) (by decide) ?_
  refine r_ald rfl rfl ?_
  refine r_get rfl rfl ?_
  refine r_ild rfl rfl ?_
  refine r_ialdN (k0 := 5) rfl rfl (by omega) (by decide) ?_
  refine r_cmp rfl (fun h_1 => ?_) (fun h_1 => ?_)
  · replace h_1 : ¬ (r 5 ra) = (r 5 rb) := h_1
    refine r_ico (x := (nI 0)) rfl rfl ?_
    refine r_ist (ls' := [some (zR (some q)), some (zI (nI ra)), some (zI (nI rb)), some (zI (oT r ra (r 5 rb) (r 6 rb) (r 7 rb))), some (zI (nI 0)), none, none, none, none]) rfl (Nat.le_of_ble_eq_true rfl) rfl ?_
    refine r_ild rfl rfl ?_
    refine r_ifN (by omega) rfl (fun h_2 => ?_) (fun h_2 => ?_)
    · replace h_2 : ¬ 0 = 0 := h_2
      omega
    · replace h_2 : 0 = 0 := Decidable.of_not_not h_2
      refine r_ild rfl rfl ?_
      refine r_ret rfl ⟨_, rfl⟩ ?_
      rw [ordF, if_neg (fun z => h_1 z.1)]
      exact ⟨rfl, rfl⟩
  · replace h_1 : (r 5 ra) = (r 5 rb) := Decidable.of_not_not h_1
    refine r_ald rfl rfl ?_
    refine r_get rfl rfl ?_
    refine r_ild rfl rfl ?_
    refine r_ialdN (k0 := 6) rfl rfl (by omega) (by decide) ?_
    refine r_ald rfl rfl ?_
    refine r_get rfl rfl ?_
    refine r_ild rfl rfl ?_
    refine r_ialdN (k0 := 6) rfl rfl (by omega) (by decide) ?_
    refine r_cmp rfl (fun h_3 => ?_) (fun h_3 => ?_)
    · replace h_3 : ¬ (r 6 ra) = (r 6 rb) := h_3
      refine r_ico (x := (nI 0)) rfl rfl ?_
      refine r_ist (ls' := [some (zR (some q)), some (zI (nI ra)), some (zI (nI rb)), some (zI (oT r ra (r 5 rb) (r 6 rb) (r 7 rb))), some (zI (nI 0)), none, none, none, none]) rfl (Nat.le_of_ble_eq_true rfl) rfl ?_
      refine r_ild rfl rfl ?_
      refine r_ifN (by omega) rfl (fun h_4 => ?_) (fun h_4 => ?_)
      · replace h_4 : ¬ 0 = 0 := h_4
        omega
      · replace h_4 : 0 = 0 := Decidable.of_not_not h_4
        refine r_ild rfl rfl ?_
        refine r_ret rfl ⟨_, rfl⟩ ?_
        rw [ordF, if_neg (fun z => h_3 z.2.1)]
        exact ⟨rfl, rfl⟩
    · replace h_3 : (r 6 ra) = (r 6 rb) := Decidable.of_not_not h_3
      refine r_ald rfl rfl ?_
      refine r_get rfl rfl ?_
      refine r_ild rfl rfl ?_
      refine r_ialdN (k0 := 7) rfl rfl (by omega) (by decide) ?_
      refine r_ald rfl rfl ?_
      refine r_get rfl rfl ?_
      refine r_ild rfl rfl ?_
      refine r_ialdN (k0 := 7) rfl rfl (by omega) (by decide) ?_
      refine r_cmp rfl (fun h_5 => ?_) (fun h_5 => ?_)
      · replace h_5 : ¬ (r 7 ra) = (r 7 rb) := h_5
        refine r_ico (x := (nI 0)) rfl rfl ?_
        refine r_ist (ls' := [some (zR (some q)), some (zI (nI ra)), some (zI (nI rb)), some (zI (oT r ra (r 5 rb) (r 6 rb) (r 7 rb))), some (zI (nI 0)), none, none, none, none]) rfl (Nat.le_of_ble_eq_true rfl) rfl ?_
        refine r_ild rfl rfl ?_
        refine r_ifN (by omega) rfl (fun h_6 => ?_) (fun h_6 => ?_)
        · replace h_6 : ¬ 0 = 0 := h_6
          omega
        · replace h_6 : 0 = 0 := Decidable.of_not_not h_6
          refine r_ild rfl rfl ?_
          refine r_ret rfl ⟨_, rfl⟩ ?_
          rw [ordF, if_neg (fun z => h_5 z.2.2)]
          exact ⟨rfl, rfl⟩
      · replace h_5 : (r 7 ra) = (r 7 rb) := Decidable.of_not_not h_5
        refine r_ico (x := (nI 1)) rfl rfl ?_
        refine r_go rfl ?_
        refine r_ist (ls' := [some (zR (some q)), some (zI (nI ra)), some (zI (nI rb)), some (zI (oT r ra (r 5 rb) (r 6 rb) (r 7 rb))), some (zI (nI 1)), none, none, none, none]) rfl (Nat.le_of_ble_eq_true rfl) rfl ?_
        refine r_ild rfl rfl ?_
        refine r_ifN (by omega) rfl (fun h_7 => ?_) (fun h_7 => ?_)
        · replace h_7 : ¬ 1 = 0 := h_7
          rw [ordF, if_pos ⟨h_1, h_3, h_5⟩]
          refine r_ald rfl rfl ?_
          refine r_get rfl rfl ?_
          refine r_ild rfl rfl ?_
          refine r_ialdN (k0 := 8) rfl rfl (by omega) (by decide) ?_
          refine r_top (y := (nI ma)) hA ?_
          refine r_ifN (by omega) rfl (fun h_8 => ?_) (fun h_8 => ?_)
          · replace h_8 : ma = 0 := h_8
            refine r_ald rfl rfl ?_
            refine r_get rfl rfl ?_
            refine r_ild rfl rfl ?_
            refine r_ialdN (k0 := 8) rfl rfl (by omega) (by decide) ?_
            refine r_top (y := (nI ma)) hA ?_
            refine r_ald rfl rfl ?_
            refine r_get rfl rfl ?_
            refine r_ild rfl rfl ?_
            refine r_ialdN (k0 := 8) rfl rfl (by omega) (by decide) ?_
            refine r_top (y := (nI mb)) hB ?_
            refine r_cmpN (by omega) (by omega) rfl (fun h_9 => ?_) (fun h_9 => ?_)
            · replace h_9 : ¬ ma = mb := h_9
              refine r_ald rfl rfl ?_
              refine r_get rfl rfl ?_
              refine r_ild rfl rfl ?_
              refine r_ialdN (k0 := 8) rfl rfl (by omega) (by decide) ?_
              refine r_top (y := (nI ma)) hA ?_
              refine r_ifN (by omega) rfl (fun h_10 => ?_) (fun h_10 => ?_)
              · replace h_10 : ¬ ma = 0 := h_10
                refine r_ico (x := (-1)) rfl rfl ?_
                refine r_ret rfl ⟨_, rfl⟩ ?_
                rw [if_pos (by omega), if_neg (by omega), if_neg (by omega)]
                exact ⟨rfl, rfl⟩
              · replace h_10 : ma = 0 := Decidable.of_not_not h_10
                refine r_ico (x := (nI 1)) rfl rfl ?_
                refine r_go rfl ?_
                refine r_ret rfl ⟨_, rfl⟩ ?_
                rw [if_pos (by omega), if_neg (by omega), if_pos (by omega)]
                exact ⟨rfl, rfl⟩
            · replace h_9 : ma = mb := Decidable.of_not_not h_9
              refine r_ico (x := (nI 0)) rfl rfl ?_
              refine r_go rfl ?_
              refine r_ret rfl ⟨_, rfl⟩ ?_
              rw [if_pos (by omega), if_pos (by omega)]
              exact ⟨rfl, rfl⟩
          · replace h_8 : ¬ (ma = 0) := h_8
            refine r_ald rfl rfl ?_
            refine r_get rfl rfl ?_
            refine r_ild rfl rfl ?_
            refine r_ialdN (k0 := 8) rfl rfl (by omega) (by decide) ?_
            refine r_top (y := (nI mb)) hB ?_
            refine r_ifN (by omega) rfl (fun h_11 => ?_) (fun h_11 => ?_)
            · replace h_11 : ¬ mb = 0 := h_11
              refine r_ico (x := (nI 0)) rfl rfl ?_
              refine r_ist (ls' := [some (zR (some q)), some (zI (nI ra)), some (zI (nI rb)), some (zI (oT r ra (r 5 rb) (r 6 rb) (r 7 rb))), some (zI (nI 1)), some (zI (nI 0)), none, none, none]) rfl (Nat.le_of_ble_eq_true rfl) rfl ?_
              refine r_ico (x := (nI 0)) rfl rfl ?_
              refine r_ist (ls' := [some (zR (some q)), some (zI (nI ra)), some (zI (nI rb)), some (zI (oT r ra (r 5 rb) (r 6 rb) (r 7 rb))), some (zI (nI 1)), some (zI (nI 0)), some (zI (nI 0)), none, none]) rfl (Nat.le_of_ble_eq_true rfl) rfl ?_
              rw [if_neg (by omega)]
              exact l_ord hra hrb hma hmb hA hB (ma + 1 + 1) 0 0 _ _ (by omega) (by omega) (by omega) ⟨rfl, rfl⟩
            · replace h_11 : mb = 0 := Decidable.of_not_not h_11
              refine r_ald rfl rfl ?_
              refine r_get rfl rfl ?_
              refine r_ild rfl rfl ?_
              refine r_ialdN (k0 := 8) rfl rfl (by omega) (by decide) ?_
              refine r_top (y := (nI ma)) hA ?_
              refine r_ald rfl rfl ?_
              refine r_get rfl rfl ?_
              refine r_ild rfl rfl ?_
              refine r_ialdN (k0 := 8) rfl rfl (by omega) (by decide) ?_
              refine r_top (y := (nI mb)) hB ?_
              refine r_cmpN (by omega) (by omega) rfl (fun h_12 => ?_) (fun h_12 => ?_)
              · replace h_12 : ¬ ma = mb := h_12
                refine r_ald rfl rfl ?_
                refine r_get rfl rfl ?_
                refine r_ild rfl rfl ?_
                refine r_ialdN (k0 := 8) rfl rfl (by omega) (by decide) ?_
                refine r_top (y := (nI ma)) hA ?_
                refine r_ifN (by omega) rfl (fun h_13 => ?_) (fun h_13 => ?_)
                · replace h_13 : ¬ ma = 0 := h_13
                  refine r_ico (x := (-1)) rfl rfl ?_
                  refine r_ret rfl ⟨_, rfl⟩ ?_
                  rw [if_pos (by omega), if_neg (by omega), if_neg (by omega)]
                  exact ⟨rfl, rfl⟩
                · replace h_13 : ma = 0 := Decidable.of_not_not h_13
                  refine r_ico (x := (nI 1)) rfl rfl ?_
                  refine r_go rfl ?_
                  refine r_ret rfl ⟨_, rfl⟩ ?_
                  rw [if_pos (by omega), if_neg (by omega), if_pos (by omega)]
                  exact ⟨rfl, rfl⟩
              · replace h_12 : ma = mb := Decidable.of_not_not h_12
                refine r_ico (x := (nI 0)) rfl rfl ?_
                refine r_go rfl ?_
                refine r_ret rfl ⟨_, rfl⟩ ?_
                rw [if_pos (by omega), if_pos (by omega)]
                exact ⟨rfl, rfl⟩
        · replace h_7 : 1 = 0 := Decidable.of_not_not h_7
          omega
