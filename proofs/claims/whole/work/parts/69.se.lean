/-- how many open options package p has -/
def cbP (O : Nat → Int64) (x : Int64) (p : Nat) : Nat := cbN (x &&& O p) 64
def mpF (O : Nat → Int64) (x : Int64) : Nat → Option Nat × Nat
  | 0 => (none, 48)
  | p + 1 => if 1 < cbP O x p ∧ cbP O x p < (mpF O x p).2 ∧ tst x (40 + p) = false then (some p, cbP O x p) else mpF O x p
theorem mp_some {O : Nat → Int64} {x : Int64} : ∀ {n p : Nat}, (mpF O x n).1 = some p → p < n ∧ 1 < cbP O x p ∧ tst x (40 + p) = false
  | 0, p, h => by cases h
  | n + 1, p, h => by
    rw [mpF] at h
    split at h
    · rename_i g
      cases h
      exact ⟨by omega, g.1, g.2.2⟩
    · have := mp_some h
      exact ⟨by omega, this.2⟩
theorem mp_none {O : Nat → Int64} {x : Int64} (h48 : ∀ p, p < 8 → cbP O x p < 48) : ∀ {n : Nat}, n ≤ 8 → (mpF O x n).1 = none → (mpF O x n).2 = 48 ∧ ∀ p, p < n → cbP O x p ≤ 1 ∨ tst x (40 + p) = true
  | 0, _, _ => ⟨rfl, fun p hp => absurd hp (Nat.not_lt_zero _)⟩
  | n + 1, hn, h => by
    rw [mpF] at h ⊢
    split at h
    · cases h
    · rename_i g
      have ih := mp_none h48 (n := n) (by omega) h
      rw [if_neg g]
      refine ⟨ih.1, fun p hp => ?_⟩
      by_cases e : p = n
      · subst e
        by_cases c : 1 < cbP O x p
        · right
          cases t : tst x (40 + p) with
          | true => rfl
          | false => exact absurd ⟨c, by rw [ih.1]; exact h48 p (by omega), t⟩ g
        · left; omega
      · exact ih.2 p (by omega)
theorem mp_le {O : Nat → Int64} {x : Int64} : ∀ n, (mpF O x n).2 ≤ 64
  | 0 => by show 48 ≤ 64; omega
  | n + 1 => by
    rw [mpF]
    split
    · exact cb_le _ 64
    · exact mp_le n
theorem cbP_le {O : Nat → Int64} {x : Int64} {p : Nat} : cbP O x p ≤ 64 := cb_le _ 64
def wnF (O : Nat → Int64) (x : Int64) : Nat → Int64
  | 0 => x
  | p + 1 => if tst x (40 + p) = true then stL O (wnF O x p) p (40 + p) else wnF O x p
set_option maxHeartbeats 1000000 in
theorem kl_mp {d : Nat} {Q : zQ} {h : zH} {s pg po pt pc pp : Nat} {fo : Int64} {O : Nat → Int64} {x : Int64} (hs : h s = some (srO pg po pt pc pp fo)) (hO : h pt = some (zaJ 8 O)) (hQ : Q h (.inl (some (zI (oI (mpF O x 8).1))))) : ∀ k, k ≤ 8 → ∀ (x6 : Option zV), zEv (d + 1) tb_56 0 0 Q 9 [some (zR (some s)), some (zJ x), none, some (zI (oI (mpF O x k).1)), some (zI (nI ((mpF O x k).2))), some (zI (nI k)), x6] [] h 0 0 := by
  refine dn 8 (fun k hk ih x6 => ?_)
  have hm := mp_le (O := O) (x := x) k
  have hc := cbP_le (O := O) (x := x) (p := k)
  refine z_ild rfl rfl ?_
  refine z_ico (x := (nI 8)) rfl rfl ?_
  refine z_cmpN (by omega) (by omega) rfl (fun h_1 => ?_) (fun h_1 => ?_)
  · replace h_1 : 8 ≤ k := h_1
    refine z_ild rfl rfl ?_
    refine z_ret rfl ⟨_, rfl⟩ ?_
    have e : k = 8 := by omega
    subst e
    exact hQ
  · replace h_1 := Nat.not_le.mp h_1
    refine z_lld rfl rfl ?_
    refine z_ald rfl rfl ?_
    refine z_get rfl hs rfl ?_
    refine z_ild rfl rfl ?_
    refine z_lald rfl hO (by omega) (by omega) ?_
    refine z_lbi (v := x &&& (O k)) rfl rfl ?_
    refine z_callF (as := [zJ (x &&& (O k))]) (r := []) (v := some (zI (nI (cbP O x k)))) rfl rfl rfl (Nat.le_of_ble_eq_true rfl) (by omega) (by omega) (rc1 rfl) k_J13_bitCount_95d88 ?_
    refine z_ist (ls' := [some (zR (some s)), some (zJ x), none, some (zI (oI (mpF O x k).1)), some (zI (nI ((mpF O x k).2))), some (zI (nI k)), some (zI (nI (cbP O x k)))]) rfl (Nat.le_of_ble_eq_true rfl) rfl ?_
    refine z_ild rfl rfl ?_
    refine z_ico (x := (nI 1)) rfl rfl ?_
    refine z_cmpN (by omega) (by omega) rfl (fun h_2 => ?_) (fun h_2 => ?_)
    · replace h_2 : cbP O x k ≤ 1 := h_2
      refine z_inc (x' := (nI (k + 1))) (ls' := [some (zR (some s)), some (zJ x), none, some (zI (oI (mpF O x k).1)), some (zI (nI ((mpF O x k).2))), some (zI (nI (k + 1))), some (zI (nI (cbP O x k)))]) rfl rfl (nI_1 _) rfl ?_
      refine z_go rfl ?_
      have h9 : mpF O x (k + 1) = mpF O x k := by rw [mpF, if_neg (fun z => by have z := z.1; omega)]
      refine z_ok (ls' := [some (zR (some s)), some (zJ x), none, some (zI (oI (mpF O x (k + 1)).1)), some (zI (nI (mpF O x (k + 1)).2)), some (zI (nI (k + 1))), some (zI (nI (cbP O x k)))]) (by rw [h9]) ?_
      exact ih (by omega) _
    · replace h_2 := Nat.not_le.mp h_2
      refine z_ild rfl rfl ?_
      refine z_ild rfl rfl ?_
      refine z_cmpN (by omega) (by omega) rfl (fun h_3 => ?_) (fun h_3 => ?_)
      · replace h_3 : (mpF O x k).2 ≤ cbP O x k := h_3
        refine z_inc (x' := (nI (k + 1))) (ls' := [some (zR (some s)), some (zJ x), none, some (zI (oI (mpF O x k).1)), some (zI (nI ((mpF O x k).2))), some (zI (nI (k + 1))), some (zI (nI (cbP O x k)))]) rfl rfl (nI_1 _) rfl ?_
        refine z_go rfl ?_
        have h9 : mpF O x (k + 1) = mpF O x k := by rw [mpF, if_neg (fun z => by have z := z.2.1; omega)]
        refine z_ok (ls' := [some (zR (some s)), some (zJ x), none, some (zI (oI (mpF O x (k + 1)).1)), some (zI (nI (mpF O x (k + 1)).2)), some (zI (nI (k + 1))), some (zI (nI (cbP O x k)))]) (by rw [h9]) ?_
        exact ih (by omega) _
      · replace h_3 := Nat.not_le.mp h_3
        refine z_lld rfl rfl ?_
        refine z_ico (x := (nI 40)) rfl rfl ?_
        refine z_ild rfl rfl ?_
        refine z_ibi (v := (nI (40 + k))) rfl (nI_add _ _) ?_
        refine z_callF (as := [zJ x, zI (nI (40 + k))]) (r := []) (v := some (zI (bI (tst x (40 + k))))) rfl rfl rfl (Nat.le_of_ble_eq_true rfl) (by omega) (by omega) (rc1 rfl) (k_X5_holds (by omega)) ?_
        refine z_ifB1 rfl (fun b_4 => ?_) (fun b_4 => ?_)
        · refine z_inc (x' := (nI (k + 1))) (ls' := [some (zR (some s)), some (zJ x), none, some (zI (oI (mpF O x k).1)), some (zI (nI ((mpF O x k).2))), some (zI (nI (k + 1))), some (zI (nI (cbP O x k)))]) rfl rfl (nI_1 _) rfl ?_
          refine z_go rfl ?_
          have h9 : mpF O x (k + 1) = mpF O x k := by rw [mpF, if_neg (fun z => by have z := z.2.2; rw [b_4] at z; cases z)]
          refine z_ok (ls' := [some (zR (some s)), some (zJ x), none, some (zI (oI (mpF O x (k + 1)).1)), some (zI (nI (mpF O x (k + 1)).2)), some (zI (nI (k + 1))), some (zI (nI (cbP O x k)))]) (by rw [h9]) ?_
          exact ih (by omega) _
        · refine z_ild rfl rfl ?_
          refine z_ist (ls' := [some (zR (some s)), some (zJ x), none, some (zI (nI k)), some (zI (nI ((mpF O x k).2))), some (zI (nI k)), some (zI (nI (cbP O x k)))]) rfl (Nat.le_of_ble_eq_true rfl) rfl ?_
          refine z_ild rfl rfl ?_
          refine z_ist (ls' := [some (zR (some s)), some (zJ x), none, some (zI (nI k)), some (zI (nI (cbP O x k))), some (zI (nI k)), some (zI (nI (cbP O x k)))]) rfl (Nat.le_of_ble_eq_true rfl) rfl ?_
          refine z_inc (x' := (nI (k + 1))) (ls' := [some (zR (some s)), some (zJ x), none, some (zI (nI k)), some (zI (nI (cbP O x k))), some (zI (nI (k + 1))), some (zI (nI (cbP O x k)))]) rfl rfl (nI_1 _) rfl ?_
          refine z_go rfl ?_
          have h9 : mpF O x (k + 1) = (some k, cbP O x k) := by rw [mpF, if_pos ⟨h_2, h_3, b_4⟩]
          refine z_ok (ls' := [some (zR (some s)), some (zJ x), none, some (zI (oI (mpF O x (k + 1)).1)), some (zI (nI (mpF O x (k + 1)).2)), some (zI (nI (k + 1))), some (zI (nI (cbP O x k)))]) (by rw [h9]; rfl) ?_
          exact ih (by omega) _
set_option maxHeartbeats 1000000 in
theorem k_X5_mostPressing {d : Nat} {h : zH} {s pg po pt pc pp : Nat} {fo : Int64} {O : Nat → Int64} {x : Int64} (hs : h s = some (srO pg po pt pc pp fo)) (hO : h pt = some (zaJ 8 O)) : zPure (d + 2) 56 [zR (some s), zJ x] h (some (zI (oI (mpF O x 8).1))) := by
  refine zCall.of (d := d + 1) (T := tb_56) (L := [some (zR (some s)), some (zJ x), none, none, none, none, none]) (Nat.le_of_ble_eq_true rfl) rfl rfl ?_
  refine z_ico (x := (-1)) rfl rfl ?_
  refine z_ist (ls' := [some (zR (some s)), some (zJ x), none, some (zI (-1)), none, none, none]) rfl (Nat.le_of_ble_eq_true rfl) rfl ?_
  refine z_ico (x := (nI 48)) rfl rfl ?_
  refine z_ist (ls' := [some (zR (some s)), some (zJ x), none, some (zI (-1)), some (zI (nI 48)), none, none]) rfl (Nat.le_of_ble_eq_true rfl) rfl ?_
  refine z_ico (x := (nI 0)) rfl rfl ?_
  refine z_ist (ls' := [some (zR (some s)), some (zJ x), none, some (zI (-1)), some (zI (nI 48)), some (zI (nI 0)), none]) rfl (Nat.le_of_ble_eq_true rfl) rfl ?_
  exact kl_mp hs hO ⟨rfl, rfl⟩ 0 (by omega) _
set_option maxHeartbeats 1000000 in
theorem kl_wn {d : Nat} {Q : zQ} {h : zH} {s pg po pt pc pp : Nat} {fo : Int64} {K : Nat → Int32} {O C T : Nat → Int64} {x : Int64} (hs : h s = some (srO pg po pt pc pp fo)) (hK : h po = some (zaI 1 48 K)) (hO : h pt = some (zaJ 8 O)) (hC : h pc = some (zaJ 48 C)) (hT : h pp = some (zaJ 8 T)) (dtc : pt ≠ pc) (dtp : pt ≠ pp) (dcp : pc ≠ pp) (hQ : Q h (.inl (some (zJ (wnF O x 8))))) : ∀ k, k ≤ 8 → zEv (d + 1) tb_57 0 0 Q 5 [some (zR (some s)), some (zJ x), none, some (zJ (wnF O x k)), none, some (zI (nI k))] [] h 0 0 := by
  refine dn 8 (fun k hk ih  => ?_)
  refine z_ild rfl rfl ?_
  refine z_ico (x := (nI 8)) rfl rfl ?_
  refine z_cmpN (by omega) (by omega) rfl (fun h_1 => ?_) (fun h_1 => ?_)
  · replace h_1 : 8 ≤ k := h_1
    refine z_lld rfl rfl ?_
    refine z_ret rfl ⟨_, rfl⟩ ?_
    have e : k = 8 := by omega
    subst e
    exact hQ
  · replace h_1 := Nat.not_le.mp h_1
    refine z_lld rfl rfl ?_
    refine z_ico (x := (nI 40)) rfl rfl ?_
    refine z_ild rfl rfl ?_
    refine z_ibi (v := (nI (40 + k))) rfl (nI_add _ _) ?_
    refine z_callF (as := [zJ x, zI (nI (40 + k))]) (r := []) (v := some (zI (bI (tst x (40 + k))))) rfl rfl rfl (Nat.le_of_ble_eq_true rfl) (by omega) (by omega) (rc1 rfl) (k_X5_holds (by omega)) ?_
    refine z_ifB0 rfl (fun b_2 => ?_) (fun b_2 => ?_)
    · refine z_inc (x' := (nI (k + 1))) (ls' := [some (zR (some s)), some (zJ x), none, some (zJ (wnF O x k)), none, some (zI (nI (k + 1)))]) rfl rfl (nI_1 _) rfl ?_
      refine z_go rfl ?_
      have h9 : wnF O x (k + 1) = wnF O x k := by rw [wnF, if_neg (by rw [b_2]; nofun)]
      rw [h9] at ih
      exact ih (by omega)
    · refine z_ald rfl rfl ?_
      refine z_lld rfl rfl ?_
      refine z_ild rfl rfl ?_
      refine z_ico (x := (nI 40)) rfl rfl ?_
      refine z_ild rfl rfl ?_
      refine z_ibi (v := (nI (40 + k))) rfl (nI_add _ _) ?_
      refine z_callF (as := [zR (some s), zJ (wnF O x k), zI (nI k), zI (nI (40 + k))]) (r := []) (v := some (zJ (stL O (wnF O x k) k (40 + k)))) rfl rfl rfl (Nat.le_of_ble_eq_true rfl) (by omega) (by omega) (rc0 rfl hs) (k_X5_settled hs hK hO hC hT dtc dtp dcp (by omega) (by omega)) ?_
      refine z_lst (ls' := [some (zR (some s)), some (zJ x), none, some (zJ (stL O (wnF O x k) k (40 + k))), none, some (zI (nI k))]) rfl (Nat.le_of_ble_eq_true rfl) rfl ?_
      refine z_inc (x' := (nI (k + 1))) (ls' := [some (zR (some s)), some (zJ x), none, some (zJ (stL O (wnF O x k) k (40 + k))), none, some (zI (nI (k + 1)))]) rfl rfl (nI_1 _) rfl ?_
      refine z_go rfl ?_
      have h9 : wnF O x (k + 1) = stL O (wnF O x k) k (40 + k) := by rw [wnF, if_pos b_2]
      rw [h9] at ih
      exact ih (by omega)
set_option maxHeartbeats 1000000 in
theorem k_X5_withNoneWherePossible {d : Nat} {h : zH} {s pg po pt pc pp : Nat} {fo : Int64} {K : Nat → Int32} {O C T : Nat → Int64} {x : Int64} (hs : h s = some (srO pg po pt pc pp fo)) (hK : h po = some (zaI 1 48 K)) (hO : h pt = some (zaJ 8 O)) (hC : h pc = some (zaJ 48 C)) (hT : h pp = some (zaJ 8 T)) (dtc : pt ≠ pc) (dtp : pt ≠ pp) (dcp : pc ≠ pp) : zPure (d + 2) 57 [zR (some s), zJ x] h (some (zJ (wnF O x 8))) := by
  refine zCall.of (d := d + 1) (T := tb_57) (L := [some (zR (some s)), some (zJ x), none, none, none, none]) (Nat.le_of_ble_eq_true rfl) rfl rfl ?_
  refine z_lld rfl rfl ?_
  refine z_lst (ls' := [some (zR (some s)), some (zJ x), none, some (zJ x), none, none]) rfl (Nat.le_of_ble_eq_true rfl) rfl ?_
  refine z_ico (x := (nI 0)) rfl rfl ?_
  refine z_ist (ls' := [some (zR (some s)), some (zJ x), none, some (zJ x), none, some (zI (nI 0))]) rfl (Nat.le_of_ble_eq_true rfl) rfl ?_
  exact kl_wn hs hK hO hC hT dtc dtp dcp ⟨rfl, rfl⟩ 0 (by omega)
