theorem pb2_n {R : rA} {v : Nat} {pk : Int32} {j : Nat} (h : j = 5 ∨ j = 6 ∨ j = 7 ∨ j = 8 ∨ j = 9 ∨ j = 10 ∨ j = 11 ∨ j = 12 ∨ j = 13) : pb2 R v pk j = crF R 40 v j := by
  show rset (rset (rset (rput (rset (crF R 40 v) 18 v _) 19 _ _ _) 16 _ _) 17 _ _) 14 _ _ j = _
  rw [rset_n _ _ _ (by omega), rset_n _ _ _ (by omega), rset_n _ _ _ (by omega), rput_n (by omega), rset_n _ _ _ (by omega)]
theorem pb2_14 {R : rA} {v : Nat} {pk : Int32} : pb2 R v pk 14 v = R 14 40 := by
  show rset (rset (rset (rput (rset (crF R 40 v) 18 v _) 19 _ _ _) 16 _ _) 17 _ _) 14 v _ 14 v = _
  rw [rset_s]
  show upd _ v _ v = _
  unfold upd
  rw [if_pos rfl]
  show rset (rset (rput (rset (crF R 40 v) 18 v _) 19 _ _ _) 16 _ _) 17 _ _ 14 40 = _
  rw [rset_n _ _ _ (by decide), rset_n _ _ _ (by decide), rput_n (by decide), rset_n _ _ _ (by decide), crF_n (by omega)]
theorem rput_a {r : rA} {k0 o k x : Nat} {g : Nat → Int32} (h : ¬ (o ≤ x ∧ x < o + k)) : rput r k0 o g k k0 x = r k0 x := by
  unfold rput
  rw [if_pos rfl]
  exact if_neg h
set_option maxHeartbeats 1000000 in
theorem c_publishX {q : Nat} {qa : Nat → Nat} {d c n a v f : Nat} {b : Bool} {r : rA} {x : Int32} (hn : n ≤ 160) (ha : (pubF n r).1 < 100000) (hx : isIn x (nI 0) (nI 7) = false) : rFun q qa (d + 8) 125 [zR (some q), zI (x)] (c, n, a, b, v, f, r) (1, 0, (pubF n r).1, (pubF n r).2.1, v, f, (pubF n r).2.2) (some (zI (nI 0))) := by
  refine rFun.of (d := d + 7) (T := tb_125) (L := [some (zR (some q)), some (zI (x)), none, none, none, none]) (Nat.le_of_ble_eq_true rfl) rfl rfl ?_
  refine r_ald rfl rfl ?_
  refine r_call (as := [zR (some q)]) (r := []) (s' := (c, n, (pubF n r).1, (pubF n r).2.1, v, f, (pubF n r).2.2)) (v := none) rfl rfl rfl (Nat.le_of_ble_eq_true rfl) (Or.inr ⟨rfl, rfl, _, rfl⟩) (c_publication hn) ?_
  refine r_ald rfl rfl ?_
  refine r_call (as := [zR (some q)]) (r := []) (s' := (c, 0, (pubF n r).1, (pubF n r).2.1, v, f, (pubF n r).2.2)) (v := some (zI (bI (!(pubF n r).2.1 && decide ((pubF n r).1 = n))))) rfl rfl rfl (Nat.le_of_ble_eq_true rfl) (Or.inr ⟨rfl, rfl, _, rfl⟩) (c_isRightZ hn ha rfl) ?_
  refine r_ist (ls' := [some (zR (some q)), some (zI (x)), some (zI (bI (!(pubF n r).2.1 && decide ((pubF n r).1 = n)))), none, none, none]) rfl (Nat.le_of_ble_eq_true rfl) rfl ?_
  refine r_ald rfl rfl ?_
  refine r_ild rfl rfl ?_
  refine r_ico (x := (nI 0)) rfl rfl ?_
  refine r_ico (x := (nI 7)) rfl rfl ?_
  refine r_call (as := [zI (x), zI (nI 0), zI (nI 7)]) (r := [zR (some q)]) (s' := (c, 0, (pubF n r).1, (pubF n r).2.1, v, f, (pubF n r).2.2)) (v := some (zI (bI (false)))) rfl rfl rfl (Nat.le_of_ble_eq_true rfl) (Or.inl rfl) (c_inZ hx) ?_
  refine r_ifB1 rfl (fun h_1 => ?_) (fun h_1 => ?_)
  · cases h_1
  · refine r_ico (x := (nI 1)) rfl rfl ?_
    refine r_go rfl ?_
    refine r_put (s' := (1, 0, (pubF n r).1, (pubF n r).2.1, v, f, (pubF n r).2.2)) rfl (Nat.le_of_ble_eq_true rfl) ⟨_, rfl⟩ rfl rfl ?_
    refine r_ald rfl rfl ?_
    refine r_get rfl rfl ?_
    refine r_ifN (by omega) rfl (fun h_2 => ?_) (fun h_2 => ?_)
    · replace h_2 : 1 ≤ 0 := h_2
      omega
    · replace h_2 := Nat.not_le.mp h_2
      refine r_ico (x := (nI 0)) rfl rfl ?_
      refine r_ret rfl ⟨_, rfl⟩ ?_
      exact ⟨rfl, rfl⟩
set_option maxHeartbeats 1000000 in
theorem c_publish2 {q : Nat} {qa : Nat → Nat} {d c n a v f : Nat} {b : Bool} {r : rA} {p : Nat} (hn : n ≤ 160) (ha : (pubF n r).1 < 100000) (hp : p < 8) (hr : (!(pubF n r).2.1 && decide ((pubF n r).1 = n)) = false) : rFun q qa (d + 8) 125 [zR (some q), zI (nI p)] (c, n, a, b, v, f, r) (2, 0, (pubF n r).1, (pubF n r).2.1, v, f, (pubF n r).2.2) (some (zI (nI 0))) := by
  refine rFun.of (d := d + 7) (T := tb_125) (L := [some (zR (some q)), some (zI (nI p)), none, none, none, none]) (Nat.le_of_ble_eq_true rfl) rfl rfl ?_
  refine r_ald rfl rfl ?_
  refine r_call (as := [zR (some q)]) (r := []) (s' := (c, n, (pubF n r).1, (pubF n r).2.1, v, f, (pubF n r).2.2)) (v := none) rfl rfl rfl (Nat.le_of_ble_eq_true rfl) (Or.inr ⟨rfl, rfl, _, rfl⟩) (c_publication hn) ?_
  refine r_ald rfl rfl ?_
  refine r_call (as := [zR (some q)]) (r := []) (s' := (c, 0, (pubF n r).1, (pubF n r).2.1, v, f, (pubF n r).2.2)) (v := some (zI (bI (false)))) rfl rfl rfl (Nat.le_of_ble_eq_true rfl) (Or.inr ⟨rfl, rfl, _, rfl⟩) (c_isRightZ hn ha hr) ?_
  refine r_ist (ls' := [some (zR (some q)), some (zI (nI p)), some (zI (bI (false))), none, none, none]) rfl (Nat.le_of_ble_eq_true rfl) rfl ?_
  refine r_ald rfl rfl ?_
  refine r_ild rfl rfl ?_
  refine r_ico (x := (nI 0)) rfl rfl ?_
  refine r_ico (x := (nI 7)) rfl rfl ?_
  refine r_call (as := [zI (nI p), zI (nI 0), zI (nI 7)]) (r := [zR (some q)]) (s' := (c, 0, (pubF n r).1, (pubF n r).2.1, v, f, (pubF n r).2.2)) (v := some (zI (bI (true)))) rfl rfl rfl (Nat.le_of_ble_eq_true rfl) (Or.inl rfl) (c_inZ (isIn_n (by omega) (by decide))) ?_
  refine r_ifB1 rfl (fun h_1 => ?_) (fun h_1 => ?_)
  · refine r_ild rfl rfl ?_
    refine r_ifB1 rfl (fun h_2 => ?_) (fun h_2 => ?_)
    · cases h_2
    · refine r_ico (x := (nI 2)) rfl rfl ?_
      refine r_go rfl ?_
      refine r_put (s' := (2, 0, (pubF n r).1, (pubF n r).2.1, v, f, (pubF n r).2.2)) rfl (Nat.le_of_ble_eq_true rfl) ⟨_, rfl⟩ rfl rfl ?_
      refine r_ald rfl rfl ?_
      refine r_get rfl rfl ?_
      refine r_ifN (by omega) rfl (fun h_3 => ?_) (fun h_3 => ?_)
      · replace h_3 : 2 ≤ 0 := h_3
        omega
      · replace h_3 := Nat.not_le.mp h_3
        refine r_ico (x := (nI 0)) rfl rfl ?_
        refine r_ret rfl ⟨_, rfl⟩ ?_
        exact ⟨rfl, rfl⟩
  · cases h_1
set_option maxHeartbeats 1000000 in
theorem c_publish3 {q : Nat} {qa : Nat → Nat} {d c n a v f : Nat} {b : Bool} {r : rA} {p : Nat} (hn : n ≤ 160) (ha : (pubF n r).1 < 100000) (hp : p < 8) (hr : (!(pubF n r).2.1 && decide ((pubF n r).1 = n)) = true)(hv : v ≤ 40) (h40 : rowOK (pubF n r).2.2 40) (hR : ∀ k, k < v → rowOK (pubF n r).2.2 k) (hs : hsF (pubF n r).2.2 (nI p) v = true) : rFun q qa (d + 8) 125 [zR (some q), zI (nI p)] (c, n, a, b, v, f, r) (3, 0, (pubF n r).1, (pubF n r).2.1, v, f, (pubF n r).2.2) (some (zI (nI 0))) := by
  refine rFun.of (d := d + 7) (T := tb_125) (L := [some (zR (some q)), some (zI (nI p)), none, none, none, none]) (Nat.le_of_ble_eq_true rfl) rfl rfl ?_
  refine r_ald rfl rfl ?_
  refine r_call (as := [zR (some q)]) (r := []) (s' := (c, n, (pubF n r).1, (pubF n r).2.1, v, f, (pubF n r).2.2)) (v := none) rfl rfl rfl (Nat.le_of_ble_eq_true rfl) (Or.inr ⟨rfl, rfl, _, rfl⟩) (c_publication hn) ?_
  refine r_ald rfl rfl ?_
  refine r_call (as := [zR (some q)]) (r := []) (s' := (c, 0, (pubF n r).1, (pubF n r).2.1, v, f, (pubF n r).2.2)) (v := some (zI (bI (true)))) rfl rfl rfl (Nat.le_of_ble_eq_true rfl) (Or.inr ⟨rfl, rfl, _, rfl⟩) (c_isRightZ hn ha hr) ?_
  refine r_ist (ls' := [some (zR (some q)), some (zI (nI p)), some (zI (bI (true))), none, none, none]) rfl (Nat.le_of_ble_eq_true rfl) rfl ?_
  refine r_ald rfl rfl ?_
  refine r_ild rfl rfl ?_
  refine r_ico (x := (nI 0)) rfl rfl ?_
  refine r_ico (x := (nI 7)) rfl rfl ?_
  refine r_call (as := [zI (nI p), zI (nI 0), zI (nI 7)]) (r := [zR (some q)]) (s' := (c, 0, (pubF n r).1, (pubF n r).2.1, v, f, (pubF n r).2.2)) (v := some (zI (bI (true)))) rfl rfl rfl (Nat.le_of_ble_eq_true rfl) (Or.inl rfl) (c_inZ (isIn_n (by omega) (by decide))) ?_
  refine r_ifB1 rfl (fun h_1 => ?_) (fun h_1 => ?_)
  · refine r_ild rfl rfl ?_
    refine r_ifB1 rfl (fun h_2 => ?_) (fun h_2 => ?_)
    · refine r_ald rfl rfl ?_
      refine r_ild rfl rfl ?_
      refine r_call (as := [zR (some q), zI (nI p)]) (r := [zR (some q)]) (s' := (c, 0, (pubF n r).1, (pubF n r).2.1, v, f, (pubF n r).2.2)) (v := some (zI (bI (true)))) rfl rfl rfl (Nat.le_of_ble_eq_true rfl) (Or.inr ⟨rfl, rfl, _, rfl⟩) (c_hasSameZ hv h40 hR hs) ?_
      refine r_ifB0 rfl (fun h_3 => ?_) (fun h_3 => ?_)
      · cases h_3
      · refine r_ico (x := (nI 3)) rfl rfl ?_
        refine r_go rfl ?_
        refine r_put (s' := (3, 0, (pubF n r).1, (pubF n r).2.1, v, f, (pubF n r).2.2)) rfl (Nat.le_of_ble_eq_true rfl) ⟨_, rfl⟩ rfl rfl ?_
        refine r_ald rfl rfl ?_
        refine r_get rfl rfl ?_
        refine r_ifN (by omega) rfl (fun h_4 => ?_) (fun h_4 => ?_)
        · replace h_4 : 3 ≤ 0 := h_4
          omega
        · replace h_4 := Nat.not_le.mp h_4
          refine r_ico (x := (nI 0)) rfl rfl ?_
          refine r_ret rfl ⟨_, rfl⟩ ?_
          exact ⟨rfl, rfl⟩
    · cases h_2
  · cases h_1
set_option maxHeartbeats 1000000 in
theorem c_publish4 {q : Nat} {qa : Nat → Nat} {d c n a v f : Nat} {b : Bool} {r : rA} {p : Nat} (hn : n ≤ 160) (ha : (pubF n r).1 < 100000) (hp : p < 8) (hr : (!(pubF n r).2.1 && decide ((pubF n r).1 = n)) = true)(hv : v ≤ 40) (h40 : rowOK (pubF n r).2.2 40) (hR : ∀ k, k < v → rowOK (pubF n r).2.2 k) (hs : hsF (pubF n r).2.2 (nI p) v = false) (h4 : v = 40) : rFun q qa (d + 8) 125 [zR (some q), zI (nI p)] (c, n, a, b, v, f, r) (4, 0, (pubF n r).1, (pubF n r).2.1, v, f, (pubF n r).2.2) (some (zI (nI 0))) := by
  refine rFun.of (d := d + 7) (T := tb_125) (L := [some (zR (some q)), some (zI (nI p)), none, none, none, none]) (Nat.le_of_ble_eq_true rfl) rfl rfl ?_
  refine r_ald rfl rfl ?_
  refine r_call (as := [zR (some q)]) (r := []) (s' := (c, n, (pubF n r).1, (pubF n r).2.1, v, f, (pubF n r).2.2)) (v := none) rfl rfl rfl (Nat.le_of_ble_eq_true rfl) (Or.inr ⟨rfl, rfl, _, rfl⟩) (c_publication hn) ?_
  refine r_ald rfl rfl ?_
  refine r_call (as := [zR (some q)]) (r := []) (s' := (c, 0, (pubF n r).1, (pubF n r).2.1, v, f, (pubF n r).2.2)) (v := some (zI (bI (true)))) rfl rfl rfl (Nat.le_of_ble_eq_true rfl) (Or.inr ⟨rfl, rfl, _, rfl⟩) (c_isRightZ hn ha hr) ?_
  refine r_ist (ls' := [some (zR (some q)), some (zI (nI p)), some (zI (bI (true))), none, none, none]) rfl (Nat.le_of_ble_eq_true rfl) rfl ?_
  refine r_ald rfl rfl ?_
  refine r_ild rfl rfl ?_
  refine r_ico (x := (nI 0)) rfl rfl ?_
  refine r_ico (x := (nI 7)) rfl rfl ?_
  refine r_call (as := [zI (nI p), zI (nI 0), zI (nI 7)]) (r := [zR (some q)]) (s' := (c, 0, (pubF n r).1, (pubF n r).2.1, v, f, (pubF n r).2.2)) (v := some (zI (bI (true)))) rfl rfl rfl (Nat.le_of_ble_eq_true rfl) (Or.inl rfl) (c_inZ (isIn_n (by omega) (by decide))) ?_
  refine r_ifB1 rfl (fun h_1 => ?_) (fun h_1 => ?_)
  · refine r_ild rfl rfl ?_
    refine r_ifB1 rfl (fun h_2 => ?_) (fun h_2 => ?_)
    · refine r_ald rfl rfl ?_
      refine r_ild rfl rfl ?_
      refine r_call (as := [zR (some q), zI (nI p)]) (r := [zR (some q)]) (s' := (c, 0, (pubF n r).1, (pubF n r).2.1, v, f, (pubF n r).2.2)) (v := some (zI (bI (false)))) rfl rfl rfl (Nat.le_of_ble_eq_true rfl) (Or.inr ⟨rfl, rfl, _, rfl⟩) (c_hasSameZ hv h40 hR hs) ?_
      refine r_ifB0 rfl (fun h_3 => ?_) (fun h_3 => ?_)
      · refine r_ald rfl rfl ?_
        refine r_get rfl rfl ?_
        refine r_ico (x := (nI 40)) rfl rfl ?_
        refine r_cmpN (by omega) (by omega) rfl (fun h_4 => ?_) (fun h_4 => ?_)
        · replace h_4 : ¬ v = 40 := h_4
          omega
        · replace h_4 : v = 40 := Decidable.of_not_not h_4
          refine r_ico (x := (nI 4)) rfl rfl ?_
          refine r_go rfl ?_
          refine r_put (s' := (4, 0, (pubF n r).1, (pubF n r).2.1, v, f, (pubF n r).2.2)) rfl (Nat.le_of_ble_eq_true rfl) ⟨_, rfl⟩ rfl rfl ?_
          refine r_ald rfl rfl ?_
          refine r_get rfl rfl ?_
          refine r_ifN (by omega) rfl (fun h_5 => ?_) (fun h_5 => ?_)
          · replace h_5 : 4 ≤ 0 := h_5
            omega
          · replace h_5 := Nat.not_le.mp h_5
            refine r_ico (x := (nI 0)) rfl rfl ?_
            refine r_ret rfl ⟨_, rfl⟩ ?_
            exact ⟨rfl, rfl⟩
      · cases h_3
    · cases h_2
  · cases h_1
set_option maxHeartbeats 1000000 in
theorem l_pubA {q : Nat} {qa : Nat → Nat} {d c n a v f : Nat} {b : Bool} {r : rA} {Q : rS → (Option zV ⊕ Nat) → Prop} {p u : Nat} {x2 : Int32} {x5 : Option zV} (hu : u < 40) (hE : rEv q qa (d + 7) tb_125 Q 144 [some (zR (some q)), some (zI (nI p)), some (zI (x2)), some (zI (nI u)), some (zI (nI 24)), x5] [] (c, n, a, b, v, f, rput r 19 (24 * u) (fun y => r 19 (960 + y)) 24)) : ∀ k, k ≤ 24 → rEv q qa (d + 7) tb_125 Q 108 [some (zR (some q)), some (zI (nI p)), some (zI (x2)), some (zI (nI u)), some (zI (nI k)), x5] [] (c, n, a, b, v, f, rput r 19 (24 * u) (fun y => r 19 (960 + y)) k) := by
  refine dn 24 (fun k hk ih => ?_)
  refine r_ild rfl rfl ?_
  refine r_ico (x := (nI 24)) rfl rfl ?_
  refine r_cmpN (by omega) (by omega) rfl (fun h_1 => ?_) (fun h_1 => ?_)
  · replace h_1 : 24 ≤ k := h_1
    have h3 : k = 24 := by omega
    rw [h3]
    exact hE
  · replace h_1 := Nat.not_le.mp h_1
    refine r_ald rfl rfl ?_
    refine r_get rfl rfl ?_
    refine r_ico (x := (nI 24)) rfl rfl ?_
    refine r_ild rfl rfl ?_
    refine r_ibi (v := (nI (24 * u))) rfl (pk_mul _ _) ?_
    refine r_ild rfl rfl ?_
    refine r_ibi (v := (nI (24 * u + k))) rfl (nI_add _ _) ?_
    refine r_ald rfl rfl ?_
    refine r_get rfl rfl ?_
    refine r_ico (x := (nI 960)) rfl rfl ?_
    refine r_ild rfl rfl ?_
    refine r_ibi (v := (nI (960 + k))) rfl (nI_add _ _) ?_
    refine r_ialdN (k0 := 19) rfl rfl (by omega) (by decide) ?_
    refine r_iastN (k0 := 19) (x' := ((rput r 19 (24 * u) (fun y => r 19 (960 + y)) k) 19 (960 + k))) rfl rfl (by omega) (by decide) rfl ?_
    refine r_inc (x' := (nI (k + 1))) (ls' := [some (zR (some q)), some (zI (nI p)), some (zI (x2)), some (zI (nI u)), some (zI (nI (k + 1))), x5]) rfl rfl (nI_1 _) rfl ?_
    refine r_go rfl ?_
    rw [rput_a (by omega), rput_s r 19 (24 * u) (fun y => r 19 (960 + y))]
    exact ih (by omega)
set_option maxHeartbeats 1000000 in
theorem l_pubB {q : Nat} {qa : Nat → Nat} {d c n a v f : Nat} {b : Bool} {r : rA} {Q : rS → (Option zV ⊕ Nat) → Prop} {p u k0 : Nat} {x2 : Int32} (hu : u < 40) (hk0 : k0 < 5) (hE : rEv q qa (d + 7) tb_125 Q 282 [some (zR (some q)), some (zI (nI p)), some (zI (x2)), some (zI (nI u)), some (zI (nI k0)), some (zI (nI 4))] [] (c, n, a, b, v, f, crN r (41 + 4 * (208 + k0)) (41 + 4 * (8 + 5 * u + k0)) 4)) : ∀ k, k ≤ 4 → rEv q qa (d + 7) tb_125 Q 235 [some (zR (some q)), some (zI (nI p)), some (zI (x2)), some (zI (nI u)), some (zI (nI k0)), some (zI (nI k))] [] (c, n, a, b, v, f, crN r (41 + 4 * (208 + k0)) (41 + 4 * (8 + 5 * u + k0)) k) := by
  refine dn 4 (fun k hk ih => ?_)
  refine r_ild rfl rfl ?_
  refine r_ico (x := (nI 4)) rfl rfl ?_
  refine r_cmpN (by omega) (by omega) rfl (fun h_1 => ?_) (fun h_1 => ?_)
  · replace h_1 : 4 ≤ k := h_1
    have h3 : k = 4 := by omega
    rw [h3]
    exact hE
  · replace h_1 := Nat.not_le.mp h_1
    refine r_ald rfl rfl ?_
    refine r_ico (x := (nI 41)) rfl rfl ?_
    refine r_ico (x := (nI 4)) rfl rfl ?_
    refine r_ico (x := (nI 208)) rfl rfl ?_
    refine r_ild rfl rfl ?_
    refine r_ibi (v := (nI (208 + k0))) rfl (nI_add _ _) ?_
    refine r_ibi (v := (nI (4 * (208 + k0)))) rfl (pk_mul _ _) ?_
    refine r_ibi (v := (nI (41 + (4 * (208 + k0))))) rfl (nI_add _ _) ?_
    refine r_ild rfl rfl ?_
    refine r_ibi (v := (nI (41 + (4 * (208 + k0)) + k))) rfl (nI_add _ _) ?_
    refine r_ico (x := (nI 41)) rfl rfl ?_
    refine r_ico (x := (nI 4)) rfl rfl ?_
    refine r_ico (x := (nI 8)) rfl rfl ?_
    refine r_ico (x := (nI 5)) rfl rfl ?_
    refine r_ild rfl rfl ?_
    refine r_ibi (v := (nI (5 * u))) rfl (pk_mul _ _) ?_
    refine r_ibi (v := (nI (8 + (5 * u)))) rfl (nI_add _ _) ?_
    refine r_ild rfl rfl ?_
    refine r_ibi (v := (nI (8 + (5 * u) + k0))) rfl (nI_add _ _) ?_
    refine r_ibi (v := (nI (4 * (8 + (5 * u) + k0)))) rfl (pk_mul _ _) ?_
    refine r_ibi (v := (nI (41 + (4 * (8 + (5 * u) + k0))))) rfl (nI_add _ _) ?_
    refine r_ild rfl rfl ?_
    refine r_ibi (v := (nI (41 + (4 * (8 + (5 * u) + k0)) + k))) rfl (nI_add _ _) ?_
    refine r_call (as := [zR (some q), zI (nI (41 + (4 * (208 + k0)) + k)), zI (nI (41 + (4 * (8 + (5 * u) + k0)) + k))]) (r := []) (s' := (c, n, a, b, v, f, crF (crN r (41 + 4 * (208 + k0)) (41 + 4 * (8 + 5 * u + k0)) k) (41 + (4 * (208 + k0)) + k) (41 + (4 * (8 + (5 * u) + k0)) + k))) (v := none) rfl rfl rfl (Nat.le_of_ble_eq_true rfl) (Or.inr ⟨rfl, rfl, _, rfl⟩) (c_copyRow (by omega) (by omega) (by omega)) ?_
    refine r_inc (x' := (nI (k + 1))) (ls' := [some (zR (some q)), some (zI (nI p)), some (zI (x2)), some (zI (nI u)), some (zI (nI k0)), some (zI (nI (k + 1)))]) rfl rfl (nI_1 _) rfl ?_
    refine r_go rfl ?_
    exact ih (by omega)
set_option maxHeartbeats 1000000 in
theorem l_pubC {q : Nat} {qa : Nat → Nat} {d c n a v f : Nat} {b : Bool} {r : rA} {Q : rS → (Option zV ⊕ Nat) → Prop} {p u m : Nat} {x2 : Int32} (hu : u < 40) (hm : m ≤ 5) (hM : r 14 u = nI m) (hQ : Q (c, n, a, b, v, f, pbN r u m) (.inl (some (zI (nI u))))) : ∀ k, k ≤ m → ∀ (x5 : Option zV), rEv q qa (d + 7) tb_125 Q 174 [some (zR (some q)), some (zI (nI p)), some (zI (x2)), some (zI (nI u)), some (zI (nI k)), x5] [] (c, n, a, b, v, f, pbN r u k) := by
  refine dn m (fun k hk ih x5 => ?_)
  refine r_ild rfl rfl ?_
  refine r_ald rfl rfl ?_
  refine r_get rfl rfl ?_
  refine r_ild rfl rfl ?_
  refine r_ialdN (k0 := 14) rfl rfl (by omega) (by decide) ?_
  refine r_top (y := (nI m)) (by rw [show rar (c, n, a, b, v, f, pbN r u k) = pbN r u k from rfl, pbN_n (by omega)]; exact hM) ?_
  refine r_cmpN (by omega) (by omega) rfl (fun h_1 => ?_) (fun h_1 => ?_)
  · replace h_1 : m ≤ k := h_1
    refine r_ild rfl rfl ?_
    refine r_ret rfl ⟨_, rfl⟩ ?_
    have h3 : k = m := by omega
    subst h3
    exact hQ
  · replace h_1 := Nat.not_le.mp h_1
    refine r_ald rfl rfl ?_
    refine r_get rfl rfl ?_
    refine r_ico (x := (nI 5)) rfl rfl ?_
    refine r_ild rfl rfl ?_
    refine r_ibi (v := (nI (5 * u))) rfl (pk_mul _ _) ?_
    refine r_ild rfl rfl ?_
    refine r_ibi (v := (nI (5 * u + k))) rfl (nI_add _ _) ?_
    refine r_ald rfl rfl ?_
    refine r_get rfl rfl ?_
    refine r_ico (x := (nI 200)) rfl rfl ?_
    refine r_ild rfl rfl ?_
    refine r_ibi (v := (nI (200 + k))) rfl (nI_add _ _) ?_
    refine r_ialdN (k0 := 13) rfl rfl (by omega) (by decide) ?_
    refine r_iastN (k0 := 13) (x' := ((pbN r u k) 13 (200 + k))) rfl rfl (by omega) (by decide) rfl ?_
    refine r_ald rfl rfl ?_
    refine r_get rfl rfl ?_
    refine r_ico (x := (nI 8)) rfl rfl ?_
    refine r_ico (x := (nI 5)) rfl rfl ?_
    refine r_ild rfl rfl ?_
    refine r_ibi (v := (nI (5 * u))) rfl (pk_mul _ _) ?_
    refine r_ibi (v := (nI (8 + (5 * u)))) rfl (nI_add _ _) ?_
    refine r_ild rfl rfl ?_
    refine r_ibi (v := (nI (8 + (5 * u) + k))) rfl (nI_add _ _) ?_
    refine r_ald rfl rfl ?_
    refine r_get rfl rfl ?_
    refine r_ico (x := (nI 208)) rfl rfl ?_
    refine r_ild rfl rfl ?_
    refine r_ibi (v := (nI (208 + k))) rfl (nI_add _ _) ?_
    refine r_ialdN (k0 := 12) rfl rfl (by omega) (by decide) ?_
    refine r_iastN (k0 := 12) (x' := ((rset (pbN r u k) 13 (5 * u + k) ((pbN r u k) 13 (200 + k))) 12 (208 + k))) rfl rfl (by omega) (by decide) rfl ?_
    refine r_ico (x := (nI 0)) rfl rfl ?_
    refine r_ist (ls' := [some (zR (some q)), some (zI (nI p)), some (zI (x2)), some (zI (nI u)), some (zI (nI k)), some (zI (nI 0))]) rfl (Nat.le_of_ble_eq_true rfl) rfl ?_
    refine l_pubB (k0 := k) hu (by omega) ?_ 0 (by omega)
    refine r_inc (x' := (nI (k + 1))) (ls' := [some (zR (some q)), some (zI (nI p)), some (zI (x2)), some (zI (nI u)), some (zI (nI (k + 1))), some (zI (nI 4))]) rfl rfl (nI_1 _) rfl ?_
    refine r_go rfl ?_
    exact ih (by omega) _
set_option maxHeartbeats 1000000 in
theorem l_pubD {q : Nat} {qa : Nat → Nat} {d c n a v f : Nat} {b : Bool} {r : rA} {Q : rS → (Option zV ⊕ Nat) → Prop} {p m : Nat} (hv2 : v < 40) (hm : m ≤ 5) (hM : r 14 40 = nI m) (hQ : Q (0, n, a, b, v + 1, f, pbR r v (nI p)) (.inl (some (zI (nI v))))) : rEv q qa (d + 7) tb_125 Q 61 [some (zR (some q)), some (zI (nI p)), some (zI (bI (true))), none, none, none] [] (0, n, a, b, v, f, r) := by
  refine r_ald rfl rfl ?_
  refine r_get rfl rfl ?_
  refine r_ifN (by omega) rfl (fun h_1 => ?_) (fun h_1 => ?_)
  · replace h_1 : 0 ≤ 0 := h_1
    refine r_ald rfl rfl ?_
    refine r_get rfl rfl ?_
    refine r_ist (ls' := [some (zR (some q)), some (zI (nI p)), some (zI (bI (true))), some (zI (nI v)), none, none]) rfl (Nat.le_of_ble_eq_true rfl) rfl ?_
    refine r_ald rfl rfl ?_
    refine r_dup rfl rfl ?_
    refine r_get rfl rfl ?_
    refine r_ico (x := (nI 1)) rfl rfl ?_
    refine r_ibi (v := (nI (v + 1))) rfl (nI_add _ _) ?_
    refine r_put (s' := (0, n, a, b, v + 1, f, r)) rfl (Nat.le_of_ble_eq_true rfl) ⟨_, rfl⟩ rfl rfl ?_
    refine r_ald rfl rfl ?_
    refine r_ico (x := (nI 40)) rfl rfl ?_
    refine r_ild rfl rfl ?_
    refine r_call (as := [zR (some q), zI (nI 40), zI (nI v)]) (r := []) (s' := (0, n, a, b, v + 1, f, crF r 40 v)) (v := none) rfl rfl rfl (Nat.le_of_ble_eq_true rfl) (Or.inr ⟨rfl, rfl, _, rfl⟩) (c_copyRow (by omega) (by omega) (by omega)) ?_
    refine r_ald rfl rfl ?_
    refine r_get rfl rfl ?_
    refine r_ild rfl rfl ?_
    refine r_ald rfl rfl ?_
    refine r_get rfl rfl ?_
    refine r_ico (x := (nI 40)) rfl rfl ?_
    refine r_ialdN (k0 := 18) rfl rfl (by omega) (by decide) ?_
    refine r_iastN (k0 := 18) (x' := ((crF r 40 v) 18 40)) rfl rfl (by omega) (by decide) rfl ?_
    refine r_ico (x := (nI 0)) rfl rfl ?_
    refine r_ist (ls' := [some (zR (some q)), some (zI (nI p)), some (zI (bI (true))), some (zI (nI v)), some (zI (nI 0)), none]) rfl (Nat.le_of_ble_eq_true rfl) rfl ?_
    refine rEv_rr (rput_0 (pb1 r v) 19 (24 * v) (fun y => pb1 r v 19 (960 + y))) (l_pubA (c := 0) (x2 := bI true) hv2 ?_ 0 (by omega))
    refine r_ald rfl rfl ?_
    refine r_get rfl rfl ?_
    refine r_ild rfl rfl ?_
    refine r_ild rfl rfl ?_
    refine r_iastN (k0 := 16) (x' := (nI p)) rfl rfl (by omega) (by decide) rfl ?_
    refine r_ald rfl rfl ?_
    refine r_get rfl rfl ?_
    refine r_ild rfl rfl ?_
    refine r_ico (x := (nI 0)) rfl rfl ?_
    refine r_iastN (k0 := 17) (x' := (bI (false))) rfl rfl (by omega) (by decide) (by decide +kernel) ?_
    refine r_ald rfl rfl ?_
    refine r_get rfl rfl ?_
    refine r_ild rfl rfl ?_
    refine r_ald rfl rfl ?_
    refine r_get rfl rfl ?_
    refine r_ico (x := (nI 40)) rfl rfl ?_
    refine r_ialdN (k0 := 14) rfl rfl (by omega) (by decide) ?_
    refine r_iastN (k0 := 14) (x' := ((rset (rset (rput (pb1 r v) 19 (24 * v) (fun y => pb1 r v 19 (960 + y)) 24) 16 v (nI p)) 17 v (bI (false))) 14 40)) rfl rfl (by omega) (by decide) rfl ?_
    refine r_ico (x := (nI 0)) rfl rfl ?_
    refine r_ist (ls' := [some (zR (some q)), some (zI (nI p)), some (zI (bI (true))), some (zI (nI v)), some (zI (nI 0)), none]) rfl (Nat.le_of_ble_eq_true rfl) rfl ?_
    refine l_pubC (c := 0) (x2 := bI true) hv2 hm ((@pb2_14 r v (nI p)).trans hM) ?_ 0 (by omega) none
    have h9 : pbN (pb2 r v (nI p)) v m = pbR r v (nI p) := by rw [pbR, hM, nI_clamp (by omega)]
    exact h9.symm ▸ hQ
  · replace h_1 := Nat.not_le.mp h_1
    omega
set_option maxHeartbeats 1000000 in
theorem c_publish0 {q : Nat} {qa : Nat → Nat} {d c n a v f : Nat} {b : Bool} {r : rA} {p m : Nat} (hn : n ≤ 160) (ha : (pubF n r).1 < 100000) (hp : p < 8) (hr : (!(pubF n r).2.1 && decide ((pubF n r).1 = n)) = true)(hv : v ≤ 40) (h40 : rowOK (pubF n r).2.2 40) (hR : ∀ k, k < v → rowOK (pubF n r).2.2 k) (hs : hsF (pubF n r).2.2 (nI p) v = false) (hv2 : v < 40) (hm : m ≤ 5) (hM : (pubF n r).2.2 14 40 = nI m) : rFun q qa (d + 8) 125 [zR (some q), zI (nI p)] (c, n, a, b, v, f, r) (0, 0, (pubF n r).1, (pubF n r).2.1, v + 1, f, pbR (pubF n r).2.2 v (nI p)) (some (zI (nI v))) := by
  refine rFun.of (d := d + 7) (T := tb_125) (L := [some (zR (some q)), some (zI (nI p)), none, none, none, none]) (Nat.le_of_ble_eq_true rfl) rfl rfl ?_
  refine r_ald rfl rfl ?_
  refine r_call (as := [zR (some q)]) (r := []) (s' := (c, n, (pubF n r).1, (pubF n r).2.1, v, f, (pubF n r).2.2)) (v := none) rfl rfl rfl (Nat.le_of_ble_eq_true rfl) (Or.inr ⟨rfl, rfl, _, rfl⟩) (c_publication hn) ?_
  refine r_ald rfl rfl ?_
  refine r_call (as := [zR (some q)]) (r := []) (s' := (c, 0, (pubF n r).1, (pubF n r).2.1, v, f, (pubF n r).2.2)) (v := some (zI (bI (true)))) rfl rfl rfl (Nat.le_of_ble_eq_true rfl) (Or.inr ⟨rfl, rfl, _, rfl⟩) (c_isRightZ hn ha hr) ?_
  refine r_ist (ls' := [some (zR (some q)), some (zI (nI p)), some (zI (bI (true))), none, none, none]) rfl (Nat.le_of_ble_eq_true rfl) rfl ?_
  refine r_ald rfl rfl ?_
  refine r_ild rfl rfl ?_
  refine r_ico (x := (nI 0)) rfl rfl ?_
  refine r_ico (x := (nI 7)) rfl rfl ?_
  refine r_call (as := [zI (nI p), zI (nI 0), zI (nI 7)]) (r := [zR (some q)]) (s' := (c, 0, (pubF n r).1, (pubF n r).2.1, v, f, (pubF n r).2.2)) (v := some (zI (bI (true)))) rfl rfl rfl (Nat.le_of_ble_eq_true rfl) (Or.inl rfl) (c_inZ (isIn_n (by omega) (by decide))) ?_
  refine r_ifB1 rfl (fun h_1 => ?_) (fun h_1 => ?_)
  · refine r_ild rfl rfl ?_
    refine r_ifB1 rfl (fun h_2 => ?_) (fun h_2 => ?_)
    · refine r_ald rfl rfl ?_
      refine r_ild rfl rfl ?_
      refine r_call (as := [zR (some q), zI (nI p)]) (r := [zR (some q)]) (s' := (c, 0, (pubF n r).1, (pubF n r).2.1, v, f, (pubF n r).2.2)) (v := some (zI (bI (false)))) rfl rfl rfl (Nat.le_of_ble_eq_true rfl) (Or.inr ⟨rfl, rfl, _, rfl⟩) (c_hasSameZ hv h40 hR hs) ?_
      refine r_ifB0 rfl (fun h_3 => ?_) (fun h_3 => ?_)
      · refine r_ald rfl rfl ?_
        refine r_get rfl rfl ?_
        refine r_ico (x := (nI 40)) rfl rfl ?_
        refine r_cmpN (by omega) (by omega) rfl (fun h_4 => ?_) (fun h_4 => ?_)
        · replace h_4 : ¬ v = 40 := h_4
          refine r_ico (x := (nI 0)) rfl rfl ?_
          refine r_put (s' := (0, 0, (pubF n r).1, (pubF n r).2.1, v, f, (pubF n r).2.2)) rfl (Nat.le_of_ble_eq_true rfl) ⟨_, rfl⟩ rfl rfl ?_
          exact l_pubD (c := c) hv2 hm hM ⟨rfl, rfl⟩
        · replace h_4 : v = 40 := Decidable.of_not_not h_4
          omega
      · cases h_3
    · cases h_2
  · cases h_1
