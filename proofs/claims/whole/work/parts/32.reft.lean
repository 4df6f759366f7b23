theorem c_asksZ {q : Nat} {qa : Nat → Nat} {d c n a v f : Nat} {b z : Bool} {r : rA} (hn : n ≤ 160) (h : (!(rqR 213 n 0 r).2.1 && decide ((rqR 213 n 0 r).1 = n)) = z) : rFun q qa (d + 7) 128 [zR (some q)] (c, n, a, b, v, f, r) (c, 0, (rqR 213 n 0 r).1, (rqR 213 n 0 r).2.1, v, f, (rqR 213 n 0 r).2.2) (some (zI (bI z))) := by
  subst h
  exact c_asks hn
theorem c_isRightZ {q : Nat} {qa : Nat → Nat} {d c n a v f : Nat} {b z : Bool} {r : rA} (hn : n ≤ 160) (ha : a < 100000) (h : (!b && decide (a = n)) = z) : rFun q qa (d + 1) 113 [zR (some q)] (c, n, a, b, v, f, r) (c, 0, a, b, v, f, r) (some (zI (bI z))) := by
  subst h
  exact c_isRight hn ha
theorem c_hasSameZ {q : Nat} {qa : Nat → Nat} {d c n a v f : Nat} {b z : Bool} {r : rA} {pk : Int32} (hv : v ≤ 40) (h40 : rowOK r 40) (hR : ∀ k, k < v → rowOK r k) (h : hsF r pk v = z) : rFun q qa (d + 5) 124 [zR (some q), zI pk] (c, n, a, b, v, f, r) (c, n, a, b, v, f, r) (some (zI (bI z))) := by
  subst h
  exact c_hasSame hv h40 hR
/-- k rows from i on, laid into those from j on -/
def crN (r : rA) (i j : Nat) : Nat → rA
  | 0 => r
  | k + 1 => crF (crN r i j k) (i + k) (j + k)
theorem crF_n {r : rA} {i j k : Nat} (h : k < 5 ∨ 11 < k) : crF r i j k = r k := by
  unfold crF
  rw [cpW_n (by omega), rset_n _ _ _ (by omega), rset_n _ _ _ (by omega), rset_n _ _ _ (by omega), rset_n _ _ _ (by omega), rset_n _ _ _ (by omega), rset_n _ _ _ (by omega)]
theorem crN_n {r : rA} {i j k : Nat} (h : k < 5 ∨ 11 < k) : ∀ m, crN r i j m k = r k
  | 0 => rfl
  | m + 1 => by rw [crN, crF_n h]; exact crN_n h m
/-- a requirement is wanted of package p -/
def wtF (R : rA) (p : Nat) : rA := crN (rset (rset R 20 p (bI true)) 12 p ((rset R 20 p (bI true)) 12 213)) 893 (41 + 4 * p) 4
/-- the highest of the first k versions of package pk that meets what is asked -/
def bsF (r : rA) (pk : Int32) : Nat → Int32
  | 0 => -1
  | k + 1 => if r 16 k = pk then (if r 17 k = 0 then (if maF r 213 k = true then (if bsF r pk k = -1 then nI k else if ordF r k (wsz r k) (bsF r pk k).toNatClampNeg (wsz r (bsF r pk k).toNatClampNeg) ≤ 0 then bsF r pk k else nI k) else bsF r pk k) else bsF r pk k) else bsF r pk k
theorem bsF_ex (r : rA) (pk : Int32) : ∀ k, bsF r pk k = -1 ∨ ∃ j, j < k ∧ bsF r pk k = nI j
  | 0 => Or.inl rfl
  | k + 1 => by
    have h : bsF r pk k = -1 ∨ ∃ j, j < k + 1 ∧ bsF r pk k = nI j := (bsF_ex r pk k).imp id (fun ⟨j, h, e⟩ => ⟨j, by omega, e⟩)
    have h2 : nI k = -1 ∨ ∃ j, j < k + 1 ∧ nI k = nI j := Or.inr ⟨k, by omega, rfl⟩
    unfold bsF
    (repeat' split) <;> assumption
/-- the needs of the new version, laid into its own rows -/
def pbN (R : rA) (v : Nat) : Nat → rA
  | 0 => R
  | k + 1 => crN (rset (rset (pbN R v k) 13 (5 * v + k) (pbN R v k 13 (200 + k))) 12 (8 + 5 * v + k) ((rset (pbN R v k) 13 (5 * v + k) (pbN R v k 13 (200 + k))) 12 (208 + k))) (41 + 4 * (208 + k)) (41 + 4 * (8 + 5 * v + k)) 4
theorem pbN_n {R : rA} {v j : Nat} (h : j < 5 ∨ 13 < j) : ∀ k, pbN R v k j = R j
  | 0 => rfl
  | k + 1 => by
    rw [pbN, crN_n (by omega), rset_n _ _ _ (by omega), rset_n _ _ _ (by omega)]
    exact pbN_n h k
/-- the new version's row, name, package and number of needs -/
def pb1 (R : rA) (v : Nat) : rA := rset (crF R 40 v) 18 v ((crF R 40 v) 18 40)
def pb2 (R : rA) (v : Nat) (pk : Int32) : rA :=
  let R3 := rput (pb1 R v) 19 (24 * v) (fun y => pb1 R v 19 (960 + y)) 24
  let R5 := rset (rset R3 16 v pk) 17 v (bI false)
  rset R5 14 v (R5 14 40)
/-- what publish does with the arrays -/
def pbR (R : rA) (v : Nat) (pk : Int32) : rA := pbN (pb2 R v pk) v (R 14 40).toNatClampNeg
set_option maxHeartbeats 1000000 in
theorem c_wantX {q : Nat} {qa : Nat → Nat} {d c n a v f : Nat} {b : Bool} {r : rA} {x : Int32} (hn : n ≤ 160) (hx : isIn x (nI 0) (nI 7) = false) : rFun q qa (d + 8) 129 [zR (some q), zI (x)] (c, n, a, b, v, f, r) (1, 0, (rqR 213 n 0 r).1, (rqR 213 n 0 r).2.1, v, f, (rqR 213 n 0 r).2.2) none := by
  refine rFun.of (d := d + 7) (T := tb_129) (L := [some (zR (some q)), some (zI (x)), none, none]) (Nat.le_of_ble_eq_true rfl) rfl rfl ?_
  refine r_ald rfl rfl ?_
  refine r_call (as := [zR (some q)]) (r := []) (s' := (c, 0, (rqR 213 n 0 r).1, (rqR 213 n 0 r).2.1, v, f, (rqR 213 n 0 r).2.2)) (v := some (zI (bI (!(rqR 213 n 0 r).2.1 && decide ((rqR 213 n 0 r).1 = n))))) rfl rfl rfl (Nat.le_of_ble_eq_true rfl) (Or.inr ⟨rfl, rfl, _, rfl⟩) (c_asks hn) ?_
  refine r_ist (ls' := [some (zR (some q)), some (zI (x)), some (zI (bI (!(rqR 213 n 0 r).2.1 && decide ((rqR 213 n 0 r).1 = n)))), none]) rfl (Nat.le_of_ble_eq_true rfl) rfl ?_
  refine r_ald rfl rfl ?_
  refine r_ild rfl rfl ?_
  refine r_ico (x := (nI 0)) rfl rfl ?_
  refine r_ico (x := (nI 7)) rfl rfl ?_
  refine r_call (as := [zI (x), zI (nI 0), zI (nI 7)]) (r := [zR (some q)]) (s' := (c, 0, (rqR 213 n 0 r).1, (rqR 213 n 0 r).2.1, v, f, (rqR 213 n 0 r).2.2)) (v := some (zI (bI (false)))) rfl rfl rfl (Nat.le_of_ble_eq_true rfl) (Or.inl rfl) (c_inZ hx) ?_
  refine r_ifB1 rfl (fun h_1 => ?_) (fun h_1 => ?_)
  · cases h_1
  · refine r_ico (x := (nI 1)) rfl rfl ?_
    refine r_go rfl ?_
    refine r_put (s' := (1, 0, (rqR 213 n 0 r).1, (rqR 213 n 0 r).2.1, v, f, (rqR 213 n 0 r).2.2)) rfl (Nat.le_of_ble_eq_true rfl) ⟨_, rfl⟩ rfl rfl ?_
    refine r_ald rfl rfl ?_
    refine r_get rfl rfl ?_
    refine r_ifN (by omega) rfl (fun h_2 => ?_) (fun h_2 => ?_)
    · replace h_2 : 1 ≤ 0 := h_2
      omega
    · replace h_2 := Nat.not_le.mp h_2
      refine r_rtv rfl ?_
      exact ⟨rfl, rfl⟩
set_option maxHeartbeats 1000000 in
theorem c_bestX {q : Nat} {qa : Nat → Nat} {d c n a v f : Nat} {b : Bool} {r : rA} {x : Int32} (hn : n ≤ 160) (hv : v ≤ 40) (hx : isIn x (nI 0) (nI 7) = false) : rFun q qa (d + 8) 145 [zR (some q), zI (x)] (c, n, a, b, v, f, r) (1, 0, (rqR 213 n 0 r).1, (rqR 213 n 0 r).2.1, v, f, (rqR 213 n 0 r).2.2) (some (zI (nI 0))) := by
  refine rFun.of (d := d + 7) (T := tb_145) (L := [some (zR (some q)), some (zI (x)), none, none, none, none]) (Nat.le_of_ble_eq_true rfl) rfl rfl ?_
  refine r_ald rfl rfl ?_
  refine r_call (as := [zR (some q)]) (r := []) (s' := (c, 0, (rqR 213 n 0 r).1, (rqR 213 n 0 r).2.1, v, f, (rqR 213 n 0 r).2.2)) (v := some (zI (bI (!(rqR 213 n 0 r).2.1 && decide ((rqR 213 n 0 r).1 = n))))) rfl rfl rfl (Nat.le_of_ble_eq_true rfl) (Or.inr ⟨rfl, rfl, _, rfl⟩) (c_asks hn) ?_
  refine r_ist (ls' := [some (zR (some q)), some (zI (x)), some (zI (bI (!(rqR 213 n 0 r).2.1 && decide ((rqR 213 n 0 r).1 = n)))), none, none, none]) rfl (Nat.le_of_ble_eq_true rfl) rfl ?_
  refine r_ald rfl rfl ?_
  refine r_ild rfl rfl ?_
  refine r_ico (x := (nI 0)) rfl rfl ?_
  refine r_ico (x := (nI 7)) rfl rfl ?_
  refine r_call (as := [zI (x), zI (nI 0), zI (nI 7)]) (r := [zR (some q)]) (s' := (c, 0, (rqR 213 n 0 r).1, (rqR 213 n 0 r).2.1, v, f, (rqR 213 n 0 r).2.2)) (v := some (zI (bI (false)))) rfl rfl rfl (Nat.le_of_ble_eq_true rfl) (Or.inl rfl) (c_inZ hx) ?_
  refine r_ifB1 rfl (fun h_1 => ?_) (fun h_1 => ?_)
  · cases h_1
  · refine r_ico (x := (nI 1)) rfl rfl ?_
    refine r_go rfl ?_
    refine r_put (s' := (1, 0, (rqR 213 n 0 r).1, (rqR 213 n 0 r).2.1, v, f, (rqR 213 n 0 r).2.2)) rfl (Nat.le_of_ble_eq_true rfl) ⟨_, rfl⟩ rfl rfl ?_
    refine r_ico (x := (-1)) rfl rfl ?_
    refine r_ist (ls' := [some (zR (some q)), some (zI (x)), some (zI (bI (!(rqR 213 n 0 r).2.1 && decide ((rqR 213 n 0 r).1 = n)))), some (zI (-1)), none, none]) rfl (Nat.le_of_ble_eq_true rfl) rfl ?_
    refine r_ico (x := (nI 0)) rfl rfl ?_
    refine r_ist (ls' := [some (zR (some q)), some (zI (x)), some (zI (bI (!(rqR 213 n 0 r).2.1 && decide ((rqR 213 n 0 r).1 = n)))), some (zI (-1)), some (zI (nI 0)), none]) rfl (Nat.le_of_ble_eq_true rfl) rfl ?_
    refine r_ild rfl rfl ?_
    refine r_ald rfl rfl ?_
    refine r_get rfl rfl ?_
    refine r_cmpN (by omega) (by omega) rfl (fun h_2 => ?_) (fun h_2 => ?_)
    · replace h_2 : v ≤ 0 := h_2
      refine r_ald rfl rfl ?_
      refine r_get rfl rfl ?_
      refine r_ifN (by omega) rfl (fun h_3 => ?_) (fun h_3 => ?_)
      · replace h_3 : 1 ≤ 0 := h_3
        omega
      · replace h_3 := Nat.not_le.mp h_3
        refine r_ico (x := (nI 0)) rfl rfl ?_
        refine r_go rfl ?_
        refine r_ret rfl ⟨_, rfl⟩ ?_
        exact ⟨rfl, rfl⟩
    · replace h_2 := Nat.not_le.mp h_2
      refine r_ald rfl rfl ?_
      refine r_get rfl rfl ?_
      refine r_ifN (by omega) rfl (fun h_4 => ?_) (fun h_4 => ?_)
      · replace h_4 : ¬ 1 = 0 := h_4
        refine r_ald rfl rfl ?_
        refine r_get rfl rfl ?_
        refine r_ifN (by omega) rfl (fun h_5 => ?_) (fun h_5 => ?_)
        · replace h_5 : 1 ≤ 0 := h_5
          omega
        · replace h_5 := Nat.not_le.mp h_5
          refine r_ico (x := (nI 0)) rfl rfl ?_
          refine r_go rfl ?_
          refine r_ret rfl ⟨_, rfl⟩ ?_
          exact ⟨rfl, rfl⟩
      · replace h_4 : 1 = 0 := Decidable.of_not_not h_4
        omega
set_option maxHeartbeats 1000000 in
theorem c_meetsX {q : Nat} {qa : Nat → Nat} {d c n a v f : Nat} {b : Bool} {r : rA} {x : Int32} (hn : n ≤ 160) (hx : isIn x (nI 0) (nI v - nI 1) = false) : rFun q qa (d + 8) 144 [zR (some q), zI (x)] (c, n, a, b, v, f, r) (1, 0, (rqR 213 n 0 r).1, (rqR 213 n 0 r).2.1, v, f, (rqR 213 n 0 r).2.2) (some (zI (bI (false)))) := by
  refine rFun.of (d := d + 7) (T := tb_144) (L := [some (zR (some q)), some (zI (x)), none]) (Nat.le_of_ble_eq_true rfl) rfl rfl ?_
  refine r_ald rfl rfl ?_
  refine r_call (as := [zR (some q)]) (r := []) (s' := (c, 0, (rqR 213 n 0 r).1, (rqR 213 n 0 r).2.1, v, f, (rqR 213 n 0 r).2.2)) (v := some (zI (bI (!(rqR 213 n 0 r).2.1 && decide ((rqR 213 n 0 r).1 = n))))) rfl rfl rfl (Nat.le_of_ble_eq_true rfl) (Or.inr ⟨rfl, rfl, _, rfl⟩) (c_asks hn) ?_
  refine r_ist (ls' := [some (zR (some q)), some (zI (x)), some (zI (bI (!(rqR 213 n 0 r).2.1 && decide ((rqR 213 n 0 r).1 = n))))]) rfl (Nat.le_of_ble_eq_true rfl) rfl ?_
  refine r_ald rfl rfl ?_
  refine r_ald rfl rfl ?_
  refine r_ild rfl rfl ?_
  refine r_call (as := [zR (some q), zI (x)]) (r := [zR (some q)]) (s' := (c, 0, (rqR 213 n 0 r).1, (rqR 213 n 0 r).2.1, v, f, (rqR 213 n 0 r).2.2)) (v := some (zI (bI (false)))) rfl rfl rfl (Nat.le_of_ble_eq_true rfl) (Or.inr ⟨rfl, rfl, _, rfl⟩) (c_isVersionZ hx) ?_
  refine r_ifB1 rfl (fun h_1 => ?_) (fun h_1 => ?_)
  · cases h_1
  · refine r_ico (x := (nI 1)) rfl rfl ?_
    refine r_go rfl ?_
    refine r_put (s' := (1, 0, (rqR 213 n 0 r).1, (rqR 213 n 0 r).2.1, v, f, (rqR 213 n 0 r).2.2)) rfl (Nat.le_of_ble_eq_true rfl) ⟨_, rfl⟩ rfl rfl ?_
    refine r_ald rfl rfl ?_
    refine r_get rfl rfl ?_
    refine r_ifN (by omega) rfl (fun h_2 => ?_) (fun h_2 => ?_)
    · replace h_2 : ¬ 1 = 0 := h_2
      refine r_ico (x := (nI 0)) rfl rfl ?_
      refine r_ret rfl ⟨_, rfl, Or.inl rfl⟩ ?_
      exact ⟨rfl, rfl⟩
    · replace h_2 : 1 = 0 := Decidable.of_not_not h_2
      omega
set_option maxHeartbeats 1000000 in
theorem c_want2 {q : Nat} {qa : Nat → Nat} {d c n a v f : Nat} {b : Bool} {r : rA} {p : Nat} (hn : n ≤ 160) (hp : p < 8) (hr : (!(rqR 213 n 0 r).2.1 && decide ((rqR 213 n 0 r).1 = n)) = false) : rFun q qa (d + 8) 129 [zR (some q), zI (nI p)] (c, n, a, b, v, f, r) (2, 0, (rqR 213 n 0 r).1, (rqR 213 n 0 r).2.1, v, f, (rqR 213 n 0 r).2.2) none := by
  refine rFun.of (d := d + 7) (T := tb_129) (L := [some (zR (some q)), some (zI (nI p)), none, none]) (Nat.le_of_ble_eq_true rfl) rfl rfl ?_
  refine r_ald rfl rfl ?_
  refine r_call (as := [zR (some q)]) (r := []) (s' := (c, 0, (rqR 213 n 0 r).1, (rqR 213 n 0 r).2.1, v, f, (rqR 213 n 0 r).2.2)) (v := some (zI (bI (false)))) rfl rfl rfl (Nat.le_of_ble_eq_true rfl) (Or.inr ⟨rfl, rfl, _, rfl⟩) (c_asksZ hn hr) ?_
  refine r_ist (ls' := [some (zR (some q)), some (zI (nI p)), some (zI (bI (false))), none]) rfl (Nat.le_of_ble_eq_true rfl) rfl ?_
  refine r_ald rfl rfl ?_
  refine r_ild rfl rfl ?_
  refine r_ico (x := (nI 0)) rfl rfl ?_
  refine r_ico (x := (nI 7)) rfl rfl ?_
  refine r_call (as := [zI (nI p), zI (nI 0), zI (nI 7)]) (r := [zR (some q)]) (s' := (c, 0, (rqR 213 n 0 r).1, (rqR 213 n 0 r).2.1, v, f, (rqR 213 n 0 r).2.2)) (v := some (zI (bI (true)))) rfl rfl rfl (Nat.le_of_ble_eq_true rfl) (Or.inl rfl) (c_inZ (isIn_n (by omega) (by decide))) ?_
  refine r_ifB1 rfl (fun h_1 => ?_) (fun h_1 => ?_)
  · refine r_ild rfl rfl ?_
    refine r_ifB0 rfl (fun h_2 => ?_) (fun h_2 => ?_)
    · refine r_ico (x := (nI 2)) rfl rfl ?_
      refine r_put (s' := (2, 0, (rqR 213 n 0 r).1, (rqR 213 n 0 r).2.1, v, f, (rqR 213 n 0 r).2.2)) rfl (Nat.le_of_ble_eq_true rfl) ⟨_, rfl⟩ rfl rfl ?_
      refine r_ald rfl rfl ?_
      refine r_get rfl rfl ?_
      refine r_ifN (by omega) rfl (fun h_3 => ?_) (fun h_3 => ?_)
      · replace h_3 : 2 ≤ 0 := h_3
        omega
      · replace h_3 := Nat.not_le.mp h_3
        refine r_rtv rfl ?_
        exact ⟨rfl, rfl⟩
    · cases h_2
  · cases h_1
set_option maxHeartbeats 1000000 in
theorem c_best2 {q : Nat} {qa : Nat → Nat} {d c n a v f : Nat} {b : Bool} {r : rA} {p : Nat} (hn : n ≤ 160) (hv : v ≤ 40) (hp : p < 8) (hr : (!(rqR 213 n 0 r).2.1 && decide ((rqR 213 n 0 r).1 = n)) = false) : rFun q qa (d + 8) 145 [zR (some q), zI (nI p)] (c, n, a, b, v, f, r) (2, 0, (rqR 213 n 0 r).1, (rqR 213 n 0 r).2.1, v, f, (rqR 213 n 0 r).2.2) (some (zI (nI 0))) := by
  refine rFun.of (d := d + 7) (T := tb_145) (L := [some (zR (some q)), some (zI (nI p)), none, none, none, none]) (Nat.le_of_ble_eq_true rfl) rfl rfl ?_
  refine r_ald rfl rfl ?_
  refine r_call (as := [zR (some q)]) (r := []) (s' := (c, 0, (rqR 213 n 0 r).1, (rqR 213 n 0 r).2.1, v, f, (rqR 213 n 0 r).2.2)) (v := some (zI (bI (false)))) rfl rfl rfl (Nat.le_of_ble_eq_true rfl) (Or.inr ⟨rfl, rfl, _, rfl⟩) (c_asksZ hn hr) ?_
  refine r_ist (ls' := [some (zR (some q)), some (zI (nI p)), some (zI (bI (false))), none, none, none]) rfl (Nat.le_of_ble_eq_true rfl) rfl ?_
  refine r_ald rfl rfl ?_
  refine r_ild rfl rfl ?_
  refine r_ico (x := (nI 0)) rfl rfl ?_
  refine r_ico (x := (nI 7)) rfl rfl ?_
  refine r_call (as := [zI (nI p), zI (nI 0), zI (nI 7)]) (r := [zR (some q)]) (s' := (c, 0, (rqR 213 n 0 r).1, (rqR 213 n 0 r).2.1, v, f, (rqR 213 n 0 r).2.2)) (v := some (zI (bI (true)))) rfl rfl rfl (Nat.le_of_ble_eq_true rfl) (Or.inl rfl) (c_inZ (isIn_n (by omega) (by decide))) ?_
  refine r_ifB1 rfl (fun h_1 => ?_) (fun h_1 => ?_)
  · refine r_ild rfl rfl ?_
    refine r_ifB0 rfl (fun h_2 => ?_) (fun h_2 => ?_)
    · refine r_ico (x := (nI 2)) rfl rfl ?_
      refine r_put (s' := (2, 0, (rqR 213 n 0 r).1, (rqR 213 n 0 r).2.1, v, f, (rqR 213 n 0 r).2.2)) rfl (Nat.le_of_ble_eq_true rfl) ⟨_, rfl⟩ rfl rfl ?_
      refine r_ico (x := (-1)) rfl rfl ?_
      refine r_ist (ls' := [some (zR (some q)), some (zI (nI p)), some (zI (bI (false))), some (zI (-1)), none, none]) rfl (Nat.le_of_ble_eq_true rfl) rfl ?_
      refine r_ico (x := (nI 0)) rfl rfl ?_
      refine r_ist (ls' := [some (zR (some q)), some (zI (nI p)), some (zI (bI (false))), some (zI (-1)), some (zI (nI 0)), none]) rfl (Nat.le_of_ble_eq_true rfl) rfl ?_
      refine r_ild rfl rfl ?_
      refine r_ald rfl rfl ?_
      refine r_get rfl rfl ?_
      refine r_cmpN (by omega) (by omega) rfl (fun h_3 => ?_) (fun h_3 => ?_)
      · replace h_3 : v ≤ 0 := h_3
        refine r_ald rfl rfl ?_
        refine r_get rfl rfl ?_
        refine r_ifN (by omega) rfl (fun h_4 => ?_) (fun h_4 => ?_)
        · replace h_4 : 2 ≤ 0 := h_4
          omega
        · replace h_4 := Nat.not_le.mp h_4
          refine r_ico (x := (nI 0)) rfl rfl ?_
          refine r_go rfl ?_
          refine r_ret rfl ⟨_, rfl⟩ ?_
          exact ⟨rfl, rfl⟩
      · replace h_3 := Nat.not_le.mp h_3
        refine r_ald rfl rfl ?_
        refine r_get rfl rfl ?_
        refine r_ifN (by omega) rfl (fun h_5 => ?_) (fun h_5 => ?_)
        · replace h_5 : ¬ 2 = 0 := h_5
          refine r_ald rfl rfl ?_
          refine r_get rfl rfl ?_
          refine r_ifN (by omega) rfl (fun h_6 => ?_) (fun h_6 => ?_)
          · replace h_6 : 2 ≤ 0 := h_6
            omega
          · replace h_6 := Nat.not_le.mp h_6
            refine r_ico (x := (nI 0)) rfl rfl ?_
            refine r_go rfl ?_
            refine r_ret rfl ⟨_, rfl⟩ ?_
            exact ⟨rfl, rfl⟩
        · replace h_5 : 2 = 0 := Decidable.of_not_not h_5
          omega
    · cases h_2
  · cases h_1
set_option maxHeartbeats 1000000 in
theorem c_meets2 {q : Nat} {qa : Nat → Nat} {d c n a v f : Nat} {b : Bool} {r : rA} {i : Nat} (hn : n ≤ 160) (hv : v ≤ 40) (hi : i < v) (hr : (!(rqR 213 n 0 r).2.1 && decide ((rqR 213 n 0 r).1 = n)) = false) : rFun q qa (d + 8) 144 [zR (some q), zI (nI i)] (c, n, a, b, v, f, r) (2, 0, (rqR 213 n 0 r).1, (rqR 213 n 0 r).2.1, v, f, (rqR 213 n 0 r).2.2) (some (zI (bI (false)))) := by
  refine rFun.of (d := d + 7) (T := tb_144) (L := [some (zR (some q)), some (zI (nI i)), none]) (Nat.le_of_ble_eq_true rfl) rfl rfl ?_
  refine r_ald rfl rfl ?_
  refine r_call (as := [zR (some q)]) (r := []) (s' := (c, 0, (rqR 213 n 0 r).1, (rqR 213 n 0 r).2.1, v, f, (rqR 213 n 0 r).2.2)) (v := some (zI (bI (false)))) rfl rfl rfl (Nat.le_of_ble_eq_true rfl) (Or.inr ⟨rfl, rfl, _, rfl⟩) (c_asksZ hn hr) ?_
  refine r_ist (ls' := [some (zR (some q)), some (zI (nI i)), some (zI (bI (false)))]) rfl (Nat.le_of_ble_eq_true rfl) rfl ?_
  refine r_ald rfl rfl ?_
  refine r_ald rfl rfl ?_
  refine r_ild rfl rfl ?_
  refine r_call (as := [zR (some q), zI (nI i)]) (r := [zR (some q)]) (s' := (c, 0, (rqR 213 n 0 r).1, (rqR 213 n 0 r).2.1, v, f, (rqR 213 n 0 r).2.2)) (v := some (zI (bI (true)))) rfl rfl rfl (Nat.le_of_ble_eq_true rfl) (Or.inr ⟨rfl, rfl, _, rfl⟩) (c_isVersionZ (isIn_v hi (by omega))) ?_
  refine r_ifB1 rfl (fun h_1 => ?_) (fun h_1 => ?_)
  · refine r_ild rfl rfl ?_
    refine r_ifB0 rfl (fun h_2 => ?_) (fun h_2 => ?_)
    · refine r_ico (x := (nI 2)) rfl rfl ?_
      refine r_put (s' := (2, 0, (rqR 213 n 0 r).1, (rqR 213 n 0 r).2.1, v, f, (rqR 213 n 0 r).2.2)) rfl (Nat.le_of_ble_eq_true rfl) ⟨_, rfl⟩ rfl rfl ?_
      refine r_ald rfl rfl ?_
      refine r_get rfl rfl ?_
      refine r_ifN (by omega) rfl (fun h_3 => ?_) (fun h_3 => ?_)
      · replace h_3 : ¬ 2 = 0 := h_3
        refine r_ico (x := (nI 0)) rfl rfl ?_
        refine r_ret rfl ⟨_, rfl, Or.inl rfl⟩ ?_
        exact ⟨rfl, rfl⟩
      · replace h_3 : 2 = 0 := Decidable.of_not_not h_3
        omega
    · cases h_2
  · cases h_1
set_option maxHeartbeats 1000000 in
theorem l_want {q : Nat} {qa : Nat → Nat} {d c n a v f : Nat} {b : Bool} {r : rA} {Q : rS → (Option zV ⊕ Nat) → Prop} {p : Nat} {x2 : Int32} (hp : p < 8) (hQ : Q (c, n, a, b, v, f, crN r 893 (41 + 4 * p) 4) (.inl none)) : ∀ k, k ≤ 4 → rEv q qa (d + 7) tb_129 Q 63 [some (zR (some q)), some (zI (nI p)), some (zI (x2)), some (zI (nI k))] [] (c, n, a, b, v, f, crN r 893 (41 + 4 * p) k) := by
  refine dn 4 (fun k hk ih => ?_)
  refine r_ild rfl rfl ?_
  refine r_ico (x := (nI 4)) rfl rfl ?_
  refine r_cmpN (by omega) (by omega) rfl (fun h_1 => ?_) (fun h_1 => ?_)
  · replace h_1 : 4 ≤ k := h_1
    refine r_rtv rfl ?_
    have h3 : k = 4 := by omega
    rw [h3]
    exact hQ
  · replace h_1 := Nat.not_le.mp h_1
    refine r_ald rfl rfl ?_
    refine r_ico (x := (nI 893)) rfl rfl ?_
    refine r_ild rfl rfl ?_
    refine r_ibi (v := (nI (893 + k))) rfl (nI_add _ _) ?_
    refine r_ico (x := (nI 41)) rfl rfl ?_
    refine r_ico (x := (nI 4)) rfl rfl ?_
    refine r_ild rfl rfl ?_
    refine r_ibi (v := (nI (4 * p))) rfl (pk_mul _ _) ?_
    refine r_ibi (v := (nI (41 + (4 * p)))) rfl (nI_add _ _) ?_
    refine r_ild rfl rfl ?_
    refine r_ibi (v := (nI (41 + (4 * p) + k))) rfl (nI_add _ _) ?_
    refine r_call (as := [zR (some q), zI (nI (893 + k)), zI (nI (41 + (4 * p) + k))]) (r := []) (s' := (c, n, a, b, v, f, crF (crN r 893 (41 + 4 * p) k) (893 + k) (41 + (4 * p) + k))) (v := none) rfl rfl rfl (Nat.le_of_ble_eq_true rfl) (Or.inr ⟨rfl, rfl, _, rfl⟩) (c_copyRow (by omega) (by omega) (by omega)) ?_
    refine r_inc (x' := (nI (k + 1))) (ls' := [some (zR (some q)), some (zI (nI p)), some (zI (x2)), some (zI (nI (k + 1)))]) rfl rfl (nI_1 _) rfl ?_
    refine r_go rfl ?_
    exact ih (by omega)
set_option maxHeartbeats 1000000 in
theorem c_want0 {q : Nat} {qa : Nat → Nat} {d c n a v f : Nat} {b : Bool} {r : rA} {p : Nat} (hn : n ≤ 160) (hp : p < 8) (hr : (!(rqR 213 n 0 r).2.1 && decide ((rqR 213 n 0 r).1 = n)) = true) : rFun q qa (d + 8) 129 [zR (some q), zI (nI p)] (c, n, a, b, v, f, r) (0, 0, (rqR 213 n 0 r).1, (rqR 213 n 0 r).2.1, v, f, wtF (rqR 213 n 0 r).2.2 p) none := by
  refine rFun.of (d := d + 7) (T := tb_129) (L := [some (zR (some q)), some (zI (nI p)), none, none]) (Nat.le_of_ble_eq_true rfl) rfl rfl ?_
  refine r_ald rfl rfl ?_
  refine r_call (as := [zR (some q)]) (r := []) (s' := (c, 0, (rqR 213 n 0 r).1, (rqR 213 n 0 r).2.1, v, f, (rqR 213 n 0 r).2.2)) (v := some (zI (bI (true)))) rfl rfl rfl (Nat.le_of_ble_eq_true rfl) (Or.inr ⟨rfl, rfl, _, rfl⟩) (c_asksZ hn hr) ?_
  refine r_ist (ls' := [some (zR (some q)), some (zI (nI p)), some (zI (bI (true))), none]) rfl (Nat.le_of_ble_eq_true rfl) rfl ?_
  refine r_ald rfl rfl ?_
  refine r_ild rfl rfl ?_
  refine r_ico (x := (nI 0)) rfl rfl ?_
  refine r_ico (x := (nI 7)) rfl rfl ?_
  refine r_call (as := [zI (nI p), zI (nI 0), zI (nI 7)]) (r := [zR (some q)]) (s' := (c, 0, (rqR 213 n 0 r).1, (rqR 213 n 0 r).2.1, v, f, (rqR 213 n 0 r).2.2)) (v := some (zI (bI (true)))) rfl rfl rfl (Nat.le_of_ble_eq_true rfl) (Or.inl rfl) (c_inZ (isIn_n (by omega) (by decide))) ?_
  refine r_ifB1 rfl (fun h_1 => ?_) (fun h_1 => ?_)
  · refine r_ild rfl rfl ?_
    refine r_ifB0 rfl (fun h_2 => ?_) (fun h_2 => ?_)
    · cases h_2
    · refine r_ico (x := (nI 0)) rfl rfl ?_
      refine r_go rfl ?_
      refine r_put (s' := (0, 0, (rqR 213 n 0 r).1, (rqR 213 n 0 r).2.1, v, f, (rqR 213 n 0 r).2.2)) rfl (Nat.le_of_ble_eq_true rfl) ⟨_, rfl⟩ rfl rfl ?_
      refine r_ald rfl rfl ?_
      refine r_get rfl rfl ?_
      refine r_ifN (by omega) rfl (fun h_3 => ?_) (fun h_3 => ?_)
      · replace h_3 : 0 ≤ 0 := h_3
        refine r_ald rfl rfl ?_
        refine r_get rfl rfl ?_
        refine r_ild rfl rfl ?_
        refine r_ico (x := (nI 1)) rfl rfl ?_
        refine r_iastN (k0 := 20) (x' := (bI (true))) rfl rfl (by omega) (by decide) (by decide +kernel) ?_
        refine r_ald rfl rfl ?_
        refine r_get rfl rfl ?_
        refine r_ild rfl rfl ?_
        refine r_ald rfl rfl ?_
        refine r_get rfl rfl ?_
        refine r_ico (x := (nI 213)) rfl rfl ?_
        refine r_ialdN (k0 := 12) rfl rfl (by omega) (by decide) ?_
        refine r_iastN (k0 := 12) (x' := ((rset ((rqR 213 n 0 r).2.2) 20 p (bI (true))) 12 213)) rfl rfl (by omega) (by decide) rfl ?_
        refine r_ico (x := (nI 0)) rfl rfl ?_
        refine r_ist (ls' := [some (zR (some q)), some (zI (nI p)), some (zI (bI (true))), some (zI (nI 0))]) rfl (Nat.le_of_ble_eq_true rfl) rfl ?_
        exact l_want (x2 := bI true) hp ⟨rfl, rfl⟩ 0 (by omega)
      · replace h_3 := Nat.not_le.mp h_3
        omega
  · cases h_1
set_option maxHeartbeats 1000000 in
theorem c_meets0 {q : Nat} {qa : Nat → Nat} {d c n a v f : Nat} {b : Bool} {r : rA} {i : Nat} (hn : n ≤ 160) (hv : v ≤ 40) (hi : i < v) (hI : rowOK (rqR 213 n 0 r).2.2 i) (hC : (rqR 213 n 0 r).2.2 12 213 = nI (cnt (rqR 213 n 0 r).2.2 213)) (hc5 : cnt (rqR 213 n 0 r).2.2 213 ≤ 5) (hR : ∀ m, m < cnt (rqR 213 n 0 r).2.2 213 → rowOK (rqR 213 n 0 r).2.2 (41 + 4 * 213 + m)) (hr : (!(rqR 213 n 0 r).2.1 && decide ((rqR 213 n 0 r).1 = n)) = true) : rFun q qa (d + 8) 144 [zR (some q), zI (nI i)] (c, n, a, b, v, f, r) (0, 0, (rqR 213 n 0 r).1, (rqR 213 n 0 r).2.1, v, f, (rqR 213 n 0 r).2.2) (some (zI (bI (maF (rqR 213 n 0 r).2.2 213 i)))) := by
  refine rFun.of (d := d + 7) (T := tb_144) (L := [some (zR (some q)), some (zI (nI i)), none]) (Nat.le_of_ble_eq_true rfl) rfl rfl ?_
  refine r_ald rfl rfl ?_
  refine r_call (as := [zR (some q)]) (r := []) (s' := (c, 0, (rqR 213 n 0 r).1, (rqR 213 n 0 r).2.1, v, f, (rqR 213 n 0 r).2.2)) (v := some (zI (bI (true)))) rfl rfl rfl (Nat.le_of_ble_eq_true rfl) (Or.inr ⟨rfl, rfl, _, rfl⟩) (c_asksZ hn hr) ?_
  refine r_ist (ls' := [some (zR (some q)), some (zI (nI i)), some (zI (bI (true)))]) rfl (Nat.le_of_ble_eq_true rfl) rfl ?_
  refine r_ald rfl rfl ?_
  refine r_ald rfl rfl ?_
  refine r_ild rfl rfl ?_
  refine r_call (as := [zR (some q), zI (nI i)]) (r := [zR (some q)]) (s' := (c, 0, (rqR 213 n 0 r).1, (rqR 213 n 0 r).2.1, v, f, (rqR 213 n 0 r).2.2)) (v := some (zI (bI (true)))) rfl rfl rfl (Nat.le_of_ble_eq_true rfl) (Or.inr ⟨rfl, rfl, _, rfl⟩) (c_isVersionZ (isIn_v hi (by omega))) ?_
  refine r_ifB1 rfl (fun h_1 => ?_) (fun h_1 => ?_)
  · refine r_ild rfl rfl ?_
    refine r_ifB0 rfl (fun h_2 => ?_) (fun h_2 => ?_)
    · cases h_2
    · refine r_ico (x := (nI 0)) rfl rfl ?_
      refine r_go rfl ?_
      refine r_put (s' := (0, 0, (rqR 213 n 0 r).1, (rqR 213 n 0 r).2.1, v, f, (rqR 213 n 0 r).2.2)) rfl (Nat.le_of_ble_eq_true rfl) ⟨_, rfl⟩ rfl rfl ?_
      refine r_ald rfl rfl ?_
      refine r_get rfl rfl ?_
      refine r_ifN (by omega) rfl (fun h_3 => ?_) (fun h_3 => ?_)
      · replace h_3 : ¬ 0 = 0 := h_3
        omega
      · replace h_3 : 0 = 0 := Decidable.of_not_not h_3
        refine r_ald rfl rfl ?_
        refine r_ico (x := (nI 213)) rfl rfl ?_
        refine r_ild rfl rfl ?_
        refine r_call (as := [zR (some q), zI (nI 213), zI (nI i)]) (r := []) (s' := (0, 0, (rqR 213 n 0 r).1, (rqR 213 n 0 r).2.1, v, f, (rqR 213 n 0 r).2.2)) (v := some (zI (bI (maF ((rqR 213 n 0 r).2.2) 213 i)))) rfl rfl rfl (Nat.le_of_ble_eq_true rfl) (Or.inr ⟨rfl, rfl, _, rfl⟩) (c_meetsAll (by omega) (by omega) hI hC hc5 hR) ?_
        refine r_ifB0 rfl (fun h_4 => ?_) (fun h_4 => ?_)
        · refine r_ico (x := (nI 0)) rfl rfl ?_
          refine r_ret rfl ⟨_, rfl, Or.inl rfl⟩ ?_
          rw [h_4]
          exact ⟨rfl, rfl⟩
        · refine r_ico (x := (nI 1)) rfl rfl ?_
          refine r_go rfl ?_
          refine r_ret rfl ⟨_, rfl, Or.inr rfl⟩ ?_
          rw [h_4]
          exact ⟨rfl, rfl⟩
  · cases h_1
set_option maxHeartbeats 1000000 in
theorem l_best {q : Nat} {qa : Nat → Nat} {d c n a v f : Nat} {b : Bool} {r : rA} {Q : rS → (Option zV ⊕ Nat) → Prop} {pk : Int32} {x2 : Int32} (hv : v ≤ 40) (hV : ∀ k, k < v → rowOK r k) (hC : r 12 213 = nI (cnt r 213)) (hc5 : cnt r 213 ≤ 5) (hR : ∀ m, m < cnt r 213 → rowOK r (41 + 4 * 213 + m)) (hQ : Q (0, n, a, b, v, f, r) (.inl (some (zI (bsF r pk v))))) : ∀ k, k ≤ v → ∀ (x5 : Option zV), rEv q qa (d + 7) tb_145 Q 37 [some (zR (some q)), some (zI (pk)), some (zI (x2)), some (zI (bsF r pk k)), some (zI (nI k)), x5] [] (0, n, a, b, v, f, r) := by
  refine dn v (fun k hk ih x5 => ?_)
  refine r_ild rfl rfl ?_
  refine r_ald rfl rfl ?_
  refine r_get rfl rfl ?_
  refine r_cmpN (by omega) (by omega) rfl (fun h_1 => ?_) (fun h_1 => ?_)
  · replace h_1 : v ≤ k := h_1
    refine r_ald rfl rfl ?_
    refine r_get rfl rfl ?_
    refine r_ifN (by omega) rfl (fun h_2 => ?_) (fun h_2 => ?_)
    · replace h_2 : 0 ≤ 0 := h_2
      refine r_ild rfl rfl ?_
      refine r_ret rfl ⟨_, rfl⟩ ?_
      have h3 : k = v := by omega
      subst h3
      exact hQ
    · replace h_2 := Nat.not_le.mp h_2
      omega
  · replace h_1 := Nat.not_le.mp h_1
    refine r_ald rfl rfl ?_
    refine r_get rfl rfl ?_
    refine r_ifN (by omega) rfl (fun h_3 => ?_) (fun h_3 => ?_)
    · replace h_3 : ¬ 0 = 0 := h_3
      omega
    · replace h_3 : 0 = 0 := Decidable.of_not_not h_3
      refine r_ald rfl rfl ?_
      refine r_get rfl rfl ?_
      refine r_ild rfl rfl ?_
      refine r_ialdN (k0 := 16) rfl rfl (by omega) (by decide) ?_
      refine r_ild rfl rfl ?_
      refine r_cmp rfl (fun h_4 => ?_) (fun h_4 => ?_)
      · replace h_4 : ¬ (r 16 k) = (pk) := h_4
        refine r_ico (x := (nI 0)) rfl rfl ?_
        refine r_ist (ls' := [some (zR (some q)), some (zI (pk)), some (zI (x2)), some (zI (bsF r pk k)), some (zI (nI k)), some (zI (nI 0))]) rfl (Nat.le_of_ble_eq_true rfl) rfl ?_
        refine r_ild rfl rfl ?_
        refine r_ifN (by omega) rfl (fun h_5 => ?_) (fun h_5 => ?_)
        · replace h_5 : 0 = 0 := h_5
          refine r_ild rfl rfl ?_
          refine r_ist (ls' := [some (zR (some q)), some (zI (pk)), some (zI (x2)), some (zI (bsF r pk k)), some (zI (nI k)), some (zI (nI 0))]) rfl (Nat.le_of_ble_eq_true rfl) rfl ?_
          refine r_inc (x' := (nI (k + 1))) (ls' := [some (zR (some q)), some (zI (pk)), some (zI (x2)), some (zI (bsF r pk k)), some (zI (nI (k + 1))), some (zI (nI 0))]) rfl rfl (nI_1 _) rfl ?_
          refine r_go rfl ?_
          have h9 : bsF r pk (k + 1) = (bsF r pk k) := by rw [bsF, if_neg h_4]
          rw [h9] at ih
          exact ih (by omega) _
        · replace h_5 : ¬ (0 = 0) := h_5
          omega
      · replace h_4 : (r 16 k) = (pk) := Decidable.of_not_not h_4
        refine r_ald rfl rfl ?_
        refine r_get rfl rfl ?_
        refine r_ild rfl rfl ?_
        refine r_ialdN (k0 := 17) rfl rfl (by omega) (by decide) ?_
        refine r_if rfl (fun h_6 => ?_) (fun h_6 => ?_)
        · replace h_6 : ¬ (r 17 k) = 0 := h_6
          refine r_ico (x := (nI 0)) rfl rfl ?_
          refine r_ist (ls' := [some (zR (some q)), some (zI (pk)), some (zI (x2)), some (zI (bsF r pk k)), some (zI (nI k)), some (zI (nI 0))]) rfl (Nat.le_of_ble_eq_true rfl) rfl ?_
          refine r_ild rfl rfl ?_
          refine r_ifN (by omega) rfl (fun h_7 => ?_) (fun h_7 => ?_)
          · replace h_7 : 0 = 0 := h_7
            refine r_ild rfl rfl ?_
            refine r_ist (ls' := [some (zR (some q)), some (zI (pk)), some (zI (x2)), some (zI (bsF r pk k)), some (zI (nI k)), some (zI (nI 0))]) rfl (Nat.le_of_ble_eq_true rfl) rfl ?_
            refine r_inc (x' := (nI (k + 1))) (ls' := [some (zR (some q)), some (zI (pk)), some (zI (x2)), some (zI (bsF r pk k)), some (zI (nI (k + 1))), some (zI (nI 0))]) rfl rfl (nI_1 _) rfl ?_
            refine r_go rfl ?_
            have h9 : bsF r pk (k + 1) = (bsF r pk k) := by rw [bsF, if_pos h_4, if_neg h_6]
            rw [h9] at ih
            exact ih (by omega) _
          · replace h_7 : ¬ (0 = 0) := h_7
            omega
        · replace h_6 : (r 17 k) = 0 := Decidable.of_not_not h_6
          refine r_ald rfl rfl ?_
          refine r_ico (x := (nI 213)) rfl rfl ?_
          refine r_ild rfl rfl ?_
          refine r_call (as := [zR (some q), zI (nI 213), zI (nI k)]) (r := []) (s' := (0, n, a, b, v, f, r)) (v := some (zI (bI (maF r 213 k)))) rfl rfl rfl (Nat.le_of_ble_eq_true rfl) (Or.inr ⟨rfl, rfl, _, rfl⟩) (c_meetsAll (by omega) (by omega) (hV k (by omega)) hC hc5 hR) ?_
          refine r_ifB0 rfl (fun h_8 => ?_) (fun h_8 => ?_)
          · refine r_ico (x := (nI 0)) rfl rfl ?_
            refine r_ist (ls' := [some (zR (some q)), some (zI (pk)), some (zI (x2)), some (zI (bsF r pk k)), some (zI (nI k)), some (zI (nI 0))]) rfl (Nat.le_of_ble_eq_true rfl) rfl ?_
            refine r_ild rfl rfl ?_
            refine r_ifN (by omega) rfl (fun h_9 => ?_) (fun h_9 => ?_)
            · replace h_9 : 0 = 0 := h_9
              refine r_ild rfl rfl ?_
              refine r_ist (ls' := [some (zR (some q)), some (zI (pk)), some (zI (x2)), some (zI (bsF r pk k)), some (zI (nI k)), some (zI (nI 0))]) rfl (Nat.le_of_ble_eq_true rfl) rfl ?_
              refine r_inc (x' := (nI (k + 1))) (ls' := [some (zR (some q)), some (zI (pk)), some (zI (x2)), some (zI (bsF r pk k)), some (zI (nI (k + 1))), some (zI (nI 0))]) rfl rfl (nI_1 _) rfl ?_
              refine r_go rfl ?_
              have h9 : bsF r pk (k + 1) = (bsF r pk k) := by rw [bsF, if_pos h_4, if_pos h_6, if_neg (by rw [h_8]; decide)]
              rw [h9] at ih
              exact ih (by omega) _
            · replace h_9 : ¬ (0 = 0) := h_9
              omega
          · refine r_ico (x := (nI 1)) rfl rfl ?_
            refine r_go rfl ?_
            refine r_ist (ls' := [some (zR (some q)), some (zI (pk)), some (zI (x2)), some (zI (bsF r pk k)), some (zI (nI k)), some (zI (nI 1))]) rfl (Nat.le_of_ble_eq_true rfl) rfl ?_
            refine r_ild rfl rfl ?_
            refine r_ifN (by omega) rfl (fun h_10 => ?_) (fun h_10 => ?_)
            · replace h_10 : 1 = 0 := h_10
              omega
            · replace h_10 : ¬ (1 = 0) := h_10
              refine r_ild rfl rfl ?_
              refine r_ico (x := (-1)) rfl rfl ?_
              refine r_cmp rfl (fun h_11 => ?_) (fun h_11 => ?_)
              · replace h_11 : (bsF r pk k) = (-1) := h_11
                refine r_ild rfl rfl ?_
                refine r_go rfl ?_
                refine r_ist (ls' := [some (zR (some q)), some (zI (pk)), some (zI (x2)), some (zI (nI k)), some (zI (nI k)), some (zI (nI 1))]) rfl (Nat.le_of_ble_eq_true rfl) rfl ?_
                refine r_inc (x' := (nI (k + 1))) (ls' := [some (zR (some q)), some (zI (pk)), some (zI (x2)), some (zI (nI k)), some (zI (nI (k + 1))), some (zI (nI 1))]) rfl rfl (nI_1 _) rfl ?_
                refine r_go rfl ?_
                have h9 : bsF r pk (k + 1) = (nI k) := by rw [bsF, if_pos h_4, if_pos h_6, if_pos h_8, if_pos h_11]
                rw [h9] at ih
                exact ih (by omega) _
              · replace h_11 : ¬ ((bsF r pk k) = (-1)) := h_11
                refine r_ald rfl rfl ?_
                refine r_ild rfl rfl ?_
                refine r_ild rfl rfl ?_
                obtain ⟨j, hj, e⟩ := (bsF_ex r pk k).resolve_left h_11
                refine r_top (y := nI j) e ?_
                refine r_call (as := [zR (some q), zI (nI k), zI (nI j)]) (r := []) (s' := (0, n, a, b, v, f, r)) (v := some (zI (ordF r k (wsz r k) j (wsz r j)))) rfl rfl rfl (Nat.le_of_ble_eq_true rfl) (Or.inr ⟨rfl, rfl, _, rfl⟩) (c_order (by omega) (by omega) (hV k (by omega)).1.2 (hV j (by omega)).1.2 (hV k (by omega)).1.1 (hV j (by omega)).1.1) ?_
                refine r_if rfl (fun h_12 => ?_) (fun h_12 => ?_)
                · replace h_12 : (ordF r k (wsz r k) j (wsz r j)) ≤ 0 := h_12
                  refine r_ild rfl rfl ?_
                  refine r_ist (ls' := [some (zR (some q)), some (zI (pk)), some (zI (x2)), some (zI (bsF r pk k)), some (zI (nI k)), some (zI (nI 1))]) rfl (Nat.le_of_ble_eq_true rfl) rfl ?_
                  refine r_inc (x' := (nI (k + 1))) (ls' := [some (zR (some q)), some (zI (pk)), some (zI (x2)), some (zI (bsF r pk k)), some (zI (nI (k + 1))), some (zI (nI 1))]) rfl rfl (nI_1 _) rfl ?_
                  refine r_go rfl ?_
                  have h9 : bsF r pk (k + 1) = (bsF r pk k) := by rw [bsF, if_pos h_4, if_pos h_6, if_pos h_8, if_neg h_11, show (bsF r pk k).toNatClampNeg = j by rw [e]; exact nI_clamp (by omega), if_pos h_12]
                  rw [h9] at ih
                  exact ih (by omega) _
                · replace h_12 : ¬ ((ordF r k (wsz r k) j (wsz r j)) ≤ 0) := h_12
                  refine r_ild rfl rfl ?_
                  refine r_go rfl ?_
                  refine r_ist (ls' := [some (zR (some q)), some (zI (pk)), some (zI (x2)), some (zI (nI k)), some (zI (nI k)), some (zI (nI 1))]) rfl (Nat.le_of_ble_eq_true rfl) rfl ?_
                  refine r_inc (x' := (nI (k + 1))) (ls' := [some (zR (some q)), some (zI (pk)), some (zI (x2)), some (zI (nI k)), some (zI (nI (k + 1))), some (zI (nI 1))]) rfl rfl (nI_1 _) rfl ?_
                  refine r_go rfl ?_
                  have h9 : bsF r pk (k + 1) = (nI k) := by rw [bsF, if_pos h_4, if_pos h_6, if_pos h_8, if_neg h_11, show (bsF r pk k).toNatClampNeg = j by rw [e]; exact nI_clamp (by omega), if_neg h_12]
                  rw [h9] at ih
                  exact ih (by omega) _
set_option maxHeartbeats 1000000 in
theorem c_best0 {q : Nat} {qa : Nat → Nat} {d c n a v f : Nat} {b : Bool} {r : rA} {p : Nat} (hn : n ≤ 160) (hv : v ≤ 40) (hp : p < 8) (hV : ∀ k, k < v → rowOK (rqR 213 n 0 r).2.2 k) (hC : (rqR 213 n 0 r).2.2 12 213 = nI (cnt (rqR 213 n 0 r).2.2 213)) (hc5 : cnt (rqR 213 n 0 r).2.2 213 ≤ 5) (hR : ∀ m, m < cnt (rqR 213 n 0 r).2.2 213 → rowOK (rqR 213 n 0 r).2.2 (41 + 4 * 213 + m)) (hr : (!(rqR 213 n 0 r).2.1 && decide ((rqR 213 n 0 r).1 = n)) = true) : rFun q qa (d + 8) 145 [zR (some q), zI (nI p)] (c, n, a, b, v, f, r) (0, 0, (rqR 213 n 0 r).1, (rqR 213 n 0 r).2.1, v, f, (rqR 213 n 0 r).2.2) (some (zI (bsF (rqR 213 n 0 r).2.2 (nI p) v))) := by
  refine rFun.of (d := d + 7) (T := tb_145) (L := [some (zR (some q)), some (zI (nI p)), none, none, none, none]) (Nat.le_of_ble_eq_true rfl) rfl rfl ?_
  refine r_ald rfl rfl ?_
  refine r_call (as := [zR (some q)]) (r := []) (s' := (c, 0, (rqR 213 n 0 r).1, (rqR 213 n 0 r).2.1, v, f, (rqR 213 n 0 r).2.2)) (v := some (zI (bI (true)))) rfl rfl rfl (Nat.le_of_ble_eq_true rfl) (Or.inr ⟨rfl, rfl, _, rfl⟩) (c_asksZ hn hr) ?_
  refine r_ist (ls' := [some (zR (some q)), some (zI (nI p)), some (zI (bI (true))), none, none, none]) rfl (Nat.le_of_ble_eq_true rfl) rfl ?_
  refine r_ald rfl rfl ?_
  refine r_ild rfl rfl ?_
  refine r_ico (x := (nI 0)) rfl rfl ?_
  refine r_ico (x := (nI 7)) rfl rfl ?_
  refine r_call (as := [zI (nI p), zI (nI 0), zI (nI 7)]) (r := [zR (some q)]) (s' := (c, 0, (rqR 213 n 0 r).1, (rqR 213 n 0 r).2.1, v, f, (rqR 213 n 0 r).2.2)) (v := some (zI (bI (true)))) rfl rfl rfl (Nat.le_of_ble_eq_true rfl) (Or.inl rfl) (c_inZ (isIn_n (by omega) (by decide))) ?_
  refine r_ifB1 rfl (fun h_1 => ?_) (fun h_1 => ?_)
  · refine r_ild rfl rfl ?_
    refine r_ifB0 rfl (fun h_2 => ?_) (fun h_2 => ?_)
    · cases h_2
    · refine r_ico (x := (nI 0)) rfl rfl ?_
      refine r_go rfl ?_
      refine r_put (s' := (0, 0, (rqR 213 n 0 r).1, (rqR 213 n 0 r).2.1, v, f, (rqR 213 n 0 r).2.2)) rfl (Nat.le_of_ble_eq_true rfl) ⟨_, rfl⟩ rfl rfl ?_
      refine r_ico (x := (-1)) rfl rfl ?_
      refine r_ist (ls' := [some (zR (some q)), some (zI (nI p)), some (zI (bI (true))), some (zI (-1)), none, none]) rfl (Nat.le_of_ble_eq_true rfl) rfl ?_
      refine r_ico (x := (nI 0)) rfl rfl ?_
      refine r_ist (ls' := [some (zR (some q)), some (zI (nI p)), some (zI (bI (true))), some (zI (-1)), some (zI (nI 0)), none]) rfl (Nat.le_of_ble_eq_true rfl) rfl ?_
      exact l_best (x2 := bI true) (c := c) hv hV hC hc5 hR ⟨rfl, rfl⟩ 0 (by omega) none
  · cases h_1
