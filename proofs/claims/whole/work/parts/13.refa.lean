theorem bI_01 (b : Bool) : bI b = 0 ∨ bI b = 1 := by cases b <;> simp [bI]
theorem znar_b (b : Bool) : znar 3 (bI b) = bI b := by cases b <;> decide +kernel
theorem r_ialdN {q : Nat} {qa : Nat → Nat} {d : Nat} {T : List (Nat × zOp)} {Q : rS → (Option zV ⊕ Nat) → Prop} {pc : Nat} {ls : List (Option zV)} {st : List zV} {s : rS} {n a b ix w : Nat} {z : Int} {k0 m i : Nat} (ho : T.lookup pc = some (25, n, a, b, ix, w, z)) (hk : rarr k0 = some (a, m)) (hi : i < m) (hm : m < 2 ^ 31) (k : rEv q qa d T Q (pc + n) ls (zI (rar s k0 i) :: st) s) : rEv q qa d T Q pc ls (zI (nI i) :: zR (some (qa k0)) :: st) s := r_iald (t := 0) ho hk (vp_in_nI hi hm) (by rw [nI_clamp (by omega)]; exact k)
theorem r_iastN {q : Nat} {qa : Nat → Nat} {d : Nat} {T : List (Nat × zOp)} {Q : rS → (Option zV ⊕ Nat) → Prop} {pc : Nat} {ls : List (Option zV)} {st : List zV} {n a b ix w : Nat} {z : Int} {k0 m i : Nat} {x x' : Int32} {c n0 a0 v0 f0 : Nat} {b0 : Bool} {r0 : rA} (ho : T.lookup pc = some (26, n, a, b, ix, w, z)) (hk : rarr k0 = some (a, m)) (hi : i < m) (hm : m < 2 ^ 31) (hx : znar a x = x') (k : rEv q qa d T Q (pc + n) ls st (c, n0, a0, b0, v0, f0, rset r0 k0 i x')) : rEv q qa d T Q pc ls (zI x :: zI (nI i) :: zR (some (qa k0)) :: st) (c, n0, a0, b0, v0, f0, r0) := r_iast ho hk (vp_in_nI hi hm) hx (by rw [nI_clamp (by omega)]; exact k)

theorem ret_t {b : Bool} (h : b = true) : (Sum.inl (some (zI (nI 1))) : Option zV ⊕ Nat) = .inl (some (zI (bI b))) := by subst h; rfl
theorem ret_f {b : Bool} (h : b = false) : (Sum.inl (some (zI (nI 0))) : Option zV ⊕ Nat) = .inl (some (zI (bI b))) := by subst h; rfl
def isIn (x lo hi : Int32) : Bool := !decide (x < lo) && !decide (hi < x)
def isDg (x : Int32) : Bool := !decide (x < nI 48) && !decide (nI 57 < x)
def isWd (x : Int32) : Bool := isDg x || (!decide (x < nI 65) && decide (x ≤ nI 90)) || (!decide (x < nI 97) && decide (x ≤ nI 122)) || !decide (¬ x = nI 45)
/-- what is ahead in the text -/
def ahd (n a : Nat) (b : Bool) (t : Nat → Int32) : Int32 := if b = false ∧ a < n then t a else -1
set_option maxHeartbeats 1000000 in
theorem c_thrown {q : Nat} {qa : Nat → Nat} {d c n a v f : Nat} {b : Bool} {r : rA}   : rFun q qa (d + 1) 97 [zR (some q)] (c, n, a, b, v, f, r) (c, n, a, b, v, f, r) (some (zI (nI c))) := by
  refine rFun.of (T := tb_97) (L := [some (zR (some q))]) (Nat.le_of_ble_eq_true rfl) rfl rfl ?_
  refine r_ald rfl rfl ?_
  refine r_get rfl rfl ?_
  refine r_ret rfl ⟨_, rfl⟩ ?_
  exact ⟨rfl, rfl⟩
set_option maxHeartbeats 1000000 in
theorem c_in {q : Nat} {qa : Nat → Nat} {d c n a v f : Nat} {b : Bool} {r : rA} {x lo hi : Int32}  : rFun q qa (d + 1) 98 [zI (x), zI (lo), zI (hi)] (c, n, a, b, v, f, r) (c, n, a, b, v, f, r) (some (zI (bI (isIn x lo hi)))) := by
  refine rFun.of (T := tb_98) (L := [some (zI (x)), some (zI (lo)), some (zI (hi))]) (Nat.le_of_ble_eq_true rfl) rfl rfl ?_
  refine r_ild rfl rfl ?_
  refine r_ild rfl rfl ?_
  refine r_cmp rfl (fun h_1 => ?_) (fun h_1 => ?_)
  · replace h_1 : (x) < (lo) := h_1
    refine r_ico (x := (nI 0)) rfl rfl ?_
    refine r_ret rfl ⟨_, rfl, Or.inl rfl⟩ ?_
    exact ⟨rfl, ret_f (by simp [isIn, *])⟩
  · replace h_1 : ¬ ((x) < (lo)) := h_1
    refine r_ild rfl rfl ?_
    refine r_ild rfl rfl ?_
    refine r_cmp rfl (fun h_2 => ?_) (fun h_2 => ?_)
    · replace h_2 : (hi) < (x) := h_2
      refine r_ico (x := (nI 0)) rfl rfl ?_
      refine r_ret rfl ⟨_, rfl, Or.inl rfl⟩ ?_
      exact ⟨rfl, ret_f (by simp [isIn, *])⟩
    · replace h_2 : ¬ ((hi) < (x)) := h_2
      refine r_ico (x := (nI 1)) rfl rfl ?_
      refine r_go rfl ?_
      refine r_ret rfl ⟨_, rfl, Or.inr rfl⟩ ?_
      exact ⟨rfl, ret_t (by simp [isIn, *])⟩
set_option maxHeartbeats 1000000 in
theorem c_isDigit {q : Nat} {qa : Nat → Nat} {d c n a v f : Nat} {b : Bool} {r : rA} {x : Int32}  : rFun q qa (d + 1) 101 [zI (x)] (c, n, a, b, v, f, r) (c, n, a, b, v, f, r) (some (zI (bI (isDg x)))) := by
  refine rFun.of (T := tb_101) (L := [some (zI (x))]) (Nat.le_of_ble_eq_true rfl) rfl rfl ?_
  refine r_ild rfl rfl ?_
  refine r_ico (x := (nI 48)) rfl rfl ?_
  refine r_cmp rfl (fun h_1 => ?_) (fun h_1 => ?_)
  · replace h_1 : (x) < (nI 48) := h_1
    refine r_ico (x := (nI 0)) rfl rfl ?_
    refine r_ret rfl ⟨_, rfl, Or.inl rfl⟩ ?_
    exact ⟨rfl, ret_f (by simp [isDg, *])⟩
  · replace h_1 : ¬ ((x) < (nI 48)) := h_1
    refine r_ild rfl rfl ?_
    refine r_ico (x := (nI 57)) rfl rfl ?_
    refine r_cmp rfl (fun h_2 => ?_) (fun h_2 => ?_)
    · replace h_2 : (nI 57) < (x) := h_2
      refine r_ico (x := (nI 0)) rfl rfl ?_
      refine r_ret rfl ⟨_, rfl, Or.inl rfl⟩ ?_
      exact ⟨rfl, ret_f (by simp [isDg, *])⟩
    · replace h_2 : ¬ ((nI 57) < (x)) := h_2
      refine r_ico (x := (nI 1)) rfl rfl ?_
      refine r_go rfl ?_
      refine r_ret rfl ⟨_, rfl, Or.inr rfl⟩ ?_
      exact ⟨rfl, ret_t (by simp [isDg, *])⟩
set_option maxHeartbeats 1000000 in
theorem c_isOfWord {q : Nat} {qa : Nat → Nat} {d c n a v f : Nat} {b : Bool} {r : rA} {x : Int32}  : rFun q qa (d + 2) 102 [zI (x)] (c, n, a, b, v, f, r) (c, n, a, b, v, f, r) (some (zI (bI (isWd x)))) := by
  refine rFun.of (d := d + 1) (T := tb_102) (L := [some (zI (x))]) (Nat.le_of_ble_eq_true rfl) rfl rfl ?_
  refine r_ild rfl rfl ?_
  refine r_call (as := [zI (x)]) (r := []) (s' := (c, n, a, b, v, f, r)) (v := some (zI (bI (isDg (x))))) rfl rfl rfl (Nat.le_of_ble_eq_true rfl) (Or.inl rfl) c_isDigit ?_
  refine r_ifB1 rfl (fun h_1 => ?_) (fun h_1 => ?_)
  · refine r_ico (x := (nI 1)) rfl rfl ?_
    refine r_go rfl ?_
    refine r_ret rfl ⟨_, rfl, Or.inr rfl⟩ ?_
    exact ⟨rfl, ret_t (by simp [isWd, *])⟩
  · refine r_ild rfl rfl ?_
    refine r_ico (x := (nI 65)) rfl rfl ?_
    refine r_cmp rfl (fun h_2 => ?_) (fun h_2 => ?_)
    · replace h_2 : (x) < (nI 65) := h_2
      refine r_ild rfl rfl ?_
      refine r_ico (x := (nI 97)) rfl rfl ?_
      refine r_cmp rfl (fun h_3 => ?_) (fun h_3 => ?_)
      · replace h_3 : (x) < (nI 97) := h_3
        refine r_ild rfl rfl ?_
        refine r_ico (x := (nI 45)) rfl rfl ?_
        refine r_cmp rfl (fun h_4 => ?_) (fun h_4 => ?_)
        · replace h_4 : ¬ (x) = (nI 45) := h_4
          refine r_ico (x := (nI 0)) rfl rfl ?_
          refine r_ret rfl ⟨_, rfl, Or.inl rfl⟩ ?_
          exact ⟨rfl, ret_f (by simp [isWd, *])⟩
        · replace h_4 : (x) = (nI 45) := Decidable.of_not_not h_4
          refine r_ico (x := (nI 1)) rfl rfl ?_
          refine r_go rfl ?_
          refine r_ret rfl ⟨_, rfl, Or.inr rfl⟩ ?_
          exact ⟨rfl, ret_t (by simp [isWd, *])⟩
      · replace h_3 : ¬ ((x) < (nI 97)) := h_3
        refine r_ild rfl rfl ?_
        refine r_ico (x := (nI 122)) rfl rfl ?_
        refine r_cmp rfl (fun h_5 => ?_) (fun h_5 => ?_)
        · replace h_5 : (x) ≤ (nI 122) := h_5
          refine r_ico (x := (nI 1)) rfl rfl ?_
          refine r_go rfl ?_
          refine r_ret rfl ⟨_, rfl, Or.inr rfl⟩ ?_
          exact ⟨rfl, ret_t (by simp [isWd, *])⟩
        · replace h_5 : ¬ ((x) ≤ (nI 122)) := h_5
          refine r_ild rfl rfl ?_
          refine r_ico (x := (nI 45)) rfl rfl ?_
          refine r_cmp rfl (fun h_6 => ?_) (fun h_6 => ?_)
          · replace h_6 : ¬ (x) = (nI 45) := h_6
            refine r_ico (x := (nI 0)) rfl rfl ?_
            refine r_ret rfl ⟨_, rfl, Or.inl rfl⟩ ?_
            exact ⟨rfl, ret_f (by simp [isWd, *])⟩
          · replace h_6 : (x) = (nI 45) := Decidable.of_not_not h_6
            refine r_ico (x := (nI 1)) rfl rfl ?_
            refine r_go rfl ?_
            refine r_ret rfl ⟨_, rfl, Or.inr rfl⟩ ?_
            exact ⟨rfl, ret_t (by simp [isWd, *])⟩
    · replace h_2 : ¬ ((x) < (nI 65)) := h_2
      refine r_ild rfl rfl ?_
      refine r_ico (x := (nI 90)) rfl rfl ?_
      refine r_cmp rfl (fun h_7 => ?_) (fun h_7 => ?_)
      · replace h_7 : (x) ≤ (nI 90) := h_7
        refine r_ico (x := (nI 1)) rfl rfl ?_
        refine r_go rfl ?_
        refine r_ret rfl ⟨_, rfl, Or.inr rfl⟩ ?_
        exact ⟨rfl, ret_t (by simp [isWd, *])⟩
      · replace h_7 : ¬ ((x) ≤ (nI 90)) := h_7
        refine r_ild rfl rfl ?_
        refine r_ico (x := (nI 97)) rfl rfl ?_
        refine r_cmp rfl (fun h_8 => ?_) (fun h_8 => ?_)
        · replace h_8 : (x) < (nI 97) := h_8
          refine r_ild rfl rfl ?_
          refine r_ico (x := (nI 45)) rfl rfl ?_
          refine r_cmp rfl (fun h_9 => ?_) (fun h_9 => ?_)
          · replace h_9 : ¬ (x) = (nI 45) := h_9
            refine r_ico (x := (nI 0)) rfl rfl ?_
            refine r_ret rfl ⟨_, rfl, Or.inl rfl⟩ ?_
            exact ⟨rfl, ret_f (by simp [isWd, *])⟩
          · replace h_9 : (x) = (nI 45) := Decidable.of_not_not h_9
            refine r_ico (x := (nI 1)) rfl rfl ?_
            refine r_go rfl ?_
            refine r_ret rfl ⟨_, rfl, Or.inr rfl⟩ ?_
            exact ⟨rfl, ret_t (by simp [isWd, *])⟩
        · replace h_8 : ¬ ((x) < (nI 97)) := h_8
          refine r_ild rfl rfl ?_
          refine r_ico (x := (nI 122)) rfl rfl ?_
          refine r_cmp rfl (fun h_10 => ?_) (fun h_10 => ?_)
          · replace h_10 : (x) ≤ (nI 122) := h_10
            refine r_ico (x := (nI 1)) rfl rfl ?_
            refine r_go rfl ?_
            refine r_ret rfl ⟨_, rfl, Or.inr rfl⟩ ?_
            exact ⟨rfl, ret_t (by simp [isWd, *])⟩
          · replace h_10 : ¬ ((x) ≤ (nI 122)) := h_10
            refine r_ild rfl rfl ?_
            refine r_ico (x := (nI 45)) rfl rfl ?_
            refine r_cmp rfl (fun h_11 => ?_) (fun h_11 => ?_)
            · replace h_11 : ¬ (x) = (nI 45) := h_11
              refine r_ico (x := (nI 0)) rfl rfl ?_
              refine r_ret rfl ⟨_, rfl, Or.inl rfl⟩ ?_
              exact ⟨rfl, ret_f (by simp [isWd, *])⟩
            · replace h_11 : (x) = (nI 45) := Decidable.of_not_not h_11
              refine r_ico (x := (nI 1)) rfl rfl ?_
              refine r_go rfl ?_
              refine r_ret rfl ⟨_, rfl, Or.inr rfl⟩ ?_
              exact ⟨rfl, ret_t (by simp [isWd, *])⟩
set_option maxHeartbeats 1000000 in
theorem c_ahead {q : Nat} {qa : Nat → Nat} {d c n a v f : Nat} {b : Bool} {r : rA}  (hn : n ≤ 160) (ha : a < 100000) : rFun q qa (d + 1) 100 [zR (some q)] (c, n, a, b, v, f, r) (c, n, a, b, v, f, r) (some (zI (ahd n a b (r 2)))) := by
  refine rFun.of (T := tb_100) (L := [some (zR (some q))]) (Nat.le_of_ble_eq_true rfl) rfl rfl ?_
  refine r_ald rfl rfl ?_
  refine r_get rfl rfl ?_
  refine r_ifB1 rfl (fun h_1 => ?_) (fun h_1 => ?_)
  · refine r_ico (x := (-1)) rfl rfl ?_
    refine r_ret rfl ⟨_, rfl⟩ ?_
    exact ⟨rfl, by unfold ahd; rw [if_neg (by rintro ⟨g1, g2⟩; first | omega | simp_all)]⟩
  · refine r_ald rfl rfl ?_
    refine r_get rfl rfl ?_
    refine r_ald rfl rfl ?_
    refine r_get rfl rfl ?_
    refine r_cmpN (by omega) (by omega) rfl (fun h_2 => ?_) (fun h_2 => ?_)
    · replace h_2 : n ≤ a := h_2
      refine r_ico (x := (-1)) rfl rfl ?_
      refine r_ret rfl ⟨_, rfl⟩ ?_
      exact ⟨rfl, by unfold ahd; rw [if_neg (by rintro ⟨g1, g2⟩; first | omega | simp_all)]⟩
    · replace h_2 := Nat.not_le.mp h_2
      refine r_ald rfl rfl ?_
      refine r_get rfl rfl ?_
      refine r_ald rfl rfl ?_
      refine r_get rfl rfl ?_
      refine r_ialdN (k0 := 2) rfl rfl (by omega) (by decide) ?_
      refine r_go rfl ?_
      refine r_ret rfl ⟨_, rfl⟩ ?_
      exact ⟨rfl, by unfold ahd; rw [if_pos ⟨by assumption, by omega⟩]⟩
set_option maxHeartbeats 1000000 in
theorem c_take {q : Nat} {qa : Nat → Nat} {d c n a v f : Nat} {b : Bool} {r : rA} {x : Int32} (hn : n ≤ 160) (ha : a < 100000) : rFun q qa (d + 2) 103 [zR (some q), zI (x)] (c, n, a, b, v, f, r) (c, n, if ahd n a b (r 2) = x then a + 1 else a, if ahd n a b (r 2) = x then b else true, v, f, r) none := by
  refine rFun.of (d := d + 1) (T := tb_103) (L := [some (zR (some q)), some (zI (x))]) (Nat.le_of_ble_eq_true rfl) rfl rfl ?_
  refine r_ald rfl rfl ?_
  refine r_call (as := [zR (some q)]) (r := []) (s' := (c, n, a, b, v, f, r)) (v := some (zI (ahd n a b (r 2)))) rfl rfl rfl (Nat.le_of_ble_eq_true rfl) (Or.inr ⟨rfl, rfl, _, rfl⟩) (c_ahead (by omega) (by omega)) ?_
  refine r_ild rfl rfl ?_
  refine r_cmp rfl (fun h_1 => ?_) (fun h_1 => ?_)
  · replace h_1 : ¬ (ahd n a b (r 2)) = (x) := h_1
    refine r_ald rfl rfl ?_
    refine r_ico (x := (nI 1)) rfl rfl ?_
    refine r_put (s' := (c, n, a, true, v, f, r)) rfl (Nat.le_of_ble_eq_true rfl) ⟨_, rfl, Or.inr rfl⟩ rfl rfl ?_
    refine r_rtv rfl ?_
    exact ⟨by simp [*], rfl⟩
  · replace h_1 : (ahd n a b (r 2)) = (x) := Decidable.of_not_not h_1
    refine r_ald rfl rfl ?_
    refine r_dup rfl rfl ?_
    refine r_get rfl rfl ?_
    refine r_ico (x := (nI 1)) rfl rfl ?_
    refine r_ibi (v := (nI (a + 1))) rfl (nI_add _ _) ?_
    refine r_put (s' := (c, n, a + 1, b, v, f, r)) rfl (Nat.le_of_ble_eq_true rfl) ⟨_, rfl⟩ rfl rfl ?_
    refine r_go rfl ?_
    refine r_rtv rfl ?_
    exact ⟨by simp [*], rfl⟩
set_option maxHeartbeats 1000000 in
theorem c_begin {q : Nat} {qa : Nat → Nat} {d c n a v f : Nat} {b : Bool} {r : rA}   : rFun q qa (d + 1) 112 [zR (some q)] (c, n, a, b, v, f, r) (c, n, 0, false, v, f, r) none := by
  refine rFun.of (T := tb_112) (L := [some (zR (some q))]) (Nat.le_of_ble_eq_true rfl) rfl rfl ?_
  refine r_ald rfl rfl ?_
  refine r_ico (x := (nI 0)) rfl rfl ?_
  refine r_put (s' := (c, n, 0, b, v, f, r)) rfl (Nat.le_of_ble_eq_true rfl) ⟨_, rfl⟩ rfl rfl ?_
  refine r_ald rfl rfl ?_
  refine r_ico (x := (nI 0)) rfl rfl ?_
  refine r_put (s' := (c, n, 0, false, v, f, r)) rfl (Nat.le_of_ble_eq_true rfl) ⟨_, rfl, Or.inl rfl⟩ rfl rfl ?_
  refine r_rtv rfl ?_
  exact ⟨rfl, rfl⟩
set_option maxHeartbeats 1000000 in
theorem c_isRight {q : Nat} {qa : Nat → Nat} {d c n a v f : Nat} {b : Bool} {r : rA}  (hn : n ≤ 160) (ha : a < 100000) : rFun q qa (d + 1) 113 [zR (some q)] (c, n, a, b, v, f, r) (c, 0, a, b, v, f, r) (some (zI (bI (!b && decide (a = n))))) := by
  refine rFun.of (T := tb_113) (L := [some (zR (some q)), none]) (Nat.le_of_ble_eq_true rfl) rfl rfl ?_
  refine r_ald rfl rfl ?_
  refine r_get rfl rfl ?_
  refine r_ifB1 rfl (fun h_1 => ?_) (fun h_1 => ?_)
  · refine r_ico (x := (nI 0)) rfl rfl ?_
    refine r_ist (ls' := [some (zR (some q)), some (zI (nI 0))]) rfl (Nat.le_of_ble_eq_true rfl) rfl ?_
    refine r_ald rfl rfl ?_
    refine r_ico (x := (nI 0)) rfl rfl ?_
    refine r_put (s' := (c, 0, a, b, v, f, r)) rfl (Nat.le_of_ble_eq_true rfl) ⟨_, rfl⟩ rfl rfl ?_
    refine r_ild rfl rfl ?_
    refine r_ret rfl ⟨_, rfl, Or.inl rfl⟩ ?_
    exact ⟨rfl, ret_f (by simp [isIn, *])⟩
  · refine r_ald rfl rfl ?_
    refine r_get rfl rfl ?_
    refine r_ald rfl rfl ?_
    refine r_get rfl rfl ?_
    refine r_cmpN (by omega) (by omega) rfl (fun h_2 => ?_) (fun h_2 => ?_)
    · replace h_2 : ¬ a = n := h_2
      refine r_ico (x := (nI 0)) rfl rfl ?_
      refine r_ist (ls' := [some (zR (some q)), some (zI (nI 0))]) rfl (Nat.le_of_ble_eq_true rfl) rfl ?_
      refine r_ald rfl rfl ?_
      refine r_ico (x := (nI 0)) rfl rfl ?_
      refine r_put (s' := (c, 0, a, b, v, f, r)) rfl (Nat.le_of_ble_eq_true rfl) ⟨_, rfl⟩ rfl rfl ?_
      refine r_ild rfl rfl ?_
      refine r_ret rfl ⟨_, rfl, Or.inl rfl⟩ ?_
      exact ⟨rfl, ret_f (by simp [isIn, *])⟩
    · replace h_2 : a = n := Decidable.of_not_not h_2
      refine r_ico (x := (nI 1)) rfl rfl ?_
      refine r_go rfl ?_
      refine r_ist (ls' := [some (zR (some q)), some (zI (nI 1))]) rfl (Nat.le_of_ble_eq_true rfl) rfl ?_
      refine r_ald rfl rfl ?_
      refine r_ico (x := (nI 0)) rfl rfl ?_
      refine r_put (s' := (c, 0, a, b, v, f, r)) rfl (Nat.le_of_ble_eq_true rfl) ⟨_, rfl⟩ rfl rfl ?_
      refine r_ild rfl rfl ?_
      refine r_ret rfl ⟨_, rfl, Or.inr rfl⟩ ?_
      exact ⟨rfl, ret_t (by simp [isIn, *])⟩
set_option maxHeartbeats 1000000 in
theorem c_isVersion {q : Nat} {qa : Nat → Nat} {d c n a v f : Nat} {b : Bool} {r : rA} {x : Int32}  : rFun q qa (d + 2) 126 [zR (some q), zI (x)] (c, n, a, b, v, f, r) (c, n, a, b, v, f, r) (some (zI (bI (isIn x (nI 0) (nI v - nI 1))))) := by
  refine rFun.of (d := d + 1) (T := tb_126) (L := [some (zR (some q)), some (zI (x))]) (Nat.le_of_ble_eq_true rfl) rfl rfl ?_
  refine r_ild rfl rfl ?_
  refine r_ico (x := (nI 0)) rfl rfl ?_
  refine r_ald rfl rfl ?_
  refine r_get rfl rfl ?_
  refine r_ico (x := (nI 1)) rfl rfl ?_
  refine r_ibi (v := ((nI v) - (nI 1))) rfl rfl ?_
  refine r_call (as := [zI (x), zI (nI 0), zI ((nI v) - (nI 1))]) (r := []) (s' := (c, n, a, b, v, f, r)) (v := some (zI (bI (isIn (x) (nI 0) ((nI v) - (nI 1)))))) rfl rfl rfl (Nat.le_of_ble_eq_true rfl) (Or.inl rfl) (c_in) ?_
  refine r_ret rfl ⟨_, rfl, bI_01 _⟩ ?_
  exact ⟨rfl, rfl⟩
