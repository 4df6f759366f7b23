/-- does version i go before version j, among the options of package p? -/
def gbF (r : rA) (p i j : Nat) : Bool := if r 21 p = nI i then true else if r 21 p = nI j then false else !decide (ordF r i (wsz r i) j (wsz r j) ≤ 0)
/-- do the first k requirements of version i hold on package p, to which x is given? -/
def awF (r : rA) (i p : Nat) (x : Int32) : Nat → Bool
  | 0 => true
  | k + 1 => awF r i p x k && (if r 13 (5 * i + k) = nI p then (if x = -1 then false else !decide (r 28 (40 * (8 + 5 * i + k) + x.toNatClampNeg) = 0)) else true)
/-- does what is given as x allow that y is given to package p? -/
def awI (r : rA) (x : Int32) (p : Nat) (y : Int32) : Bool := if x = -1 then true else awF r x.toNatClampNeg p y (r 14 x.toNatClampNeg).toNatClampNeg
def g0F (r : rA) (p : Nat) (x : Int32) : Bool := if r 20 p = 0 then true else !decide (r 28 (40 * p + x.toNatClampNeg) = 0)
/-- does what is given to package p go with what is given to the first k? -/
def gwF (r : rA) (g : Nat → Int32) (p : Nat) : Nat → Bool
  | 0 => g0F r p (g p)
  | k + 1 => gwF r g p k && (awI r (g k) p (g p) && awI r (g p) k (g k))
theorem gwF_f {r : rA} {g : Nat → Int32} {p k : Nat} (h : gwF r g p k = false) : ∀ m, gwF r g p (k + m) = false
  | 0 => h
  | m + 1 => by rw [← Nat.add_assoc, gwF, gwF_f h m]; rfl
theorem nI_ne1 {j : Nat} (h : j < 2 ^ 31) : ¬ nI j = -1 := fun e => by
  have h1 := nI_toInt h
  rw [e] at h1
  have h2 : (-1 : Int32).toInt = -1 := by decide
  omega
theorem awI_n {r : rA} {x : Int32} {p j m : Nat} {y : Int32} (e : x = nI j) (hj : j < 2 ^ 31) (e2 : r 14 j = nI m) (hm : m < 2 ^ 31) : awI r x p y = awF r j p y m := by
  subst e
  rw [awI, if_neg (nI_ne1 hj), nI_clamp hj, e2, nI_clamp hm]
set_option maxHeartbeats 1000000 in
theorem c_given {q : Nat} {qa : Nat → Nat} {d c n a v f : Nat} {b : Bool} {r : rA} {p t : Nat} {x : Int32} (hp : p < 8) (ht : t < 41) (hT : r 27 p = nI t) (hX : r 25 (41 * p + t) = x) : rFun q qa (d + 1) 134 [zR (some q), zI (nI p)] (c, n, a, b, v, f, r) (c, n, a, b, v, f, r) (some (zI (x))) := by
  refine rFun.of (T := tb_134) (L := [some (zR (some q)), some (zI (nI p))]) (Nat.le_of_ble_eq_true rfl) rfl rfl ?_
  refine r_ald rfl rfl ?_
  refine r_get rfl rfl ?_
  refine r_ico (x := (nI 41)) rfl rfl ?_
  refine r_ild rfl rfl ?_
  refine r_ibi (v := (nI (41 * p))) rfl (pk_mul _ _) ?_
  refine r_ald rfl rfl ?_
  refine r_get rfl rfl ?_
  refine r_ild rfl rfl ?_
  refine r_ialdN (k0 := 27) rfl rfl (by omega) (by decide) ?_
  refine r_top (y := (nI t)) (by simp [rar, hT]) ?_
  refine r_ibi (v := (nI (41 * p + t))) rfl (nI_add _ _) ?_
  refine r_ialdN (k0 := 25) rfl rfl (by omega) (by decide) ?_
  refine r_top (y := (x)) (by simp [rar, hX]) ?_
  refine r_ret rfl ⟨_, rfl⟩ ?_
  exact ⟨rfl, rfl⟩
set_option maxHeartbeats 1000000 in
theorem c_goesBefore {q : Nat} {qa : Nat → Nat} {d c n a v f : Nat} {b : Bool} {r : rA} {p i j : Nat} (hp : p < 8) (hi : i < 40) (hj : j < 40) (hI : rowOK r i) (hJ : rowOK r j) : rFun q qa (d + 5) 132 [zR (some q), zI (nI p), zI (nI i), zI (nI j)] (c, n, a, b, v, f, r) (c, n, a, b, v, f, r) (some (zI (bI (gbF r p i j)))) := by
  refine rFun.of (d := d + 4) (T := tb_132) (L := [some (zR (some q)), some (zI (nI p)), some (zI (nI i)), some (zI (nI j))]) (Nat.le_of_ble_eq_true rfl) rfl rfl ?_
  refine r_ald rfl rfl ?_
  refine r_get rfl rfl ?_
  refine r_ild rfl rfl ?_
  refine r_ialdN (k0 := 21) rfl rfl (by omega) (by decide) ?_
  refine r_ild rfl rfl ?_
  refine r_cmp rfl (fun h_1 => ?_) (fun h_1 => ?_)
  · replace h_1 : (r 21 p) = (nI i) := h_1
    refine r_ico (x := (nI 1)) rfl rfl ?_
    refine r_go rfl ?_
    refine r_ret rfl ⟨_, rfl, Or.inr rfl⟩ ?_
    have h9 : gbF r p i j = true := by rw [gbF, if_pos h_1]
    rw [h9]
    exact ⟨rfl, rfl⟩
  · replace h_1 : ¬ ((r 21 p) = (nI i)) := h_1
    refine r_ald rfl rfl ?_
    refine r_get rfl rfl ?_
    refine r_ild rfl rfl ?_
    refine r_ialdN (k0 := 21) rfl rfl (by omega) (by decide) ?_
    refine r_ild rfl rfl ?_
    refine r_cmp rfl (fun h_2 => ?_) (fun h_2 => ?_)
    · replace h_2 : (r 21 p) = (nI j) := h_2
      refine r_ico (x := (nI 0)) rfl rfl ?_
      refine r_ret rfl ⟨_, rfl, Or.inl rfl⟩ ?_
      have h9 : gbF r p i j = false := by rw [gbF, if_neg h_1, if_pos h_2]
      rw [h9]
      exact ⟨rfl, rfl⟩
    · replace h_2 : ¬ ((r 21 p) = (nI j)) := h_2
      refine r_ald rfl rfl ?_
      refine r_ild rfl rfl ?_
      refine r_ild rfl rfl ?_
      refine r_call (as := [zR (some q), zI (nI i), zI (nI j)]) (r := []) (s' := (c, n, a, b, v, f, r)) (v := some (zI (ordF r i (wsz r i) j (wsz r j)))) rfl rfl rfl (Nat.le_of_ble_eq_true rfl) (Or.inr ⟨rfl, rfl, _, rfl⟩) (c_order (by omega) (by omega) hI.1.2 hJ.1.2 hI.1.1 hJ.1.1) ?_
      refine r_if rfl (fun h_3 => ?_) (fun h_3 => ?_)
      · replace h_3 : (ordF r i (wsz r i) j (wsz r j)) ≤ 0 := h_3
        refine r_ico (x := (nI 0)) rfl rfl ?_
        refine r_ret rfl ⟨_, rfl, Or.inl rfl⟩ ?_
        have h9 : gbF r p i j = false := by rw [gbF, if_neg h_1, if_neg h_2, decide_eq_true h_3]; rfl
        rw [h9]
        exact ⟨rfl, rfl⟩
      · replace h_3 : ¬ ((ordF r i (wsz r i) j (wsz r j)) ≤ 0) := h_3
        refine r_ico (x := (nI 1)) rfl rfl ?_
        refine r_go rfl ?_
        refine r_ret rfl ⟨_, rfl, Or.inr rfl⟩ ?_
        have h9 : gbF r p i j = true := by rw [gbF, if_neg h_1, if_neg h_2, decide_eq_false h_3]; rfl
        rw [h9]
        exact ⟨rfl, rfl⟩
set_option maxHeartbeats 1000000 in
theorem l_allows {q : Nat} {qa : Nat → Nat} {d c n a v f : Nat} {b : Bool} {r : rA} {Q : rS → (Option zV ⊕ Nat) → Prop} {i p t m : Nat} {x : Int32} (hi : i < 40) (hm : m ≤ 5) (hM : r 14 i = nI m) (hp : p < 8) (ht : t < 41) (hT : r 27 p = nI t) (hX : r 25 (41 * p + t) = x) (hx : x = -1 ∨ ∃ j, j < 40 ∧ x = nI j) (hQ : Q (c, n, a, b, v, f, r) (.inl (some (zI (bI (awF r i p x m)))))) : ∀ k, k ≤ m → ∀ (x5 : Option zV), rEv q qa (d + 1) tb_135 Q 5 [some (zR (some q)), some (zI (nI i)), some (zI (nI p)), some (zI (bI (awF r i p x k))), some (zI (nI k)), x5] [] (c, n, a, b, v, f, r) := by
  refine dn m (fun k hk ih x5 => ?_)
  refine r_ild rfl rfl ?_
  refine r_ald rfl rfl ?_
  refine r_get rfl rfl ?_
  refine r_ild rfl rfl ?_
  refine r_ialdN (k0 := 14) rfl rfl (by omega) (by decide) ?_
  refine r_top (y := (nI m)) (by simp [rar, hM]) ?_
  refine r_cmpN (by omega) (by omega) rfl (fun h_1 => ?_) (fun h_1 => ?_)
  · replace h_1 : m ≤ k := h_1
    refine r_ild rfl rfl ?_
    refine r_ret rfl ⟨_, rfl, bI_01 _⟩ ?_
    have h3 : k = m := by omega
    subst h3
    exact hQ
  · replace h_1 := Nat.not_le.mp h_1
    refine r_ald rfl rfl ?_
    refine r_get rfl rfl ?_
    refine r_ico (x := (nI 5)) rfl rfl ?_
    refine r_ild rfl rfl ?_
    refine r_ibi (v := (nI (5 * i))) rfl (pk_mul _ _) ?_
    refine r_ild rfl rfl ?_
    refine r_ibi (v := (nI (5 * i + k))) rfl (nI_add _ _) ?_
    refine r_ialdN (k0 := 13) rfl rfl (by omega) (by decide) ?_
    refine r_ild rfl rfl ?_
    refine r_cmp rfl (fun h_2 => ?_) (fun h_2 => ?_)
    · replace h_2 : ¬ (r 13 (5 * i + k)) = (nI p) := h_2
      refine r_ico (x := (nI 0)) rfl rfl ?_
      refine r_ist (ls' := [some (zR (some q)), some (zI (nI i)), some (zI (nI p)), some (zI (bI (awF r i p x k))), some (zI (nI k)), some (zI (nI 0))]) rfl (Nat.le_of_ble_eq_true rfl) rfl ?_
      refine r_ild rfl rfl ?_
      refine r_ifB0 rfl (fun h_3 => ?_) (fun h_3 => ?_)
      · refine r_ico (x := (nI 0)) rfl rfl ?_
        refine r_ist (ls' := [some (zR (some q)), some (zI (nI i)), some (zI (nI p)), some (zI (nI 0)), some (zI (nI k)), some (zI (nI 0))]) rfl (Nat.le_of_ble_eq_true rfl) rfl ?_
        refine r_inc (x' := (nI (k + 1))) (ls' := [some (zR (some q)), some (zI (nI i)), some (zI (nI p)), some (zI (nI 0)), some (zI (nI (k + 1))), some (zI (nI 0))]) rfl rfl (nI_1 _) rfl ?_
        refine r_go rfl ?_
        have h9 : awF r i p x (k + 1) = false := by rw [awF, h_3]; rfl
        rw [h9] at ih
        exact ih (by omega) _
      · refine r_ild rfl rfl ?_
        refine r_ifN (by omega) rfl (fun h_4 => ?_) (fun h_4 => ?_)
        · replace h_4 : 0 = 0 := h_4
          refine r_ico (x := (nI 1)) rfl rfl ?_
          refine r_go rfl ?_
          refine r_ist (ls' := [some (zR (some q)), some (zI (nI i)), some (zI (nI p)), some (zI (nI 1)), some (zI (nI k)), some (zI (nI 0))]) rfl (Nat.le_of_ble_eq_true rfl) rfl ?_
          refine r_inc (x' := (nI (k + 1))) (ls' := [some (zR (some q)), some (zI (nI i)), some (zI (nI p)), some (zI (nI 1)), some (zI (nI (k + 1))), some (zI (nI 0))]) rfl rfl (nI_1 _) rfl ?_
          refine r_go rfl ?_
          have h9 : awF r i p x (k + 1) = true := by rw [awF, h_3, if_neg h_2]; rfl
          rw [h9] at ih
          exact ih (by omega) _
        · replace h_4 : ¬ (0 = 0) := h_4
          omega
    · replace h_2 : (r 13 (5 * i + k)) = (nI p) := Decidable.of_not_not h_2
      refine r_ico (x := (nI 1)) rfl rfl ?_
      refine r_go rfl ?_
      refine r_ist (ls' := [some (zR (some q)), some (zI (nI i)), some (zI (nI p)), some (zI (bI (awF r i p x k))), some (zI (nI k)), some (zI (nI 1))]) rfl (Nat.le_of_ble_eq_true rfl) rfl ?_
      refine r_ild rfl rfl ?_
      refine r_ifB0 rfl (fun h_5 => ?_) (fun h_5 => ?_)
      · refine r_ico (x := (nI 0)) rfl rfl ?_
        refine r_ist (ls' := [some (zR (some q)), some (zI (nI i)), some (zI (nI p)), some (zI (nI 0)), some (zI (nI k)), some (zI (nI 1))]) rfl (Nat.le_of_ble_eq_true rfl) rfl ?_
        refine r_inc (x' := (nI (k + 1))) (ls' := [some (zR (some q)), some (zI (nI i)), some (zI (nI p)), some (zI (nI 0)), some (zI (nI (k + 1))), some (zI (nI 1))]) rfl rfl (nI_1 _) rfl ?_
        refine r_go rfl ?_
        have h9 : awF r i p x (k + 1) = false := by rw [awF, h_5]; rfl
        rw [h9] at ih
        exact ih (by omega) _
      · refine r_ild rfl rfl ?_
        refine r_ifN (by omega) rfl (fun h_6 => ?_) (fun h_6 => ?_)
        · replace h_6 : 1 = 0 := h_6
          omega
        · replace h_6 : ¬ (1 = 0) := h_6
          refine r_ald rfl rfl ?_
          refine r_ild rfl rfl ?_
          refine r_call (as := [zR (some q), zI (nI p)]) (r := []) (s' := (c, n, a, b, v, f, r)) (v := some (zI (x))) rfl rfl rfl (Nat.le_of_ble_eq_true rfl) (Or.inr ⟨rfl, rfl, _, rfl⟩) (c_given hp ht hT hX) ?_
          refine r_ico (x := (-1)) rfl rfl ?_
          refine r_cmp rfl (fun h_7 => ?_) (fun h_7 => ?_)
          · replace h_7 : (x) = (-1) := h_7
            refine r_ico (x := (nI 0)) rfl rfl ?_
            refine r_ist (ls' := [some (zR (some q)), some (zI (nI i)), some (zI (nI p)), some (zI (nI 0)), some (zI (nI k)), some (zI (nI 1))]) rfl (Nat.le_of_ble_eq_true rfl) rfl ?_
            refine r_inc (x' := (nI (k + 1))) (ls' := [some (zR (some q)), some (zI (nI i)), some (zI (nI p)), some (zI (nI 0)), some (zI (nI (k + 1))), some (zI (nI 1))]) rfl rfl (nI_1 _) rfl ?_
            refine r_go rfl ?_
            have h9 : awF r i p x (k + 1) = false := by rw [awF, h_5, if_pos h_2, if_pos h_7]; rfl
            rw [h9] at ih
            exact ih (by omega) _
          · replace h_7 : ¬ ((x) = (-1)) := h_7
            refine r_ald rfl rfl ?_
            refine r_get rfl rfl ?_
            refine r_ico (x := (nI 40)) rfl rfl ?_
            refine r_ico (x := (nI 8)) rfl rfl ?_
            refine r_ico (x := (nI 5)) rfl rfl ?_
            refine r_ild rfl rfl ?_
            refine r_ibi (v := (nI (5 * i))) rfl (pk_mul _ _) ?_
            refine r_ibi (v := (nI (8 + (5 * i)))) rfl (nI_add _ _) ?_
            refine r_ild rfl rfl ?_
            refine r_ibi (v := (nI (8 + (5 * i) + k))) rfl (nI_add _ _) ?_
            refine r_ibi (v := (nI (40 * (8 + (5 * i) + k)))) rfl (pk_mul _ _) ?_
            refine r_ald rfl rfl ?_
            refine r_ild rfl rfl ?_
            refine r_call (as := [zR (some q), zI (nI p)]) (r := [zI (nI (40 * (8 + (5 * i) + k))), zR (some (qa 28))]) (s' := (c, n, a, b, v, f, r)) (v := some (zI (x))) rfl rfl rfl (Nat.le_of_ble_eq_true rfl) (Or.inr ⟨rfl, rfl, _, rfl⟩) (c_given hp ht hT hX) ?_
            obtain ⟨j, hj, e⟩ := hx.resolve_left h_7
            refine r_top (y := nI j) e ?_
            refine r_ibi (v := (nI (40 * (8 + (5 * i) + k) + j))) rfl (nI_add _ _) ?_
            refine r_ialdN (k0 := 28) rfl rfl (by omega) (by decide) ?_
            refine r_if rfl (fun h_8 => ?_) (fun h_8 => ?_)
            · replace h_8 : (r 28 (40 * (8 + (5 * i) + k) + j)) = 0 := h_8
              refine r_ico (x := (nI 0)) rfl rfl ?_
              refine r_ist (ls' := [some (zR (some q)), some (zI (nI i)), some (zI (nI p)), some (zI (nI 0)), some (zI (nI k)), some (zI (nI 1))]) rfl (Nat.le_of_ble_eq_true rfl) rfl ?_
              refine r_inc (x' := (nI (k + 1))) (ls' := [some (zR (some q)), some (zI (nI i)), some (zI (nI p)), some (zI (nI 0)), some (zI (nI (k + 1))), some (zI (nI 1))]) rfl rfl (nI_1 _) rfl ?_
              refine r_go rfl ?_
              have h9 : awF r i p x (k + 1) = false := by rw [awF, h_5, if_pos h_2, if_neg h_7, e, nI_clamp (by omega), decide_eq_true h_8]; rfl
              rw [h9] at ih
              exact ih (by omega) _
            · replace h_8 : ¬ ((r 28 (40 * (8 + (5 * i) + k) + j)) = 0) := h_8
              refine r_ico (x := (nI 1)) rfl rfl ?_
              refine r_go rfl ?_
              refine r_ist (ls' := [some (zR (some q)), some (zI (nI i)), some (zI (nI p)), some (zI (nI 1)), some (zI (nI k)), some (zI (nI 1))]) rfl (Nat.le_of_ble_eq_true rfl) rfl ?_
              refine r_inc (x' := (nI (k + 1))) (ls' := [some (zR (some q)), some (zI (nI i)), some (zI (nI p)), some (zI (nI 1)), some (zI (nI (k + 1))), some (zI (nI 1))]) rfl rfl (nI_1 _) rfl ?_
              refine r_go rfl ?_
              have h9 : awF r i p x (k + 1) = true := by rw [awF, h_5, if_pos h_2, if_neg h_7, e, nI_clamp (by omega), decide_eq_false h_8]; rfl
              rw [h9] at ih
              exact ih (by omega) _
set_option maxHeartbeats 1000000 in
theorem c_allows {q : Nat} {qa : Nat → Nat} {d c n a v f : Nat} {b : Bool} {r : rA} {i p t m : Nat} {x : Int32} (hi : i < 40) (hm : m ≤ 5) (hM : r 14 i = nI m) (hp : p < 8) (ht : t < 41) (hT : r 27 p = nI t) (hX : r 25 (41 * p + t) = x) (hx : x = -1 ∨ ∃ j, j < 40 ∧ x = nI j) : rFun q qa (d + 2) 135 [zR (some q), zI (nI i), zI (nI p)] (c, n, a, b, v, f, r) (c, n, a, b, v, f, r) (some (zI (bI (awF r i p x m)))) := by
  refine rFun.of (d := d + 1) (T := tb_135) (L := [some (zR (some q)), some (zI (nI i)), some (zI (nI p)), none, none, none]) (Nat.le_of_ble_eq_true rfl) rfl rfl ?_
  refine r_ico (x := (nI 1)) rfl rfl ?_
  refine r_ist (ls' := [some (zR (some q)), some (zI (nI i)), some (zI (nI p)), some (zI (nI 1)), none, none]) rfl (Nat.le_of_ble_eq_true rfl) rfl ?_
  refine r_ico (x := (nI 0)) rfl rfl ?_
  refine r_ist (ls' := [some (zR (some q)), some (zI (nI i)), some (zI (nI p)), some (zI (nI 1)), some (zI (nI 0)), none]) rfl (Nat.le_of_ble_eq_true rfl) rfl ?_
  exact l_allows hi hm hM hp ht hT hX hx ⟨rfl, rfl⟩ 0 (by omega) none
set_option maxHeartbeats 1000000 in
theorem l_gw {q : Nat} {qa : Nat → Nat} {d c n a v f : Nat} {b : Bool} {r : rA} {Q : rS → (Option zV ⊕ Nat) → Prop} {p : Nat} {t : Nat → Nat} {g : Nat → Int32} (hp : p < 8) (hT : ∀ k, k ≤ p → r 27 k = nI (t k) ∧ t k < 41) (hX : ∀ k, k ≤ p → r 25 (41 * k + t k) = g k) (hx : ∀ k, k ≤ p → g k = -1 ∨ ∃ j, j < 40 ∧ g k = nI j) (hM : ∀ j, j < 40 → ∃ m, m ≤ 5 ∧ r 14 j = nI m) (hQ : Q (c, n, a, b, v, f, r) (.inl (some (zI (bI (gwF r g p (p + 1))))))) : ∀ k, k ≤ p + 1 → rEv q qa (d + 2) tb_136 Q 38 [some (zR (some q)), some (zI (nI p)), some (zI (g p)), some (zI (bI (gwF r g p k))), some (zI (nI k))] [] (c, n, a, b, v, f, r) := by
  refine dn (p + 1) (fun k hk ih => ?_)
  refine r_ild rfl rfl ?_
  refine r_ild rfl rfl ?_
  refine r_cmpN (by omega) (by omega) rfl (fun h_1 => ?_) (fun h_1 => ?_)
  · replace h_1 : p < k := h_1
    refine r_ild rfl rfl ?_
    refine r_ret rfl ⟨_, rfl, bI_01 _⟩ ?_
    have h3 : k = p + 1 := by omega
    rw [h3]
    exact hQ
  · replace h_1 := Nat.not_lt.mp h_1
    refine r_ild rfl rfl ?_
    refine r_ifB0 rfl (fun h_2 => ?_) (fun h_2 => ?_)
    · refine r_ild rfl rfl ?_
      refine r_ret rfl ⟨_, rfl, bI_01 _⟩ ?_
      have h8 := gwF_f h_2 (p + 1 - k)
      rw [show k + (p + 1 - k) = p + 1 by omega] at h8
      rw [h_2, ← h8]
      exact hQ
    · have hg := h_2
      have J77_2 : ∀ (x77_3 : Bool), x77_3 = (awI r (g k) p (g p)) → rEv q qa (d + 2) tb_136 Q 77 [some (zR (some q)), some (zI (nI p)), some (zI (g p)), some (zI (bI (gwF r g p k))), some (zI (nI k))] [zI (bI (x77_3))] (c, n, a, b, v, f, r) := by
        intro x77_3 hxx77_3
        refine r_ist (ls' := [some (zR (some q)), some (zI (nI p)), some (zI (g p)), some (zI (bI (x77_3))), some (zI (nI k))]) rfl (Nat.le_of_ble_eq_true rfl) rfl ?_
        have J102_3 : ∀ (x102_4 : Bool), x102_4 = (gwF r g p (k + 1)) → rEv q qa (d + 2) tb_136 Q 102 [some (zR (some q)), some (zI (nI p)), some (zI (g p)), some (zI (bI (x77_3))), some (zI (nI k))] [zI (bI (x102_4))] (c, n, a, b, v, f, r) := by
          intro x102_4 hxx102_4
          refine r_ist (ls' := [some (zR (some q)), some (zI (nI p)), some (zI (g p)), some (zI (bI (x102_4))), some (zI (nI k))]) rfl (Nat.le_of_ble_eq_true rfl) rfl ?_
          refine r_inc (x' := (nI (k + 1))) (ls' := [some (zR (some q)), some (zI (nI p)), some (zI (g p)), some (zI (bI (x102_4))), some (zI (nI (k + 1)))]) rfl rfl (nI_1 _) rfl ?_
          refine r_go rfl ?_
          subst hxx102_4
          exact ih (by omega)
        refine r_ild rfl rfl ?_
        refine r_ifB0 rfl (fun h_5 => ?_) (fun h_5 => ?_)
        · refine r_ico (x := (nI 0)) rfl rfl ?_
          exact J102_3 false (by rw [gwF, hg, ← hxx77_3, h_5]; rfl)
        · refine r_ild rfl rfl ?_
          refine r_ico (x := (-1)) rfl rfl ?_
          refine r_cmp rfl (fun h_6 => ?_) (fun h_6 => ?_)
          · replace h_6 : (g p) = (-1) := h_6
            refine r_ico (x := (nI 1)) rfl rfl ?_
            refine r_go rfl ?_
            exact J102_3 true (by rw [gwF, hg, ← hxx77_3, h_5, awI, if_pos h_6]; rfl)
          · replace h_6 : ¬ ((g p) = (-1)) := h_6
            refine r_ald rfl rfl ?_
            refine r_ild rfl rfl ?_
            obtain ⟨j2, hj2, e3⟩ := (hx p (by omega)).resolve_left h_6
            obtain ⟨m2, hm2, e4⟩ := hM j2 hj2
            refine r_top (y := nI j2) e3 ?_
            refine r_ild rfl rfl ?_
            refine r_call (as := [zR (some q), zI (nI j2), zI (nI k)]) (r := []) (s' := (c, n, a, b, v, f, r)) (v := some (zI (bI (awF r j2 k (g k) m2)))) rfl rfl rfl (Nat.le_of_ble_eq_true rfl) (Or.inr ⟨rfl, rfl, _, rfl⟩) (c_allows hj2 hm2 e4 (by omega) (hT k (by omega)).2 (hT k (by omega)).1 (hX k (by omega)) (hx k (by omega))) ?_
            refine r_ifB0 rfl (fun h_7 => ?_) (fun h_7 => ?_)
            · refine r_ico (x := (nI 0)) rfl rfl ?_
              exact J102_3 false (by rw [gwF, hg, ← hxx77_3, h_5, awI_n e3 (by omega) e4 (by omega), h_7]; rfl)
            · refine r_ico (x := (nI 1)) rfl rfl ?_
              refine r_go rfl ?_
              exact J102_3 true (by rw [gwF, hg, ← hxx77_3, h_5, awI_n e3 (by omega) e4 (by omega), h_7]; rfl)
      refine r_ald rfl rfl ?_
      refine r_ild rfl rfl ?_
      refine r_call (as := [zR (some q), zI (nI k)]) (r := []) (s' := (c, n, a, b, v, f, r)) (v := some (zI (g k))) rfl rfl rfl (Nat.le_of_ble_eq_true rfl) (Or.inr ⟨rfl, rfl, _, rfl⟩) (c_given (by omega) (hT k (by omega)).2 (hT k (by omega)).1 (hX k (by omega))) ?_
      refine r_ico (x := (-1)) rfl rfl ?_
      refine r_cmp rfl (fun h_8 => ?_) (fun h_8 => ?_)
      · replace h_8 : (g k) = (-1) := h_8
        refine r_ico (x := (nI 1)) rfl rfl ?_
        refine r_go rfl ?_
        exact J77_2 true (by rw [awI, if_pos h_8])
      · replace h_8 : ¬ ((g k) = (-1)) := h_8
        refine r_ald rfl rfl ?_
        refine r_ald rfl rfl ?_
        refine r_ild rfl rfl ?_
        refine r_call (as := [zR (some q), zI (nI k)]) (r := [zR (some q)]) (s' := (c, n, a, b, v, f, r)) (v := some (zI (g k))) rfl rfl rfl (Nat.le_of_ble_eq_true rfl) (Or.inr ⟨rfl, rfl, _, rfl⟩) (c_given (by omega) (hT k (by omega)).2 (hT k (by omega)).1 (hX k (by omega))) ?_
        obtain ⟨j1, hj1, e1⟩ := (hx k (by omega)).resolve_left h_8
        obtain ⟨m1, hm1, e2⟩ := hM j1 hj1
        refine r_top (y := nI j1) e1 ?_
        refine r_ild rfl rfl ?_
        refine r_call (as := [zR (some q), zI (nI j1), zI (nI p)]) (r := []) (s' := (c, n, a, b, v, f, r)) (v := some (zI (bI (awF r j1 p (g p) m1)))) rfl rfl rfl (Nat.le_of_ble_eq_true rfl) (Or.inr ⟨rfl, rfl, _, rfl⟩) (c_allows hj1 hm1 e2 (by omega) (hT p (by omega)).2 (hT p (by omega)).1 (hX p (by omega)) (hx p (by omega))) ?_
        refine r_ifB0 rfl (fun h_9 => ?_) (fun h_9 => ?_)
        · refine r_ico (x := (nI 0)) rfl rfl ?_
          exact J77_2 false (by rw [awI_n e1 (by omega) e2 (by omega), h_9])
        · refine r_ico (x := (nI 1)) rfl rfl ?_
          refine r_go rfl ?_
          exact J77_2 true (by rw [awI_n e1 (by omega) e2 (by omega), h_9])
set_option maxHeartbeats 1000000 in
theorem c_goesWell {q : Nat} {qa : Nat → Nat} {d c n a v f : Nat} {b : Bool} {r : rA} {p : Nat} {t : Nat → Nat} {g : Nat → Int32} (hp : p < 8) (hT : ∀ k, k ≤ p → r 27 k = nI (t k) ∧ t k < 41) (hX : ∀ k, k ≤ p → r 25 (41 * k + t k) = g k) (hx : ∀ k, k ≤ p → g k = -1 ∨ ∃ j, j < 40 ∧ g k = nI j) (hM : ∀ j, j < 40 → ∃ m, m ≤ 5 ∧ r 14 j = nI m) (hW : ¬ r 20 p = 0 → ¬ g p = -1) : rFun q qa (d + 3) 136 [zR (some q), zI (nI p)] (c, n, a, b, v, f, r) (c, n, a, b, v, f, r) (some (zI (bI (gwF r g p (p + 1))))) := by
  refine rFun.of (d := d + 2) (T := tb_136) (L := [some (zR (some q)), some (zI (nI p)), none, none, none]) (Nat.le_of_ble_eq_true rfl) rfl rfl ?_
  refine r_ald rfl rfl ?_
  refine r_ild rfl rfl ?_
  refine r_call (as := [zR (some q), zI (nI p)]) (r := []) (s' := (c, n, a, b, v, f, r)) (v := some (zI (g p))) rfl rfl rfl (Nat.le_of_ble_eq_true rfl) (Or.inr ⟨rfl, rfl, _, rfl⟩) (c_given (by omega) (hT p (by omega)).2 (hT p (by omega)).1 (hX p (by omega))) ?_
  refine r_ist (ls' := [some (zR (some q)), some (zI (nI p)), some (zI (g p)), none, none]) rfl (Nat.le_of_ble_eq_true rfl) rfl ?_
  refine r_ald rfl rfl ?_
  refine r_get rfl rfl ?_
  refine r_ild rfl rfl ?_
  refine r_ialdN (k0 := 20) rfl rfl (by omega) (by decide) ?_
  refine r_if rfl (fun h_1 => ?_) (fun h_1 => ?_)
  · replace h_1 : (r 20 p) = 0 := h_1
    refine r_ico (x := (nI 1)) rfl rfl ?_
    refine r_go rfl ?_
    refine r_ist (ls' := [some (zR (some q)), some (zI (nI p)), some (zI (g p)), some (zI (nI 1)), none]) rfl (Nat.le_of_ble_eq_true rfl) rfl ?_
    refine r_ico (x := (nI 0)) rfl rfl ?_
    refine r_ist (ls' := [some (zR (some q)), some (zI (nI p)), some (zI (g p)), some (zI (nI 1)), some (zI (nI 0))]) rfl (Nat.le_of_ble_eq_true rfl) rfl ?_
    have h0 : gwF r g p 0 = true := by rw [gwF, g0F, if_pos h_1]
    have h9 := l_gw (q := q) (qa := qa) (d := d) (c := c) (n := n) (a := a) (v := v) (f := f) (b := b) (r := r) (Q := fun t o => t = (c, n, a, b, v, f, r) ∧ o = Sum.inl (some (zI (bI (gwF r g p (p + 1)))))) hp hT hX hx hM ⟨rfl, rfl⟩ 0 (by omega)
    rw [h0] at h9
    exact h9
  · replace h_1 : ¬ ((r 20 p) = 0) := h_1
    refine r_ald rfl rfl ?_
    refine r_get rfl rfl ?_
    refine r_ico (x := (nI 40)) rfl rfl ?_
    refine r_ild rfl rfl ?_
    refine r_ibi (v := (nI (40 * p))) rfl (pk_mul _ _) ?_
    refine r_ild rfl rfl ?_
    obtain ⟨j0, hj0, e0⟩ := (hx p (by omega)).resolve_left (hW h_1)
    refine r_top (y := nI j0) e0 ?_
    refine r_ibi (v := (nI (40 * p + j0))) rfl (nI_add _ _) ?_
    refine r_ialdN (k0 := 28) rfl rfl (by omega) (by decide) ?_
    refine r_if rfl (fun h_2 => ?_) (fun h_2 => ?_)
    · replace h_2 : (r 28 (40 * p + j0)) = 0 := h_2
      refine r_ico (x := (nI 0)) rfl rfl ?_
      refine r_ist (ls' := [some (zR (some q)), some (zI (nI p)), some (zI (g p)), some (zI (nI 0)), none]) rfl (Nat.le_of_ble_eq_true rfl) rfl ?_
      refine r_ico (x := (nI 0)) rfl rfl ?_
      refine r_ist (ls' := [some (zR (some q)), some (zI (nI p)), some (zI (g p)), some (zI (nI 0)), some (zI (nI 0))]) rfl (Nat.le_of_ble_eq_true rfl) rfl ?_
      have h0 : gwF r g p 0 = false := by rw [gwF, g0F, if_neg h_1, e0, nI_clamp (by omega), decide_eq_true h_2]; rfl
      have h9 := l_gw (q := q) (qa := qa) (d := d) (c := c) (n := n) (a := a) (v := v) (f := f) (b := b) (r := r) (Q := fun t o => t = (c, n, a, b, v, f, r) ∧ o = Sum.inl (some (zI (bI (gwF r g p (p + 1)))))) hp hT hX hx hM ⟨rfl, rfl⟩ 0 (by omega)
      rw [h0] at h9
      exact h9
    · replace h_2 : ¬ ((r 28 (40 * p + j0)) = 0) := h_2
      refine r_ico (x := (nI 1)) rfl rfl ?_
      refine r_go rfl ?_
      refine r_ist (ls' := [some (zR (some q)), some (zI (nI p)), some (zI (g p)), some (zI (nI 1)), none]) rfl (Nat.le_of_ble_eq_true rfl) rfl ?_
      refine r_ico (x := (nI 0)) rfl rfl ?_
      refine r_ist (ls' := [some (zR (some q)), some (zI (nI p)), some (zI (g p)), some (zI (nI 1)), some (zI (nI 0))]) rfl (Nat.le_of_ble_eq_true rfl) rfl ?_
      have h0 : gwF r g p 0 = true := by rw [gwF, g0F, if_neg h_1, e0, nI_clamp (by omega), decide_eq_false h_2]; rfl
      have h9 := l_gw (q := q) (qa := qa) (d := d) (c := c) (n := n) (a := a) (v := v) (f := f) (b := b) (r := r) (Q := fun t o => t = (c, n, a, b, v, f, r) ∧ o = Sum.inl (some (zI (bI (gwF r g p (p + 1)))))) hp hT hX hx hM ⟨rfl, rfl⟩ 0 (by omega)
      rw [h0] at h9
      exact h9
