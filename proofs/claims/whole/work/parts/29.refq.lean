theorem c_inZ {q : Nat} {qa : Nat → Nat} {d : Nat} {s : rS} {x lo hi : Int32} {z : Bool} (h : isIn x lo hi = z) : rFun q qa (d + 1) 98 [zI x, zI lo, zI hi] s s (some (zI (bI z))) := by
  subst h
  obtain ⟨c, n, a, b, v, f, r⟩ := s
  exact c_in
theorem c_isVersionZ {q : Nat} {qa : Nat → Nat} {d c n a v f : Nat} {b z : Bool} {r : rA} {x : Int32} (h : isIn x (nI 0) (nI v - nI 1) = z) : rFun q qa (d + 2) 126 [zR (some q), zI x] (c, n, a, b, v, f, r) (c, n, a, b, v, f, r) (some (zI (bI z))) := by
  subst h
  exact c_isVersion
/-- 24 words' bytes of row i, the first k of them laid into row j -/
def cpW (r : rA) (i j k : Nat) : rA := fun a => if a = 9 then (fun x => if 24 * j ≤ x ∧ x < 24 * j + k then r 9 (24 * i + (x - 24 * j)) else r 9 x) else r a
theorem cpW_0 (r : rA) (i j : Nat) : cpW r i j 0 = r := by
  funext a x
  unfold cpW
  split
  · rename_i h
    subst h
    show (if _ then _ else _) = _
    rw [if_neg (by omega)]
  · rfl
theorem cpW_n {r : rA} {i j k a : Nat} (h : a ≠ 9) : cpW r i j k a = r a := by simp [cpW, h]
theorem cpW_9 {r : rA} {i j k x : Nat} : cpW r i j k 9 x = if 24 * j ≤ x ∧ x < 24 * j + k then r 9 (24 * i + (x - 24 * j)) else r 9 x := by simp [cpW]
theorem cpW_s {r : rA} {i j k : Nat} (h : i ≠ j) (hk : k < 24) : rset (cpW r i j k) 9 (24 * j + k) (cpW r i j k 9 (24 * i + k)) = cpW r i j (k + 1) := by
  funext a x
  unfold rset
  split
  · rename_i ha
    subst ha
    rw [cpW_9 (x := 24 * i + k), if_neg (by omega)]
    unfold upd
    rw [cpW_9, cpW_9]
    by_cases hx : x = 24 * j + k
    · subst hx
      rw [if_pos rfl, if_pos (by omega)]
      congr 1
      omega
    · rw [if_neg hx]
      by_cases g : 24 * j ≤ x ∧ x < 24 * j + k
      · rw [if_pos g, if_pos (by omega)]
      · rw [if_neg g, if_neg (by omega)]
  · rename_i ha
    rw [cpW_n ha, cpW_n ha]
/-- what copyRow(i, j) does -/
def crF (r : rA) (i j : Nat) : rA := cpW (rset (rset (rset (rset (rset (rset r 5 j (r 5 i)) 6 j (r 6 i)) 7 j (r 7 i)) 8 j (r 8 i)) 10 j (r 10 i)) 11 j (r 11 i)) i j 24
/-- has the package pk a version of the precedence of row 40? -/
def hsF (r : rA) (pk : Int32) : Nat → Bool
  | 0 => false
  | k + 1 => hsF r pk k || (decide (r 16 k = pk) && decide (ordF r k (wsz r k) 40 (wsz r 40) = 0))
/-- how many of eight are given -/
def cntF (t : Nat → Int32) : Nat → Nat
  | 0 => 0
  | k + 1 => cntF t k + (if t k = -1 then 0 else 1)
theorem cntF_le (t : Nat → Int32) : ∀ k, cntF t k ≤ k
  | 0 => Nat.le_refl _
  | k + 1 => by
    have := cntF_le t k
    unfold cntF
    split <;> omega
set_option maxHeartbeats 1000000 in
theorem l_cr {q : Nat} {qa : Nat → Nat} {d c n a v f i j : Nat} {b : Bool} {r : rA} {Q : rS → (Option zV ⊕ Nat) → Prop} (hi : i < 900) (hj : j < 900) (hij : i ≠ j) (hQ : Q (c, n, a, b, v, f, cpW r i j 24) (.inl none)) : ∀ (m k : Nat), 24 ≤ k + m → k ≤ 24 → rEv q qa d tb_123 Q 74 [some (zR (some q)), some (zI (nI i)), some (zI (nI j)), some (zI (nI k))] [] (c, n, a, b, v, f, cpW r i j k) := by
  intro m
  induction m with
  | zero =>
    intro k h1 h2
    have h3 : k = 24 := by omega
    subst h3
    refine r_ild rfl rfl ?_
    refine r_ico (x := (nI 24)) rfl rfl ?_
    refine r_cmpN (by omega) (by omega) rfl (fun h_1 => ?_) (fun h_1 => ?_)
    · replace h_1 : 24 ≤ 24 := h_1
      refine r_rtv rfl ?_
      exact hQ
    · replace h_1 := Nat.not_le.mp h_1
      omega
  | succ m ih =>
    intro k h1 h2
    refine r_ild rfl rfl ?_
    refine r_ico (x := (nI 24)) rfl rfl ?_
    refine r_cmpN (by omega) (by omega) rfl (fun h_1 => ?_) (fun h_1 => ?_)
    · replace h_1 : 24 ≤ k := h_1
      refine r_rtv rfl ?_
      have h3 : k = 24 := by omega
      subst h3
      exact hQ
    · replace h_1 := Nat.not_le.mp h_1
      refine r_ald rfl rfl ?_
      refine r_get rfl rfl ?_
      refine r_ico (x := (nI 24)) rfl rfl ?_
      refine r_ild rfl rfl ?_
      refine r_ibi (v := (nI (24 * j))) rfl (pk_mul _ _) ?_
      refine r_ild rfl rfl ?_
      refine r_ibi (v := (nI (24 * j + k))) rfl (nI_add _ _) ?_
      refine r_ald rfl rfl ?_
      refine r_get rfl rfl ?_
      refine r_ico (x := (nI 24)) rfl rfl ?_
      refine r_ild rfl rfl ?_
      refine r_ibi (v := (nI (24 * i))) rfl (pk_mul _ _) ?_
      refine r_ild rfl rfl ?_
      refine r_ibi (v := (nI (24 * i + k))) rfl (nI_add _ _) ?_
      refine r_ialdN (k0 := 9) rfl rfl (by omega) (by decide) ?_
      refine r_iastN (k0 := 9) (x' := ((cpW r i j k) 9 (24 * i + k))) rfl rfl (by omega) (by decide) rfl ?_
      refine r_inc (x' := (nI (k + 1))) (ls' := [some (zR (some q)), some (zI (nI i)), some (zI (nI j)), some (zI (nI (k + 1)))]) rfl rfl (nI_1 _) rfl ?_
      refine r_go rfl ?_
      rw [cpW_s hij (by omega)]
      exact ih (k + 1) (by omega) (by omega)
set_option maxHeartbeats 1000000 in
theorem c_copyRow {q : Nat} {qa : Nat → Nat} {d c n a v f : Nat} {b : Bool} {r : rA} {i j : Nat} (hi : i < 900) (hj : j < 900) (hij : i ≠ j) : rFun q qa (d + 1) 123 [zR (some q), zI (nI i), zI (nI j)] (c, n, a, b, v, f, r) (c, n, a, b, v, f, crF r i j) none := by
  refine rFun.of (T := tb_123) (L := [some (zR (some q)), some (zI (nI i)), some (zI (nI j)), none]) (Nat.le_of_ble_eq_true rfl) rfl rfl ?_
  refine r_ald rfl rfl ?_
  refine r_get rfl rfl ?_
  refine r_ild rfl rfl ?_
  refine r_ald rfl rfl ?_
  refine r_get rfl rfl ?_
  refine r_ild rfl rfl ?_
  refine r_ialdN (k0 := 5) rfl rfl (by omega) (by decide) ?_
  refine r_iastN (k0 := 5) (x' := (r 5 i)) rfl rfl (by omega) (by decide) rfl ?_
  refine r_ald rfl rfl ?_
  refine r_get rfl rfl ?_
  refine r_ild rfl rfl ?_
  refine r_ald rfl rfl ?_
  refine r_get rfl rfl ?_
  refine r_ild rfl rfl ?_
  refine r_ialdN (k0 := 6) rfl rfl (by omega) (by decide) ?_
  refine r_iastN (k0 := 6) (x' := ((rset r 5 j (r 5 i)) 6 i)) rfl rfl (by omega) (by decide) rfl ?_
  refine r_ald rfl rfl ?_
  refine r_get rfl rfl ?_
  refine r_ild rfl rfl ?_
  refine r_ald rfl rfl ?_
  refine r_get rfl rfl ?_
  refine r_ild rfl rfl ?_
  refine r_ialdN (k0 := 7) rfl rfl (by omega) (by decide) ?_
  refine r_iastN (k0 := 7) (x' := ((rset (rset r 5 j (r 5 i)) 6 j ((rset r 5 j (r 5 i)) 6 i)) 7 i)) rfl rfl (by omega) (by decide) rfl ?_
  refine r_ald rfl rfl ?_
  refine r_get rfl rfl ?_
  refine r_ild rfl rfl ?_
  refine r_ald rfl rfl ?_
  refine r_get rfl rfl ?_
  refine r_ild rfl rfl ?_
  refine r_ialdN (k0 := 8) rfl rfl (by omega) (by decide) ?_
  refine r_iastN (k0 := 8) (x' := ((rset (rset (rset r 5 j (r 5 i)) 6 j ((rset r 5 j (r 5 i)) 6 i)) 7 j ((rset (rset r 5 j (r 5 i)) 6 j ((rset r 5 j (r 5 i)) 6 i)) 7 i)) 8 i)) rfl rfl (by omega) (by decide) rfl ?_
  refine r_ald rfl rfl ?_
  refine r_get rfl rfl ?_
  refine r_ild rfl rfl ?_
  refine r_ald rfl rfl ?_
  refine r_get rfl rfl ?_
  refine r_ild rfl rfl ?_
  refine r_ialdN (k0 := 10) rfl rfl (by omega) (by decide) ?_
  refine r_iastN (k0 := 10) (x' := ((rset (rset (rset (rset r 5 j (r 5 i)) 6 j ((rset r 5 j (r 5 i)) 6 i)) 7 j ((rset (rset r 5 j (r 5 i)) 6 j ((rset r 5 j (r 5 i)) 6 i)) 7 i)) 8 j ((rset (rset (rset r 5 j (r 5 i)) 6 j ((rset r 5 j (r 5 i)) 6 i)) 7 j ((rset (rset r 5 j (r 5 i)) 6 j ((rset r 5 j (r 5 i)) 6 i)) 7 i)) 8 i)) 10 i)) rfl rfl (by omega) (by decide) rfl ?_
  refine r_ald rfl rfl ?_
  refine r_get rfl rfl ?_
  refine r_ild rfl rfl ?_
  refine r_ald rfl rfl ?_
  refine r_get rfl rfl ?_
  refine r_ild rfl rfl ?_
  refine r_ialdN (k0 := 11) rfl rfl (by omega) (by decide) ?_
  refine r_iastN (k0 := 11) (x' := ((rset (rset (rset (rset (rset r 5 j (r 5 i)) 6 j ((rset r 5 j (r 5 i)) 6 i)) 7 j ((rset (rset r 5 j (r 5 i)) 6 j ((rset r 5 j (r 5 i)) 6 i)) 7 i)) 8 j ((rset (rset (rset r 5 j (r 5 i)) 6 j ((rset r 5 j (r 5 i)) 6 i)) 7 j ((rset (rset r 5 j (r 5 i)) 6 j ((rset r 5 j (r 5 i)) 6 i)) 7 i)) 8 i)) 10 j ((rset (rset (rset (rset r 5 j (r 5 i)) 6 j ((rset r 5 j (r 5 i)) 6 i)) 7 j ((rset (rset r 5 j (r 5 i)) 6 j ((rset r 5 j (r 5 i)) 6 i)) 7 i)) 8 j ((rset (rset (rset r 5 j (r 5 i)) 6 j ((rset r 5 j (r 5 i)) 6 i)) 7 j ((rset (rset r 5 j (r 5 i)) 6 j ((rset r 5 j (r 5 i)) 6 i)) 7 i)) 8 i)) 10 i)) 11 i)) rfl rfl (by omega) (by decide) rfl ?_
  refine r_ico (x := (nI 0)) rfl rfl ?_
  refine r_ist (ls' := [some (zR (some q)), some (zI (nI i)), some (zI (nI j)), some (zI (nI 0))]) rfl (Nat.le_of_ble_eq_true rfl) rfl ?_
  exact Eq.mp (congrArg (fun z => rEv q qa d tb_123 _ 74 _ [] (c, n, a, b, v, f, z)) (cpW_0 _ i j)) (l_cr hi hj hij ⟨rfl, rfl⟩ 24 0 (by omega) (by omega))
set_option maxHeartbeats 1000000 in
theorem l_hs {q : Nat} {qa : Nat → Nat} {d c n a v f : Nat} {pk : Int32} {b : Bool} {r : rA} {Q : rS → (Option zV ⊕ Nat) → Prop} (hv : v ≤ 40) (h40 : rowOK r 40) (hR : ∀ k, k < v → rowOK r k) (hQ : Q (c, n, a, b, v, f, r) (.inl (some (zI (bI (hsF r pk v)))))) : ∀ (m k : Nat), v ≤ k + m → k ≤ v → rEv q qa (d + 4) tb_124 Q 4 [some (zR (some q)), some (zI (pk)), some (zI (bI (hsF r pk k))), some (zI (nI k))] [] (c, n, a, b, v, f, r) := by
  intro m
  induction m with
  | zero =>
    intro k h1 h2
    have h3 : v = k := by omega
    subst h3
    refine r_ild rfl rfl ?_
    refine r_ald rfl rfl ?_
    refine r_get rfl rfl ?_
    refine r_cmpN (by omega) (by omega) rfl (fun h_1 => ?_) (fun h_1 => ?_)
    · replace h_1 : v ≤ v := h_1
      refine r_ild rfl rfl ?_
      refine r_ret rfl ⟨_, rfl, bI_01 _⟩ ?_
      exact hQ
    · replace h_1 := Nat.not_le.mp h_1
      omega
  | succ m ih =>
    intro k h1 h2
    refine r_ild rfl rfl ?_
    refine r_ald rfl rfl ?_
    refine r_get rfl rfl ?_
    refine r_cmpN (by omega) (by omega) rfl (fun h_1 => ?_) (fun h_1 => ?_)
    · replace h_1 : v ≤ k := h_1
      refine r_ild rfl rfl ?_
      refine r_ret rfl ⟨_, rfl, bI_01 _⟩ ?_
      have h3 : v = k := by omega
      subst h3
      exact hQ
    · replace h_1 := Nat.not_le.mp h_1
      have hk := hR k (by omega)
      have J41_1 : ∀ (x41_2 : Bool), x41_2 = (hsF r pk (k + 1)) → rEv q qa (d + 4) tb_124 Q 41 [some (zR (some q)), some (zI (pk)), some (zI (bI (hsF r pk k))), some (zI (nI k))] [zI (bI (x41_2))] (c, n, a, b, v, f, r) := by
        intro x41_2 hxx41_2
        refine r_ist (ls' := [some (zR (some q)), some (zI (pk)), some (zI (bI (x41_2))), some (zI (nI k))]) rfl (Nat.le_of_ble_eq_true rfl) rfl ?_
        refine r_inc (x' := (nI (k + 1))) (ls' := [some (zR (some q)), some (zI (pk)), some (zI (bI (x41_2))), some (zI (nI (k + 1)))]) rfl rfl (nI_1 _) rfl ?_
        refine r_go rfl ?_
        subst hxx41_2
        exact ih (k + 1) (by omega) (by omega)
      refine r_ild rfl rfl ?_
      refine r_ifB1 rfl (fun h_3 => ?_) (fun h_3 => ?_)
      · refine r_ico (x := (nI 1)) rfl rfl ?_
        refine r_go rfl ?_
        exact J41_1 true (by simp [hsF, h_3])
      · refine r_ald rfl rfl ?_
        refine r_get rfl rfl ?_
        refine r_ild rfl rfl ?_
        refine r_ialdN (k0 := 16) rfl rfl (by omega) (by decide) ?_
        refine r_ild rfl rfl ?_
        refine r_cmp rfl (fun h_4 => ?_) (fun h_4 => ?_)
        · replace h_4 : ¬ (r 16 k) = (pk) := h_4
          refine r_ico (x := (nI 0)) rfl rfl ?_
          exact J41_1 false (by simp [hsF, h_3, h_4])
        · replace h_4 : (r 16 k) = (pk) := Decidable.of_not_not h_4
          refine r_ald rfl rfl ?_
          refine r_ild rfl rfl ?_
          refine r_ico (x := (nI 40)) rfl rfl ?_
          refine r_call (as := [zR (some q), zI (nI k), zI (nI 40)]) (r := []) (s' := (c, n, a, b, v, f, r)) (v := some (zI (ordF r k (wsz r k) 40 (wsz r 40)))) rfl rfl rfl (Nat.le_of_ble_eq_true rfl) (Or.inr ⟨rfl, rfl, _, rfl⟩) (c_order (by omega) (by omega) hk.1.2 h40.1.2 hk.1.1 h40.1.1) ?_
          refine r_if rfl (fun h_5 => ?_) (fun h_5 => ?_)
          · replace h_5 : ¬ (ordF r k (wsz r k) 40 (wsz r 40)) = 0 := h_5
            refine r_ico (x := (nI 0)) rfl rfl ?_
            exact J41_1 false (by simp [hsF, h_3, h_4, h_5])
          · replace h_5 : (ordF r k (wsz r k) 40 (wsz r 40)) = 0 := Decidable.of_not_not h_5
            refine r_ico (x := (nI 1)) rfl rfl ?_
            refine r_go rfl ?_
            exact J41_1 true (by simp [hsF, h_3, h_4, h_5])
set_option maxHeartbeats 1000000 in
theorem c_hasSame {q : Nat} {qa : Nat → Nat} {d c n a v f : Nat} {b : Bool} {r : rA} {pk : Int32} (hv : v ≤ 40) (h40 : rowOK r 40) (hR : ∀ k, k < v → rowOK r k) : rFun q qa (d + 5) 124 [zR (some q), zI (pk)] (c, n, a, b, v, f, r) (c, n, a, b, v, f, r) (some (zI (bI (hsF r pk v)))) := by
  refine rFun.of (d := d + 4) (T := tb_124) (L := [some (zR (some q)), some (zI (pk)), none, none]) (Nat.le_of_ble_eq_true rfl) rfl rfl ?_
  refine r_ico (x := (nI 0)) rfl rfl ?_
  refine r_ist (ls' := [some (zR (some q)), some (zI (pk)), some (zI (nI 0)), none]) rfl (Nat.le_of_ble_eq_true rfl) rfl ?_
  refine r_ico (x := (nI 0)) rfl rfl ?_
  refine r_ist (ls' := [some (zR (some q)), some (zI (pk)), some (zI (nI 0)), some (zI (nI 0))]) rfl (Nat.le_of_ble_eq_true rfl) rfl ?_
  exact l_hs hv h40 hR ⟨rfl, rfl⟩ v 0 (by omega) (by omega)
