theorem dn {P : Nat → Prop} (N : Nat) (h : ∀ k, k ≤ N → (k < N → P (k + 1)) → P k) : ∀ k, k ≤ N → P k := by
  have g : ∀ m k, N ≤ k + m → k ≤ N → P k := by
    intro m
    induction m with
    | zero => exact fun k h1 h2 => h k h2 (fun h3 => absurd h3 (by omega))
    | succ m ih => exact fun k h1 h2 => h k h2 (fun h3 => ih (k + 1) (by omega) (by omega))
  exact fun k hk => g N k (by omega) hk
theorem rEv_rr {q : Nat} {qa : Nat → Nat} {d : Nat} {T : List (Nat × zOp)} {Q : rS → (Option zV ⊕ Nat) → Prop} {pc : Nat} {ls : List (Option zV)} {st : List zV} {c n a v f : Nat} {b : Bool} {r r' : rA} (e : r = r') (k : rEv q qa d T Q pc ls st (c, n, a, b, v, f, r)) : rEv q qa d T Q pc ls st (c, n, a, b, v, f, r') := by subst e; exact k
theorem isIn_n {p m : Nat} (h : p ≤ m) (hm : m < 2 ^ 31) : isIn (nI p) (nI 0) (nI m) = true := by
  have h1 : ¬ nI p < nI 0 := nI_nlt (Nat.zero_le _) (by omega)
  have h2 : ¬ nI m < nI p := nI_nlt h hm
  simp [isIn, h1, h2]
theorem isIn_v {p m : Nat} (h : p < m) (hm : m < 2 ^ 31) : isIn (nI p) (nI 0) (nI m - nI 1) = true := by
  rw [pk_sub (by omega)]
  exact isIn_n (by omega) (by omega)
theorem isIn_ex {x : Int32} {m : Nat} (hm : m < 2 ^ 31) (h : isIn x (nI 0) (nI m) = true) : ∃ p, p ≤ m ∧ x = nI p := by
  have h1 : ¬ x < nI 0 ∧ ¬ nI m < x := by simpa [isIn] using h
  obtain ⟨j, hj, e⟩ := nI_of h1.1
  subst e
  exact ⟨j, Nat.not_lt.mp (fun g => h1.2 ((nI_ltI (by omega) hj).mpr g)), rfl⟩
theorem isIn_vx {x : Int32} {m : Nat} (hm : m < 2 ^ 31) (h : isIn x (nI 0) (nI m - nI 1) = true) : ∃ p, p < m ∧ x = nI p := by
  cases m with
  | zero =>
    have h1 : ¬ x < nI 0 ∧ ¬ nI 0 - nI 1 < x := by simpa [isIn] using h
    obtain ⟨j, hj, e⟩ := nI_of h1.1
    subst e
    refine absurd ?_ h1.2
    rw [Int32.lt_iff_toInt_lt, nI_toInt hj, show (nI 0 - nI 1).toInt = -1 by decide]
    omega
  | succ m =>
    rw [pk_sub (by omega)] at h
    obtain ⟨p, hp, e⟩ := isIn_ex (by omega) h
    exact ⟨p, by omega, e⟩
/-- the first k of an array, each anew -/
def rfil (r : rA) (k0 : Nat) (g : Nat → Int32) (k : Nat) : rA := fun j => if j = k0 then (fun i => if i < k then g i else r k0 i) else r j
theorem rfil_0 (r : rA) (k0 : Nat) (g : Nat → Int32) : rfil r k0 g 0 = r := by
  funext j i
  unfold rfil
  split
  · rename_i h
    subst h
    rfl
  · rfl
theorem rfil_n {r : rA} {k0 : Nat} {g : Nat → Int32} {k j : Nat} (h : j ≠ k0) : rfil r k0 g k j = r j := by simp [rfil, h]
theorem rfil_s (r : rA) (k0 : Nat) (g : Nat → Int32) (k : Nat) : rset (rfil r k0 g k) k0 k (g k) = rfil r k0 g (k + 1) := by
  funext j i
  unfold rset
  split
  · rename_i h
    subst h
    unfold upd rfil
    simp only [if_pos]
    by_cases hi : i = k
    · subst hi
      simp
    · simp only [if_neg hi]
      by_cases g : i < k
      · rw [if_pos g, if_pos (by omega)]
      · rw [if_neg g, if_neg (by omega)]
  · rename_i h
    rw [rfil_n h, rfil_n h]
/-- how many of them aren't 0 -/
def cntB (t : Nat → Int32) : Nat → Nat
  | 0 => 0
  | k + 1 => cntB t k + (if t k = 0 then 0 else 1)
theorem cntB_le (t : Nat → Int32) : ∀ k, cntB t k ≤ k
  | 0 => Nat.le_refl _
  | k + 1 => by
    have := cntB_le t k
    unfold cntB
    split <;> omega
set_option maxHeartbeats 1000000 in
theorem l_pins {q : Nat} {qa : Nat → Nat} {d c n a v f : Nat} {b : Bool} {r : rA} {Q : rS → (Option zV ⊕ Nat) → Prop}   (hQ : Q (c, n, a, b, v, f, r) (.inl (some (zI (nI (cntF (r 21) 8)))))) : ∀ k, k ≤ 8 → rEv q qa d tb_140 Q 4 [some (zR (some q)), some (zI (nI (cntF (r 21) k))), some (zI (nI k))] [] (c, n, a, b, v, f, r) := by
  refine dn 8 (fun k hk ih => ?_)
  refine r_ild rfl rfl ?_
  refine r_ico (x := (nI 8)) rfl rfl ?_
  refine r_cmpN (by omega) (by omega) rfl (fun h_1 => ?_) (fun h_1 => ?_)
  · replace h_1 : 8 ≤ k := h_1
    refine r_ild rfl rfl ?_
    refine r_ret rfl ⟨_, rfl⟩ ?_
    have h3 : k = 8 := by omega
    rw [h3]
    exact hQ
  · replace h_1 := Nat.not_le.mp h_1
    refine r_ild rfl rfl ?_
    refine r_ald rfl rfl ?_
    refine r_get rfl rfl ?_
    refine r_ild rfl rfl ?_
    refine r_ialdN (k0 := 21) rfl rfl (by omega) (by decide) ?_
    refine r_ico (x := (-1)) rfl rfl ?_
    refine r_cmp rfl (fun h_2 => ?_) (fun h_2 => ?_)
    · replace h_2 : ¬ (r 21 k) = (-1) := h_2
      refine r_ico (x := (nI 1)) rfl rfl ?_
      refine r_ibi (v := (nI (cntF (r 21) k + 1))) rfl (nI_add _ _) ?_
      refine r_ist (ls' := [some (zR (some q)), some (zI (nI (cntF (r 21) k + 1))), some (zI (nI k))]) rfl (Nat.le_of_ble_eq_true rfl) rfl ?_
      refine r_inc (x' := (nI (k + 1))) (ls' := [some (zR (some q)), some (zI (nI (cntF (r 21) k + 1))), some (zI (nI (k + 1)))]) rfl rfl (nI_1 _) rfl ?_
      refine r_go rfl ?_
      have h9 : cntF (r 21) (k + 1) = cntF (r 21) k + 1 := by rw [cntF, if_neg h_2]
      rw [h9] at ih
      exact ih (by omega)
    · replace h_2 : (r 21 k) = (-1) := Decidable.of_not_not h_2
      refine r_ico (x := (nI 0)) rfl rfl ?_
      refine r_go rfl ?_
      refine r_ibi (v := (nI (cntF (r 21) k + 0))) rfl (nI_add _ _) ?_
      refine r_ist (ls' := [some (zR (some q)), some (zI (nI (cntF (r 21) k + 0))), some (zI (nI k))]) rfl (Nat.le_of_ble_eq_true rfl) rfl ?_
      refine r_inc (x' := (nI (k + 1))) (ls' := [some (zR (some q)), some (zI (nI (cntF (r 21) k + 0))), some (zI (nI (k + 1)))]) rfl rfl (nI_1 _) rfl ?_
      refine r_go rfl ?_
      have h9 : cntF (r 21) (k + 1) = cntF (r 21) k + 0 := by rw [cntF, if_pos h_2]
      rw [h9] at ih
      exact ih (by omega)
set_option maxHeartbeats 1000000 in
theorem c_pins {q : Nat} {qa : Nat → Nat} {d c n a v f : Nat} {b : Bool} {r : rA}   : rFun q qa (d + 1) 140 [zR (some q)] (c, n, a, b, v, f, r) (c, n, a, b, v, f, r) (some (zI (nI (cntF (r 21) 8)))) := by
  refine rFun.of (T := tb_140) (L := [some (zR (some q)), none, none]) (Nat.le_of_ble_eq_true rfl) rfl rfl ?_
  refine r_ico (x := (nI 0)) rfl rfl ?_
  refine r_ist (ls' := [some (zR (some q)), some (zI (nI 0)), none]) rfl (Nat.le_of_ble_eq_true rfl) rfl ?_
  refine r_ico (x := (nI 0)) rfl rfl ?_
  refine r_ist (ls' := [some (zR (some q)), some (zI (nI 0)), some (zI (nI 0))]) rfl (Nat.le_of_ble_eq_true rfl) rfl ?_
  exact l_pins ⟨rfl, rfl⟩ 0 (by omega)
set_option maxHeartbeats 1000000 in
theorem l_lock {q : Nat} {qa : Nat → Nat} {d c n a v f : Nat} {b : Bool} {r : rA} {Q : rS → (Option zV ⊕ Nat) → Prop}   (hE : rEv q qa (d + 1) tb_141 Q 31 [some (zR (some q)), some (zI (nI 8))] [] (0, n, a, b, v, f, rfil r 21 (r 22) 8)) : ∀ k, k ≤ 8 → rEv q qa (d + 1) tb_141 Q 7 [some (zR (some q)), some (zI (nI k))] [] (0, n, a, b, v, f, rfil r 21 (r 22) k) := by
  refine dn 8 (fun k hk ih => ?_)
  refine r_ild rfl rfl ?_
  refine r_ico (x := (nI 8)) rfl rfl ?_
  refine r_cmpN (by omega) (by omega) rfl (fun h_1 => ?_) (fun h_1 => ?_)
  · replace h_1 : 8 ≤ k := h_1
    have h3 : k = 8 := by omega
    rw [h3]
    exact hE
  · replace h_1 := Nat.not_le.mp h_1
    refine r_ald rfl rfl ?_
    refine r_get rfl rfl ?_
    refine r_ild rfl rfl ?_
    refine r_ald rfl rfl ?_
    refine r_get rfl rfl ?_
    refine r_ild rfl rfl ?_
    refine r_ialdN (k0 := 22) rfl rfl (by omega) (by decide) ?_
    refine r_iastN (k0 := 21) (x' := ((rfil r 21 (r 22) k) 22 k)) rfl rfl (by omega) (by decide) rfl ?_
    refine r_inc (x' := (nI (k + 1))) (ls' := [some (zR (some q)), some (zI (nI (k + 1)))]) rfl rfl (nI_1 _) rfl ?_
    refine r_go rfl ?_
    rw [rfil_n (by decide), rfil_s]
    exact ih (by omega)
set_option maxHeartbeats 1000000 in
theorem c_lock {q : Nat} {qa : Nat → Nat} {d c n a v f : Nat} {b : Bool} {r : rA}   : rFun q qa (d + 2) 141 [zR (some q)] (c, n, a, b, v, f, r) (0, n, a, b, v, f, rfil r 21 (r 22) 8) (some (zI (nI (cntF (rfil r 21 (r 22) 8 21) 8)))) := by
  refine rFun.of (d := d + 1) (T := tb_141) (L := [some (zR (some q)), none]) (Nat.le_of_ble_eq_true rfl) rfl rfl ?_
  refine r_ald rfl rfl ?_
  refine r_ico (x := (nI 0)) rfl rfl ?_
  refine r_put (s' := (0, n, a, b, v, f, r)) rfl (Nat.le_of_ble_eq_true rfl) ⟨_, rfl⟩ rfl rfl ?_
  refine r_ico (x := (nI 0)) rfl rfl ?_
  refine r_ist (ls' := [some (zR (some q)), some (zI (nI 0))]) rfl (Nat.le_of_ble_eq_true rfl) rfl ?_
  refine rEv_rr (rfil_0 r 21 (r 22)) (l_lock (c := c) ?_ 0 (by omega))
  refine r_ald rfl rfl ?_
  refine r_call (as := [zR (some q)]) (r := []) (s' := (0, n, a, b, v, f, rfil r 21 (r 22) 8)) (v := some (zI (nI (cntF ((rfil r 21 (r 22) 8) 21) 8)))) rfl rfl rfl (Nat.le_of_ble_eq_true rfl) (Or.inr ⟨rfl, rfl, _, rfl⟩) c_pins ?_
  refine r_ret rfl ⟨_, rfl⟩ ?_
  exact ⟨rfl, rfl⟩
set_option maxHeartbeats 1000000 in
theorem l_unlock {q : Nat} {qa : Nat → Nat} {d c n a v f : Nat} {b : Bool} {r : rA} {Q : rS → (Option zV ⊕ Nat) → Prop} {m : Nat}  (hQ : Q (0, n, a, b, v, f, rfil r 21 (fun _ => -1) 8) (.inl (some (zI (nI m))))) : ∀ k, k ≤ 8 → rEv q qa (d + 1) tb_143 Q 12 [some (zR (some q)), some (zI (nI m)), some (zI (nI k))] [] (0, n, a, b, v, f, rfil r 21 (fun _ => -1) k) := by
  refine dn 8 (fun k hk ih => ?_)
  refine r_ild rfl rfl ?_
  refine r_ico (x := (nI 8)) rfl rfl ?_
  refine r_cmpN (by omega) (by omega) rfl (fun h_1 => ?_) (fun h_1 => ?_)
  · replace h_1 : 8 ≤ k := h_1
    refine r_ild rfl rfl ?_
    refine r_ret rfl ⟨_, rfl⟩ ?_
    have h3 : k = 8 := by omega
    rw [h3]
    exact hQ
  · replace h_1 := Nat.not_le.mp h_1
    refine r_ald rfl rfl ?_
    refine r_get rfl rfl ?_
    refine r_ild rfl rfl ?_
    refine r_ico (x := (-1)) rfl rfl ?_
    refine r_iastN (k0 := 21) (x' := (-1)) rfl rfl (by omega) (by decide) rfl ?_
    refine r_inc (x' := (nI (k + 1))) (ls' := [some (zR (some q)), some (zI (nI m)), some (zI (nI (k + 1)))]) rfl rfl (nI_1 _) rfl ?_
    refine r_go rfl ?_
    rw [rfil_s r 21 (fun _ => -1)]
    exact ih (by omega)
set_option maxHeartbeats 1000000 in
theorem c_unlock {q : Nat} {qa : Nat → Nat} {d c n a v f : Nat} {b : Bool} {r : rA}   : rFun q qa (d + 2) 143 [zR (some q)] (c, n, a, b, v, f, r) (0, n, a, b, v, f, rfil r 21 (fun _ => -1) 8) (some (zI (nI (cntF (r 21) 8)))) := by
  refine rFun.of (d := d + 1) (T := tb_143) (L := [some (zR (some q)), none, none]) (Nat.le_of_ble_eq_true rfl) rfl rfl ?_
  refine r_ald rfl rfl ?_
  refine r_ico (x := (nI 0)) rfl rfl ?_
  refine r_put (s' := (0, n, a, b, v, f, r)) rfl (Nat.le_of_ble_eq_true rfl) ⟨_, rfl⟩ rfl rfl ?_
  refine r_ald rfl rfl ?_
  refine r_call (as := [zR (some q)]) (r := []) (s' := (0, n, a, b, v, f, r)) (v := some (zI (nI (cntF (r 21) 8)))) rfl rfl rfl (Nat.le_of_ble_eq_true rfl) (Or.inr ⟨rfl, rfl, _, rfl⟩) c_pins ?_
  refine r_ist (ls' := [some (zR (some q)), some (zI (nI (cntF (r 21) 8))), none]) rfl (Nat.le_of_ble_eq_true rfl) rfl ?_
  refine r_ico (x := (nI 0)) rfl rfl ?_
  refine r_ist (ls' := [some (zR (some q)), some (zI (nI (cntF (r 21) 8))), some (zI (nI 0))]) rfl (Nat.le_of_ble_eq_true rfl) rfl ?_
  exact rEv_rr (rfil_0 r 21 (fun _ => -1)) (l_unlock (c := c) ⟨rfl, rfl⟩ 0 (by omega))
set_option maxHeartbeats 1000000 in
theorem c_chosen {q : Nat} {qa : Nat → Nat} {d c n a v f : Nat} {b : Bool} {r : rA} {p : Nat} (hp : p < 8) : rFun q qa (d + 2) 139 [zR (some q), zI (nI p)] (c, n, a, b, v, f, r) (0, n, a, b, v, f, r) (some (zI (r 22 p))) := by
  refine rFun.of (d := d + 1) (T := tb_139) (L := [some (zR (some q)), some (zI (nI p))]) (Nat.le_of_ble_eq_true rfl) rfl rfl ?_
  refine r_ald rfl rfl ?_
  refine r_ild rfl rfl ?_
  refine r_ico (x := (nI 0)) rfl rfl ?_
  refine r_ico (x := (nI 7)) rfl rfl ?_
  refine r_call (as := [zI (nI p), zI (nI 0), zI (nI 7)]) (r := [zR (some q)]) (s' := (c, n, a, b, v, f, r)) (v := some (zI (bI (true)))) rfl rfl rfl (Nat.le_of_ble_eq_true rfl) (Or.inl rfl) (c_inZ (isIn_n (by omega) (by decide))) ?_
  refine r_ifB0 rfl (fun h_1 => ?_) (fun h_1 => ?_)
  · cases h_1
  · refine r_ico (x := (nI 0)) rfl rfl ?_
    refine r_go rfl ?_
    refine r_put (s' := (0, n, a, b, v, f, r)) rfl (Nat.le_of_ble_eq_true rfl) ⟨_, rfl⟩ rfl rfl ?_
    refine r_ald rfl rfl ?_
    refine r_get rfl rfl ?_
    refine r_ifN (by omega) rfl (fun h_2 => ?_) (fun h_2 => ?_)
    · replace h_2 : 0 ≤ 0 := h_2
      refine r_ald rfl rfl ?_
      refine r_get rfl rfl ?_
      refine r_ild rfl rfl ?_
      refine r_ialdN (k0 := 22) rfl rfl (by omega) (by decide) ?_
      refine r_ret rfl ⟨_, rfl⟩ ?_
      exact ⟨rfl, rfl⟩
    · replace h_2 := Nat.not_le.mp h_2
      omega
set_option maxHeartbeats 1000000 in
theorem c_chosenX {q : Nat} {qa : Nat → Nat} {d c n a v f : Nat} {b : Bool} {r : rA} {x : Int32} (hx : isIn x (nI 0) (nI 7) = false) : rFun q qa (d + 2) 139 [zR (some q), zI (x)] (c, n, a, b, v, f, r) (1, n, a, b, v, f, r) (some (zI (nI 0))) := by
  refine rFun.of (d := d + 1) (T := tb_139) (L := [some (zR (some q)), some (zI (x))]) (Nat.le_of_ble_eq_true rfl) rfl rfl ?_
  refine r_ald rfl rfl ?_
  refine r_ild rfl rfl ?_
  refine r_ico (x := (nI 0)) rfl rfl ?_
  refine r_ico (x := (nI 7)) rfl rfl ?_
  refine r_call (as := [zI (x), zI (nI 0), zI (nI 7)]) (r := [zR (some q)]) (s' := (c, n, a, b, v, f, r)) (v := some (zI (bI (false)))) rfl rfl rfl (Nat.le_of_ble_eq_true rfl) (Or.inl rfl) (c_inZ hx) ?_
  refine r_ifB0 rfl (fun h_1 => ?_) (fun h_1 => ?_)
  · refine r_ico (x := (nI 1)) rfl rfl ?_
    refine r_put (s' := (1, n, a, b, v, f, r)) rfl (Nat.le_of_ble_eq_true rfl) ⟨_, rfl⟩ rfl rfl ?_
    refine r_ald rfl rfl ?_
    refine r_get rfl rfl ?_
    refine r_ifN (by omega) rfl (fun h_2 => ?_) (fun h_2 => ?_)
    · replace h_2 : 1 ≤ 0 := h_2
      omega
    · replace h_2 := Nat.not_le.mp h_2
      refine r_ico (x := (nI 0)) rfl rfl ?_
      refine r_go rfl ?_
      refine r_ret rfl ⟨_, rfl⟩ ?_
      exact ⟨rfl, rfl⟩
  · cases h_1
set_option maxHeartbeats 1000000 in
theorem c_pin {q : Nat} {qa : Nat → Nat} {d c n a v f : Nat} {b : Bool} {r : rA} {i pk : Nat} (hv : v ≤ 40) (hi : i < v) (hk : pk < 8) (hP : r 16 i = nI pk) : rFun q qa (d + 3) 142 [zR (some q), zI (nI i)] (c, n, a, b, v, f, r) (0, n, a, b, v, f, rset r 21 pk (nI i)) (some (zI (r 21 pk))) := by
  refine rFun.of (d := d + 2) (T := tb_142) (L := [some (zR (some q)), some (zI (nI i)), none]) (Nat.le_of_ble_eq_true rfl) rfl rfl ?_
  refine r_ald rfl rfl ?_
  refine r_ald rfl rfl ?_
  refine r_ild rfl rfl ?_
  refine r_call (as := [zR (some q), zI (nI i)]) (r := [zR (some q)]) (s' := (c, n, a, b, v, f, r)) (v := some (zI (bI (true)))) rfl rfl rfl (Nat.le_of_ble_eq_true rfl) (Or.inr ⟨rfl, rfl, _, rfl⟩) (c_isVersionZ (isIn_v hi (by omega))) ?_
  refine r_ifB0 rfl (fun h_1 => ?_) (fun h_1 => ?_)
  · cases h_1
  · refine r_ico (x := (nI 0)) rfl rfl ?_
    refine r_go rfl ?_
    refine r_put (s' := (0, n, a, b, v, f, r)) rfl (Nat.le_of_ble_eq_true rfl) ⟨_, rfl⟩ rfl rfl ?_
    refine r_ald rfl rfl ?_
    refine r_get rfl rfl ?_
    refine r_ifN (by omega) rfl (fun h_2 => ?_) (fun h_2 => ?_)
    · replace h_2 : 0 ≤ 0 := h_2
      refine r_ald rfl rfl ?_
      refine r_get rfl rfl ?_
      refine r_ald rfl rfl ?_
      refine r_get rfl rfl ?_
      refine r_ild rfl rfl ?_
      refine r_ialdN (k0 := 16) rfl rfl (by omega) (by decide) ?_
      refine r_top (y := (nI pk)) (by simp [rar, hP]) ?_
      refine r_ialdN (k0 := 21) rfl rfl (by omega) (by decide) ?_
      refine r_ist (ls' := [some (zR (some q)), some (zI (nI i)), some (zI (r 21 pk))]) rfl (Nat.le_of_ble_eq_true rfl) rfl ?_
      refine r_ald rfl rfl ?_
      refine r_get rfl rfl ?_
      refine r_ald rfl rfl ?_
      refine r_get rfl rfl ?_
      refine r_ild rfl rfl ?_
      refine r_ialdN (k0 := 16) rfl rfl (by omega) (by decide) ?_
      refine r_top (y := (nI pk)) (by simp [rar, hP]) ?_
      refine r_ild rfl rfl ?_
      refine r_iastN (k0 := 21) (x' := (nI i)) rfl rfl (by omega) (by decide) rfl ?_
      refine r_ild rfl rfl ?_
      refine r_ret rfl ⟨_, rfl⟩ ?_
      exact ⟨rfl, rfl⟩
    · replace h_2 := Nat.not_le.mp h_2
      omega
set_option maxHeartbeats 1000000 in
theorem c_pinX {q : Nat} {qa : Nat → Nat} {d c n a v f : Nat} {b : Bool} {r : rA} {x : Int32} (hx : isIn x (nI 0) (nI v - nI 1) = false) : rFun q qa (d + 3) 142 [zR (some q), zI (x)] (c, n, a, b, v, f, r) (1, n, a, b, v, f, r) (some (zI (nI 0))) := by
  refine rFun.of (d := d + 2) (T := tb_142) (L := [some (zR (some q)), some (zI (x)), none]) (Nat.le_of_ble_eq_true rfl) rfl rfl ?_
  refine r_ald rfl rfl ?_
  refine r_ald rfl rfl ?_
  refine r_ild rfl rfl ?_
  refine r_call (as := [zR (some q), zI (x)]) (r := [zR (some q)]) (s' := (c, n, a, b, v, f, r)) (v := some (zI (bI (false)))) rfl rfl rfl (Nat.le_of_ble_eq_true rfl) (Or.inr ⟨rfl, rfl, _, rfl⟩) (c_isVersionZ hx) ?_
  refine r_ifB0 rfl (fun h_1 => ?_) (fun h_1 => ?_)
  · refine r_ico (x := (nI 1)) rfl rfl ?_
    refine r_put (s' := (1, n, a, b, v, f, r)) rfl (Nat.le_of_ble_eq_true rfl) ⟨_, rfl⟩ rfl rfl ?_
    refine r_ald rfl rfl ?_
    refine r_get rfl rfl ?_
    refine r_ifN (by omega) rfl (fun h_2 => ?_) (fun h_2 => ?_)
    · replace h_2 : 1 ≤ 0 := h_2
      omega
    · replace h_2 := Nat.not_le.mp h_2
      refine r_ico (x := (nI 0)) rfl rfl ?_
      refine r_ret rfl ⟨_, rfl⟩ ?_
      exact ⟨rfl, rfl⟩
  · cases h_1
set_option maxHeartbeats 1000000 in
theorem c_compare {q : Nat} {qa : Nat → Nat} {d c n a v f : Nat} {b : Bool} {r : rA} {i j : Nat} (hv : v ≤ 40) (hi : i < v) (hj : j < v) (hI : rowOK r i) (hJ : rowOK r j) : rFun q qa (d + 5) 146 [zR (some q), zI (nI i), zI (nI j)] (c, n, a, b, v, f, r) (0, n, a, b, v, f, r) (some (zI (ordF r i (wsz r i) j (wsz r j)))) := by
  refine rFun.of (d := d + 4) (T := tb_146) (L := [some (zR (some q)), some (zI (nI i)), some (zI (nI j))]) (Nat.le_of_ble_eq_true rfl) rfl rfl ?_
  refine r_ald rfl rfl ?_
  refine r_ald rfl rfl ?_
  refine r_ild rfl rfl ?_
  refine r_call (as := [zR (some q), zI (nI i)]) (r := [zR (some q)]) (s' := (c, n, a, b, v, f, r)) (v := some (zI (bI (true)))) rfl rfl rfl (Nat.le_of_ble_eq_true rfl) (Or.inr ⟨rfl, rfl, _, rfl⟩) (c_isVersionZ (isIn_v (by omega) (by omega))) ?_
  refine r_ifB0 rfl (fun h_1 => ?_) (fun h_1 => ?_)
  · cases h_1
  · refine r_ald rfl rfl ?_
    refine r_ild rfl rfl ?_
    refine r_call (as := [zR (some q), zI (nI j)]) (r := [zR (some q)]) (s' := (c, n, a, b, v, f, r)) (v := some (zI (bI (true)))) rfl rfl rfl (Nat.le_of_ble_eq_true rfl) (Or.inr ⟨rfl, rfl, _, rfl⟩) (c_isVersionZ (isIn_v (by omega) (by omega))) ?_
    refine r_ifB0 rfl (fun h_2 => ?_) (fun h_2 => ?_)
    · cases h_2
    · refine r_ico (x := (nI 0)) rfl rfl ?_
      refine r_go rfl ?_
      refine r_put (s' := (0, n, a, b, v, f, r)) rfl (Nat.le_of_ble_eq_true rfl) ⟨_, rfl⟩ rfl rfl ?_
      refine r_ald rfl rfl ?_
      refine r_get rfl rfl ?_
      refine r_ifN (by omega) rfl (fun h_3 => ?_) (fun h_3 => ?_)
      · replace h_3 : 0 ≤ 0 := h_3
        refine r_ald rfl rfl ?_
        refine r_ild rfl rfl ?_
        refine r_ild rfl rfl ?_
        refine r_call (as := [zR (some q), zI (nI i), zI (nI j)]) (r := []) (s' := (0, n, a, b, v, f, r)) (v := some (zI (ordF r i (wsz r i) j (wsz r j)))) rfl rfl rfl (Nat.le_of_ble_eq_true rfl) (Or.inr ⟨rfl, rfl, _, rfl⟩) (c_order (by omega) (by omega) hI.1.2 hJ.1.2 hI.1.1 hJ.1.1) ?_
        refine r_ret rfl ⟨_, rfl⟩ ?_
        exact ⟨rfl, rfl⟩
      · replace h_3 := Nat.not_le.mp h_3
        omega
set_option maxHeartbeats 1000000 in
theorem c_compareX {q : Nat} {qa : Nat → Nat} {d c n a v f : Nat} {b : Bool} {r : rA} {x y : Int32} (hx : (isIn x (nI 0) (nI v - nI 1) && isIn y (nI 0) (nI v - nI 1)) = false) : rFun q qa (d + 3) 146 [zR (some q), zI (x), zI (y)] (c, n, a, b, v, f, r) (1, n, a, b, v, f, r) (some (zI (nI 0))) := by
  refine rFun.of (d := d + 2) (T := tb_146) (L := [some (zR (some q)), some (zI (x)), some (zI (y))]) (Nat.le_of_ble_eq_true rfl) rfl rfl ?_
  refine r_ald rfl rfl ?_
  refine r_ald rfl rfl ?_
  refine r_ild rfl rfl ?_
  refine r_call (as := [zR (some q), zI (x)]) (r := [zR (some q)]) (s' := (c, n, a, b, v, f, r)) (v := some (zI (bI (isIn (x) (nI 0) (nI v - nI 1))))) rfl rfl rfl (Nat.le_of_ble_eq_true rfl) (Or.inr ⟨rfl, rfl, _, rfl⟩) (c_isVersionZ rfl) ?_
  refine r_ifB0 rfl (fun h_1 => ?_) (fun h_1 => ?_)
  · refine r_ico (x := (nI 1)) rfl rfl ?_
    refine r_put (s' := (1, n, a, b, v, f, r)) rfl (Nat.le_of_ble_eq_true rfl) ⟨_, rfl⟩ rfl rfl ?_
    refine r_ald rfl rfl ?_
    refine r_get rfl rfl ?_
    refine r_ifN (by omega) rfl (fun h_2 => ?_) (fun h_2 => ?_)
    · replace h_2 : 1 ≤ 0 := h_2
      omega
    · replace h_2 := Nat.not_le.mp h_2
      refine r_ico (x := (nI 0)) rfl rfl ?_
      refine r_go rfl ?_
      refine r_ret rfl ⟨_, rfl⟩ ?_
      exact ⟨rfl, rfl⟩
  · refine r_ald rfl rfl ?_
    refine r_ild rfl rfl ?_
    refine r_call (as := [zR (some q), zI (y)]) (r := [zR (some q)]) (s' := (c, n, a, b, v, f, r)) (v := some (zI (bI (isIn (y) (nI 0) (nI v - nI 1))))) rfl rfl rfl (Nat.le_of_ble_eq_true rfl) (Or.inr ⟨rfl, rfl, _, rfl⟩) (c_isVersionZ rfl) ?_
    refine r_ifB0 rfl (fun h_3 => ?_) (fun h_3 => ?_)
    · refine r_ico (x := (nI 1)) rfl rfl ?_
      refine r_put (s' := (1, n, a, b, v, f, r)) rfl (Nat.le_of_ble_eq_true rfl) ⟨_, rfl⟩ rfl rfl ?_
      refine r_ald rfl rfl ?_
      refine r_get rfl rfl ?_
      refine r_ifN (by omega) rfl (fun h_4 => ?_) (fun h_4 => ?_)
      · replace h_4 : 1 ≤ 0 := h_4
        omega
      · replace h_4 := Nat.not_le.mp h_4
        refine r_ico (x := (nI 0)) rfl rfl ?_
        refine r_go rfl ?_
        refine r_ret rfl ⟨_, rfl⟩ ?_
        exact ⟨rfl, rfl⟩
    · rw [h_1, h_3] at hx
      cases hx
set_option maxHeartbeats 1000000 in
theorem c_needs {q : Nat} {qa : Nat → Nat} {d c n a v f : Nat} {b : Bool} {r : rA} {i j m : Nat} (hv : v ≤ 40) (hi : i < v) (hm : m ≤ 5) (hj : j < m) (hM : r 14 i = nI m) : rFun q qa (d + 3) 147 [zR (some q), zI (nI i), zI (nI j)] (c, n, a, b, v, f, r) (0, n, a, b, v, f, r) (some (zI (r 13 (5 * i + j)))) := by
  refine rFun.of (d := d + 2) (T := tb_147) (L := [some (zR (some q)), some (zI (nI i)), some (zI (nI j))]) (Nat.le_of_ble_eq_true rfl) rfl rfl ?_
  refine r_ald rfl rfl ?_
  refine r_ald rfl rfl ?_
  refine r_ild rfl rfl ?_
  refine r_call (as := [zR (some q), zI (nI i)]) (r := [zR (some q)]) (s' := (c, n, a, b, v, f, r)) (v := some (zI (bI (true)))) rfl rfl rfl (Nat.le_of_ble_eq_true rfl) (Or.inr ⟨rfl, rfl, _, rfl⟩) (c_isVersionZ (isIn_v hi (by omega))) ?_
  refine r_ifB0 rfl (fun h_1 => ?_) (fun h_1 => ?_)
  · cases h_1
  · refine r_ico (x := (nI 0)) rfl rfl ?_
    refine r_go rfl ?_
    refine r_put (s' := (0, n, a, b, v, f, r)) rfl (Nat.le_of_ble_eq_true rfl) ⟨_, rfl⟩ rfl rfl ?_
    refine r_ald rfl rfl ?_
    refine r_get rfl rfl ?_
    refine r_ifN (by omega) rfl (fun h_2 => ?_) (fun h_2 => ?_)
    · replace h_2 : 0 ≤ 0 := h_2
      refine r_ild rfl rfl ?_
      refine r_ico (x := (nI 0)) rfl rfl ?_
      refine r_ald rfl rfl ?_
      refine r_get rfl rfl ?_
      refine r_ild rfl rfl ?_
      refine r_ialdN (k0 := 14) rfl rfl (by omega) (by decide) ?_
      refine r_top (y := (nI m)) (by simp [rar, hM]) ?_
      refine r_ico (x := (nI 1)) rfl rfl ?_
      refine r_ibi (v := ((nI m) - (nI 1))) rfl rfl ?_
      refine r_call (as := [zI (nI j), zI (nI 0), zI ((nI m) - (nI 1))]) (r := []) (s' := (0, n, a, b, v, f, r)) (v := some (zI (bI (true)))) rfl rfl rfl (Nat.le_of_ble_eq_true rfl) (Or.inl rfl) (c_inZ (isIn_v hj (by omega))) ?_
      refine r_ifB0 rfl (fun h_3 => ?_) (fun h_3 => ?_)
      · cases h_3
      · refine r_ald rfl rfl ?_
        refine r_get rfl rfl ?_
        refine r_ico (x := (nI 5)) rfl rfl ?_
        refine r_ild rfl rfl ?_
        refine r_ibi (v := (nI (5 * i))) rfl (pk_mul _ _) ?_
        refine r_ild rfl rfl ?_
        refine r_ibi (v := (nI (5 * i + j))) rfl (nI_add _ _) ?_
        refine r_ialdN (k0 := 13) rfl rfl (by omega) (by decide) ?_
        refine r_go rfl ?_
        refine r_ret rfl ⟨_, rfl⟩ ?_
        exact ⟨rfl, rfl⟩
    · replace h_2 := Nat.not_le.mp h_2
      omega
set_option maxHeartbeats 1000000 in
theorem c_needsN {q : Nat} {qa : Nat → Nat} {d c n a v f : Nat} {b : Bool} {r : rA} {i m : Nat} {x : Int32} (hv : v ≤ 40) (hi : i < v) (hM : r 14 i = nI m) (hx : isIn x (nI 0) (nI m - nI 1) = false) : rFun q qa (d + 3) 147 [zR (some q), zI (nI i), zI (x)] (c, n, a, b, v, f, r) (0, n, a, b, v, f, r) (some (zI (-1))) := by
  refine rFun.of (d := d + 2) (T := tb_147) (L := [some (zR (some q)), some (zI (nI i)), some (zI (x))]) (Nat.le_of_ble_eq_true rfl) rfl rfl ?_
  refine r_ald rfl rfl ?_
  refine r_ald rfl rfl ?_
  refine r_ild rfl rfl ?_
  refine r_call (as := [zR (some q), zI (nI i)]) (r := [zR (some q)]) (s' := (c, n, a, b, v, f, r)) (v := some (zI (bI (true)))) rfl rfl rfl (Nat.le_of_ble_eq_true rfl) (Or.inr ⟨rfl, rfl, _, rfl⟩) (c_isVersionZ (isIn_v hi (by omega))) ?_
  refine r_ifB0 rfl (fun h_1 => ?_) (fun h_1 => ?_)
  · cases h_1
  · refine r_ico (x := (nI 0)) rfl rfl ?_
    refine r_go rfl ?_
    refine r_put (s' := (0, n, a, b, v, f, r)) rfl (Nat.le_of_ble_eq_true rfl) ⟨_, rfl⟩ rfl rfl ?_
    refine r_ald rfl rfl ?_
    refine r_get rfl rfl ?_
    refine r_ifN (by omega) rfl (fun h_2 => ?_) (fun h_2 => ?_)
    · replace h_2 : 0 ≤ 0 := h_2
      refine r_ild rfl rfl ?_
      refine r_ico (x := (nI 0)) rfl rfl ?_
      refine r_ald rfl rfl ?_
      refine r_get rfl rfl ?_
      refine r_ild rfl rfl ?_
      refine r_ialdN (k0 := 14) rfl rfl (by omega) (by decide) ?_
      refine r_top (y := (nI m)) (by simp [rar, hM]) ?_
      refine r_ico (x := (nI 1)) rfl rfl ?_
      refine r_ibi (v := ((nI m) - (nI 1))) rfl rfl ?_
      refine r_call (as := [zI (x), zI (nI 0), zI ((nI m) - (nI 1))]) (r := []) (s' := (0, n, a, b, v, f, r)) (v := some (zI (bI (false)))) rfl rfl rfl (Nat.le_of_ble_eq_true rfl) (Or.inl rfl) (c_inZ hx) ?_
      refine r_ifB0 rfl (fun h_3 => ?_) (fun h_3 => ?_)
      · refine r_ico (x := (-1)) rfl rfl ?_
        refine r_ret rfl ⟨_, rfl⟩ ?_
        exact ⟨rfl, rfl⟩
      · cases h_3
    · replace h_2 := Nat.not_le.mp h_2
      omega
set_option maxHeartbeats 1000000 in
theorem c_needsX {q : Nat} {qa : Nat → Nat} {d c n a v f : Nat} {b : Bool} {r : rA} {x y : Int32} (hx : isIn x (nI 0) (nI v - nI 1) = false) : rFun q qa (d + 3) 147 [zR (some q), zI (x), zI (y)] (c, n, a, b, v, f, r) (1, n, a, b, v, f, r) (some (zI (nI 0))) := by
  refine rFun.of (d := d + 2) (T := tb_147) (L := [some (zR (some q)), some (zI (x)), some (zI (y))]) (Nat.le_of_ble_eq_true rfl) rfl rfl ?_
  refine r_ald rfl rfl ?_
  refine r_ald rfl rfl ?_
  refine r_ild rfl rfl ?_
  refine r_call (as := [zR (some q), zI (x)]) (r := [zR (some q)]) (s' := (c, n, a, b, v, f, r)) (v := some (zI (bI (false)))) rfl rfl rfl (Nat.le_of_ble_eq_true rfl) (Or.inr ⟨rfl, rfl, _, rfl⟩) (c_isVersionZ hx) ?_
  refine r_ifB0 rfl (fun h_1 => ?_) (fun h_1 => ?_)
  · refine r_ico (x := (nI 1)) rfl rfl ?_
    refine r_put (s' := (1, n, a, b, v, f, r)) rfl (Nat.le_of_ble_eq_true rfl) ⟨_, rfl⟩ rfl rfl ?_
    refine r_ald rfl rfl ?_
    refine r_get rfl rfl ?_
    refine r_ifN (by omega) rfl (fun h_2 => ?_) (fun h_2 => ?_)
    · replace h_2 : 1 ≤ 0 := h_2
      omega
    · replace h_2 := Nat.not_le.mp h_2
      refine r_ico (x := (nI 0)) rfl rfl ?_
      refine r_go rfl ?_
      refine r_ret rfl ⟨_, rfl⟩ ?_
      exact ⟨rfl, rfl⟩
  · cases h_1
set_option maxHeartbeats 1000000 in
theorem c_fileByte {q : Nat} {qa : Nat → Nat} {d c n a v f : Nat} {b : Bool} {r : rA} {i : Nat} (hf : f ≤ 250) (hi : i < f) : rFun q qa (d + 2) 151 [zR (some q), zI (nI i)] (c, n, a, b, v, f, r) (0, n, a, b, v, f, r) (some (zI (r 24 i))) := by
  refine rFun.of (d := d + 1) (T := tb_151) (L := [some (zR (some q)), some (zI (nI i))]) (Nat.le_of_ble_eq_true rfl) rfl rfl ?_
  refine r_ald rfl rfl ?_
  refine r_ild rfl rfl ?_
  refine r_ico (x := (nI 0)) rfl rfl ?_
  refine r_ald rfl rfl ?_
  refine r_get rfl rfl ?_
  refine r_ico (x := (nI 1)) rfl rfl ?_
  refine r_ibi (v := ((nI f) - (nI 1))) rfl rfl ?_
  refine r_call (as := [zI (nI i), zI (nI 0), zI ((nI f) - (nI 1))]) (r := [zR (some q)]) (s' := (c, n, a, b, v, f, r)) (v := some (zI (bI (true)))) rfl rfl rfl (Nat.le_of_ble_eq_true rfl) (Or.inl rfl) (c_inZ (isIn_v hi (by omega))) ?_
  refine r_ifB0 rfl (fun h_1 => ?_) (fun h_1 => ?_)
  · cases h_1
  · refine r_ico (x := (nI 0)) rfl rfl ?_
    refine r_go rfl ?_
    refine r_put (s' := (0, n, a, b, v, f, r)) rfl (Nat.le_of_ble_eq_true rfl) ⟨_, rfl⟩ rfl rfl ?_
    refine r_ald rfl rfl ?_
    refine r_get rfl rfl ?_
    refine r_ifN (by omega) rfl (fun h_2 => ?_) (fun h_2 => ?_)
    · replace h_2 : 0 ≤ 0 := h_2
      refine r_ald rfl rfl ?_
      refine r_get rfl rfl ?_
      refine r_ild rfl rfl ?_
      refine r_ialdN (k0 := 24) rfl rfl (by omega) (by decide) ?_
      refine r_ret rfl ⟨_, rfl⟩ ?_
      exact ⟨rfl, rfl⟩
    · replace h_2 := Nat.not_le.mp h_2
      omega
set_option maxHeartbeats 1000000 in
theorem c_fileByteX {q : Nat} {qa : Nat → Nat} {d c n a v f : Nat} {b : Bool} {r : rA} {x : Int32} (hx : isIn x (nI 0) (nI f - nI 1) = false) : rFun q qa (d + 2) 151 [zR (some q), zI (x)] (c, n, a, b, v, f, r) (1, n, a, b, v, f, r) (some (zI (nI 0))) := by
  refine rFun.of (d := d + 1) (T := tb_151) (L := [some (zR (some q)), some (zI (x))]) (Nat.le_of_ble_eq_true rfl) rfl rfl ?_
  refine r_ald rfl rfl ?_
  refine r_ild rfl rfl ?_
  refine r_ico (x := (nI 0)) rfl rfl ?_
  refine r_ald rfl rfl ?_
  refine r_get rfl rfl ?_
  refine r_ico (x := (nI 1)) rfl rfl ?_
  refine r_ibi (v := ((nI f) - (nI 1))) rfl rfl ?_
  refine r_call (as := [zI (x), zI (nI 0), zI ((nI f) - (nI 1))]) (r := [zR (some q)]) (s' := (c, n, a, b, v, f, r)) (v := some (zI (bI (false)))) rfl rfl rfl (Nat.le_of_ble_eq_true rfl) (Or.inl rfl) (c_inZ hx) ?_
  refine r_ifB0 rfl (fun h_1 => ?_) (fun h_1 => ?_)
  · refine r_ico (x := (nI 1)) rfl rfl ?_
    refine r_put (s' := (1, n, a, b, v, f, r)) rfl (Nat.le_of_ble_eq_true rfl) ⟨_, rfl⟩ rfl rfl ?_
    refine r_ald rfl rfl ?_
    refine r_get rfl rfl ?_
    refine r_ifN (by omega) rfl (fun h_2 => ?_) (fun h_2 => ?_)
    · replace h_2 : 1 ≤ 0 := h_2
      omega
    · replace h_2 := Nat.not_le.mp h_2
      refine r_ico (x := (nI 0)) rfl rfl ?_
      refine r_go rfl ?_
      refine r_ret rfl ⟨_, rfl⟩ ?_
      exact ⟨rfl, rfl⟩
  · cases h_1
