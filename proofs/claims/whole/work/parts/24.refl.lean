def noPt (x : Int32) : Bool := !decide (x = nI 46)
/-- the words of a row -/
def rw9 (r : rA) (row : Nat) : Nat → Int32 := fun i => r 9 (24 * row + i)
theorem alld_s {t : Nat → Int32} : ∀ (k a : Nat), alld t (k + 1) a = (alld t k a && isDg (t (a + k)))
  | 0, a => by simp [alld]
  | k + 1, a => by
    rw [alld, alld_s k (a + 1), alld, Bool.and_assoc, show a + 1 + k = a + (k + 1) by omega]
/-- two words of la and lb bytes, from their k-th bytes on: by the first that differs, else by their lengths -/
def bcF (x y : Nat → Int32) (la lb : Nat) : Nat → Nat → Int32
  | 0, _ => nI 0
  | j + 1, k => if k < la ∧ k < lb then (if x k = y k then bcF x y la lb j (k + 1) else if y k ≤ x k then nI 1 else -1) else if la = lb then nI 0 else if lb ≤ la then nI 1 else -1
/-- two words by precedence -/
def cwF (x y : Nat → Int32) (la lb : Nat) : Int32 :=
  if alld x la 0 = alld y lb 0 then (if alld x la 0 = true ∧ ¬ la = lb then (if lb ≤ la then nI 1 else -1) else bcF x y la lb (la + 1) 0) else if alld x la 0 = true then -1 else nI 1
theorem alld_sh {t : Nat → Int32} : ∀ (k a : Nat), alld t k a = alld (fun i => t (a + i)) k 0 := by
  have h : ∀ (k a b : Nat) (u : Nat → Int32), (∀ i, i < k → u (b + i) = t (a + i)) → alld t k a = alld u k b := by
    intro k
    induction k with
    | zero => intros; rfl
    | succ k ih =>
      intro a b u hu
      rw [alld, alld, ih (a + 1) (b + 1) u (fun i hi => by rw [show b + 1 + i = b + (i + 1) by omega, show a + 1 + i = a + (i + 1) by omega]; exact hu (i + 1) (by omega))]
      have := hu 0 (by omega)
      simp at this
      rw [this]
  intro k a
  exact h k a 0 _ (fun i _ => by simp)
set_option maxHeartbeats 1000000 in
theorem l_we {q : Nat} {qa : Nat → Nat} {d c n a v f row p m : Nat} {b : Bool} {r : rA} {Q : rS → (Option zV ⊕ Nat) → Prop} (hrow : row < 900) (hm : m ≤ 24) (hS : r 8 row = nI m) : ∀ (j k : Nat), m ≤ k + j → k < 1000 → Q (c, n, a, b, v, f, r) (.inl (some (zI (nI (spn noPt (rw9 r row) m k))))) → rEv q qa d tb_114 Q 2 [some (zR (some q)), some (zI (nI row)), some (zI (nI p)), some (zI (nI k))] [] (c, n, a, b, v, f, r) := by
  intro j
  induction j with
  | zero =>
    intro k h1 h2 hQ
    rw [spn_end (by omega)] at hQ
    refine r_ild rfl rfl ?_
    refine r_ald rfl rfl ?_
    refine r_get rfl rfl ?_
    refine r_ild rfl rfl ?_
    refine r_ialdN (k0 := 8) rfl rfl (by omega) (by decide) ?_
    refine r_top (y := (nI m)) hS ?_
    refine r_cmpN (by omega) (by omega) rfl (fun h_1 => ?_) (fun h_1 => ?_)
    · replace h_1 : m ≤ k := h_1
      refine r_ild rfl rfl ?_
      refine r_ret rfl ⟨_, rfl⟩ ?_
      exact hQ
    · replace h_1 := Nat.not_le.mp h_1
      omega
  | succ j ih =>
    intro k h1 h2 hQ
    refine r_ild rfl rfl ?_
    refine r_ald rfl rfl ?_
    refine r_get rfl rfl ?_
    refine r_ild rfl rfl ?_
    refine r_ialdN (k0 := 8) rfl rfl (by omega) (by decide) ?_
    refine r_top (y := (nI m)) hS ?_
    refine r_cmpN (by omega) (by omega) rfl (fun h_1 => ?_) (fun h_1 => ?_)
    · replace h_1 : m ≤ k := h_1
      refine r_ild rfl rfl ?_
      refine r_ret rfl ⟨_, rfl⟩ ?_
      rw [spn_end h_1] at hQ
      exact hQ
    · replace h_1 := Nat.not_le.mp h_1
      refine r_ald rfl rfl ?_
      refine r_get rfl rfl ?_
      refine r_ico (x := (nI 24)) rfl rfl ?_
      refine r_ild rfl rfl ?_
      refine r_ibi (v := (nI (24 * row))) rfl (pk_mul _ _) ?_
      refine r_ild rfl rfl ?_
      refine r_ibi (v := (nI (24 * row + k))) rfl (nI_add _ _) ?_
      refine r_ialdN (k0 := 9) rfl rfl (by omega) (by decide) ?_
      refine r_ico (x := (nI 46)) rfl rfl ?_
      refine r_cmp rfl (fun h_2 => ?_) (fun h_2 => ?_)
      · replace h_2 : (r 9 (24 * row + k)) = (nI 46) := h_2
        refine r_ild rfl rfl ?_
        refine r_ret rfl ⟨_, rfl⟩ ?_
        rw [spn_no (by simp [noPt, rw9, h_2])] at hQ
        exact hQ
      · replace h_2 : ¬ ((r 9 (24 * row + k)) = (nI 46)) := h_2
        refine r_inc (x' := (nI (k + 1))) (ls' := [some (zR (some q)), some (zI (nI row)), some (zI (nI p)), some (zI (nI (k + 1)))]) rfl rfl (nI_1 _) rfl ?_
        refine r_go rfl ?_
        rw [spn_yes h_1 (by simp [noPt, rw9, h_2])] at hQ
        exact ih (k + 1) (by omega) (by omega) hQ
set_option maxHeartbeats 1000000 in
theorem c_wordEnd {q : Nat} {qa : Nat → Nat} {d c n a v f : Nat} {b : Bool} {r : rA} {row p m : Nat} (hrow : row < 900) (hm : m ≤ 24) (hS : r 8 row = nI m) (hp : p < 1000) : rFun q qa (d + 1) 114 [zR (some q), zI (nI row), zI (nI p)] (c, n, a, b, v, f, r) (c, n, a, b, v, f, r) (some (zI (nI (spn noPt (rw9 r row) m p)))) := by
  refine rFun.of (T := tb_114) (L := [some (zR (some q)), some (zI (nI row)), some (zI (nI p)), none]) (Nat.le_of_ble_eq_true rfl) rfl rfl ?_
  refine r_ild rfl rfl ?_
  refine r_ist (ls' := [some (zR (some q)), some (zI (nI row)), some (zI (nI p)), some (zI (nI p))]) rfl (Nat.le_of_ble_eq_true rfl) rfl ?_
  exact l_we hrow hm hS m p (by omega) hp ⟨rfl, rfl⟩
set_option maxHeartbeats 1000000 in
theorem l_nw {q : Nat} {qa : Nat → Nat} {d c n a v f row p e : Nat} {b : Bool} {r : rA} {Q : rS → (Option zV ⊕ Nat) → Prop} (hrow : row < 900) (he : e ≤ 24) (hQ : Q (c, n, a, b, v, f, r) (.inl (some (zI (bI (alld (rw9 r row) (e - p) p)))))) : ∀ (j k : Nat) (g : Bool), e ≤ k + j → p ≤ k → k < 1000 → (k ≤ e ∨ k = p) → g = alld (rw9 r row) (k - p) p → rEv q qa (d + 1) tb_115 Q 6 [some (zR (some q)), some (zI (nI row)), some (zI (nI p)), some (zI (nI e)), some (zI (bI (g))), some (zI (nI k))] [] (c, n, a, b, v, f, r) := by
  intro j
  induction j with
  | zero =>
    intro k g h1 h2 h3 h4 hg
    rw [show e - p = k - p by omega, ← hg] at hQ
    refine r_ild rfl rfl ?_
    refine r_ild rfl rfl ?_
    refine r_cmpN (by omega) (by omega) rfl (fun h_1 => ?_) (fun h_1 => ?_)
    · replace h_1 : e ≤ k := h_1
      refine r_ild rfl rfl ?_
      refine r_ret rfl ⟨_, rfl, bI_01 _⟩ ?_
      exact hQ
    · replace h_1 := Nat.not_le.mp h_1
      omega
  | succ j ih =>
    intro k g h1 h2 h3 h4 hg
    refine r_ild rfl rfl ?_
    refine r_ild rfl rfl ?_
    refine r_cmpN (by omega) (by omega) rfl (fun h_1 => ?_) (fun h_1 => ?_)
    · replace h_1 : e ≤ k := h_1
      refine r_ild rfl rfl ?_
      refine r_ret rfl ⟨_, rfl, bI_01 _⟩ ?_
      rw [show e - p = k - p by omega, ← hg] at hQ
      exact hQ
    · replace h_1 := Nat.not_le.mp h_1
      refine r_ild rfl rfl ?_
      refine r_ifB0 rfl (fun h_2 => ?_) (fun h_2 => ?_)
      · refine r_ico (x := (nI 0)) rfl rfl ?_
        refine r_ist (ls' := [some (zR (some q)), some (zI (nI row)), some (zI (nI p)), some (zI (nI e)), some (zI (nI 0)), some (zI (nI k))]) rfl (Nat.le_of_ble_eq_true rfl) rfl ?_
        refine r_inc (x' := (nI (k + 1))) (ls' := [some (zR (some q)), some (zI (nI row)), some (zI (nI p)), some (zI (nI e)), some (zI (nI 0)), some (zI (nI (k + 1)))]) rfl rfl (nI_1 _) rfl ?_
        refine r_go rfl ?_
        refine ih (k + 1) false (by omega) (by omega) (by omega) (by omega) ?_
        rw [show k + 1 - p = (k - p) + 1 by omega, alld_s, show p + (k - p) = k by omega]
        rw [← hg, h_2]; rfl
      · refine r_ald rfl rfl ?_
        refine r_get rfl rfl ?_
        refine r_ico (x := (nI 24)) rfl rfl ?_
        refine r_ild rfl rfl ?_
        refine r_ibi (v := (nI (24 * row))) rfl (pk_mul _ _) ?_
        refine r_ild rfl rfl ?_
        refine r_ibi (v := (nI (24 * row + k))) rfl (nI_add _ _) ?_
        refine r_ialdN (k0 := 9) rfl rfl (by omega) (by decide) ?_
        refine r_call (as := [zI (r 9 (24 * row + k))]) (r := []) (s' := (c, n, a, b, v, f, r)) (v := some (zI (bI (isDg (r 9 (24 * row + k)))))) rfl rfl rfl (Nat.le_of_ble_eq_true rfl) (Or.inl rfl) c_isDigit ?_
        refine r_ifB0 rfl (fun h_3 => ?_) (fun h_3 => ?_)
        · refine r_ico (x := (nI 0)) rfl rfl ?_
          refine r_ist (ls' := [some (zR (some q)), some (zI (nI row)), some (zI (nI p)), some (zI (nI e)), some (zI (nI 0)), some (zI (nI k))]) rfl (Nat.le_of_ble_eq_true rfl) rfl ?_
          refine r_inc (x' := (nI (k + 1))) (ls' := [some (zR (some q)), some (zI (nI row)), some (zI (nI p)), some (zI (nI e)), some (zI (nI 0)), some (zI (nI (k + 1)))]) rfl rfl (nI_1 _) rfl ?_
          refine r_go rfl ?_
          refine ih (k + 1) false (by omega) (by omega) (by omega) (by omega) ?_
          rw [show k + 1 - p = (k - p) + 1 by omega, alld_s, show p + (k - p) = k by omega]
          rw [← hg, h_2]; exact (h_3).symm
        · refine r_ico (x := (nI 1)) rfl rfl ?_
          refine r_go rfl ?_
          refine r_ist (ls' := [some (zR (some q)), some (zI (nI row)), some (zI (nI p)), some (zI (nI e)), some (zI (nI 1)), some (zI (nI k))]) rfl (Nat.le_of_ble_eq_true rfl) rfl ?_
          refine r_inc (x' := (nI (k + 1))) (ls' := [some (zR (some q)), some (zI (nI row)), some (zI (nI p)), some (zI (nI e)), some (zI (nI 1)), some (zI (nI (k + 1)))]) rfl rfl (nI_1 _) rfl ?_
          refine r_go rfl ?_
          refine ih (k + 1) true (by omega) (by omega) (by omega) (by omega) ?_
          rw [show k + 1 - p = (k - p) + 1 by omega, alld_s, show p + (k - p) = k by omega]
          rw [← hg, h_2]; exact (h_3).symm
set_option maxHeartbeats 1000000 in
theorem c_isNumberWord {q : Nat} {qa : Nat → Nat} {d c n a v f : Nat} {b : Bool} {r : rA} {row p e : Nat} (hrow : row < 900) (he : e ≤ 24) (hp : p < 1000) : rFun q qa (d + 2) 115 [zR (some q), zI (nI row), zI (nI p), zI (nI e)] (c, n, a, b, v, f, r) (c, n, a, b, v, f, r) (some (zI (bI (alld (rw9 r row) (e - p) p)))) := by
  refine rFun.of (d := d + 1) (T := tb_115) (L := [some (zR (some q)), some (zI (nI row)), some (zI (nI p)), some (zI (nI e)), none, none]) (Nat.le_of_ble_eq_true rfl) rfl rfl ?_
  refine r_ico (x := (nI 1)) rfl rfl ?_
  refine r_ist (ls' := [some (zR (some q)), some (zI (nI row)), some (zI (nI p)), some (zI (nI e)), some (zI (nI 1)), none]) rfl (Nat.le_of_ble_eq_true rfl) rfl ?_
  refine r_ild rfl rfl ?_
  refine r_ist (ls' := [some (zR (some q)), some (zI (nI row)), some (zI (nI p)), some (zI (nI e)), some (zI (nI 1)), some (zI (nI p))]) rfl (Nat.le_of_ble_eq_true rfl) rfl ?_
  exact l_nw hrow he ⟨rfl, rfl⟩ e p true (by omega) (by omega) (by omega) (by omega) (by simp [alld])
