theorem bI_inj {x y : Bool} : bI x = bI y ↔ x = y := by cases x <;> cases y <;> simp [bI] <;> decide
set_option maxHeartbeats 1000000 in
theorem l_cw {q : Nat} {qa : Nat → Nat} {d c n a v f ra rb p s e t : Nat} {f1 f2 b : Bool} {r : rA} {Q : rS → (Option zV ⊕ Nat) → Prop} (hra : ra < 900) (hrb : rb < 900) (hp : p ≤ e) (hs : s ≤ t) (he : e ≤ 24) (ht : t ≤ 24) : ∀ (j k : Nat) (x10 x11 : Option zV), e - p < k + j → k ≤ e - p → k ≤ 24 → Q (c, n, a, b, v, f, r) (.inl (some (zI (bcF (fun j => rw9 r ra (p + j)) (fun j => rw9 r rb (s + j)) (e - p) (t - s) j k)))) → rEv q qa (d + 2) tb_116 Q 94 [some (zR (some q)), some (zI (nI ra)), some (zI (nI p)), some (zI (nI rb)), some (zI (nI s)), some (zI (nI e)), some (zI (nI t)), some (zI (bI (f1))), some (zI (bI (f2))), some (zI (nI k)), x10, x11] [] (c, n, a, b, v, f, r) := by
  intro j
  induction j with
  | zero =>
    intro k x10 x11 h1 h1b h2 hQ
    omega
  | succ j ih =>
    intro k x10 x11 h1 h1b h2 hQ
    rw [bcF] at hQ
    refine r_ild rfl rfl ?_
    refine r_ild rfl rfl ?_
    refine r_ibi (v := (nI (p + k))) rfl (nI_add _ _) ?_
    refine r_ild rfl rfl ?_
    refine r_cmpN (by omega) (by omega) rfl (fun h_1 => ?_) (fun h_1 => ?_)
    · replace h_1 : e ≤ p + k := h_1
      rw [if_neg (by omega)] at hQ
      refine r_ild rfl rfl ?_
      refine r_ild rfl rfl ?_
      refine r_ibi (v := (nI (e - p))) rfl (pk_sub (by omega)) ?_
      refine r_ild rfl rfl ?_
      refine r_ild rfl rfl ?_
      refine r_ibi (v := (nI (t - s))) rfl (pk_sub (by omega)) ?_
      refine r_cmpN (by omega) (by omega) rfl (fun h_2 => ?_) (fun h_2 => ?_)
      · replace h_2 : ¬ e - p = t - s := h_2
        refine r_ild rfl rfl ?_
        refine r_ild rfl rfl ?_
        refine r_ibi (v := (nI (e - p))) rfl (pk_sub (by omega)) ?_
        refine r_ild rfl rfl ?_
        refine r_ild rfl rfl ?_
        refine r_ibi (v := (nI (t - s))) rfl (pk_sub (by omega)) ?_
        refine r_cmpN (by omega) (by omega) rfl (fun h_3 => ?_) (fun h_3 => ?_)
        · replace h_3 : t - s ≤ e - p := h_3
          refine r_ico (x := (nI 1)) rfl rfl ?_
          refine r_ret rfl ⟨_, rfl⟩ ?_
          rw [if_neg (by omega), if_pos (by omega)] at hQ
          exact hQ
        · replace h_3 := Nat.not_le.mp h_3
          refine r_ico (x := (-1)) rfl rfl ?_
          refine r_go rfl ?_
          refine r_ret rfl ⟨_, rfl⟩ ?_
          rw [if_neg (by omega), if_neg (by omega)] at hQ
          exact hQ
      · replace h_2 : e - p = t - s := Decidable.of_not_not h_2
        refine r_ico (x := (nI 0)) rfl rfl ?_
        refine r_go rfl ?_
        refine r_ret rfl ⟨_, rfl⟩ ?_
        rw [if_pos (by omega)] at hQ
        exact hQ
    · replace h_1 := Nat.not_le.mp h_1
      refine r_ild rfl rfl ?_
      refine r_ild rfl rfl ?_
      refine r_ibi (v := (nI (s + k))) rfl (nI_add _ _) ?_
      refine r_ild rfl rfl ?_
      refine r_cmpN (by omega) (by omega) rfl (fun h_4 => ?_) (fun h_4 => ?_)
      · replace h_4 : t ≤ s + k := h_4
        rw [if_neg (by omega)] at hQ
        refine r_ild rfl rfl ?_
        refine r_ild rfl rfl ?_
        refine r_ibi (v := (nI (e - p))) rfl (pk_sub (by omega)) ?_
        refine r_ild rfl rfl ?_
        refine r_ild rfl rfl ?_
        refine r_ibi (v := (nI (t - s))) rfl (pk_sub (by omega)) ?_
        refine r_cmpN (by omega) (by omega) rfl (fun h_5 => ?_) (fun h_5 => ?_)
        · replace h_5 : ¬ e - p = t - s := h_5
          refine r_ild rfl rfl ?_
          refine r_ild rfl rfl ?_
          refine r_ibi (v := (nI (e - p))) rfl (pk_sub (by omega)) ?_
          refine r_ild rfl rfl ?_
          refine r_ild rfl rfl ?_
          refine r_ibi (v := (nI (t - s))) rfl (pk_sub (by omega)) ?_
          refine r_cmpN (by omega) (by omega) rfl (fun h_6 => ?_) (fun h_6 => ?_)
          · replace h_6 : t - s ≤ e - p := h_6
            refine r_ico (x := (nI 1)) rfl rfl ?_
            refine r_ret rfl ⟨_, rfl⟩ ?_
            rw [if_neg (by omega), if_pos (by omega)] at hQ
            exact hQ
          · replace h_6 := Nat.not_le.mp h_6
            refine r_ico (x := (-1)) rfl rfl ?_
            refine r_go rfl ?_
            refine r_ret rfl ⟨_, rfl⟩ ?_
            rw [if_neg (by omega), if_neg (by omega)] at hQ
            exact hQ
        · replace h_5 : e - p = t - s := Decidable.of_not_not h_5
          refine r_ico (x := (nI 0)) rfl rfl ?_
          refine r_go rfl ?_
          refine r_ret rfl ⟨_, rfl⟩ ?_
          rw [if_pos (by omega)] at hQ
          exact hQ
      · replace h_4 := Nat.not_le.mp h_4
        rw [if_pos ⟨by omega, by omega⟩] at hQ
        refine r_ald rfl rfl ?_
        refine r_get rfl rfl ?_
        refine r_ico (x := (nI 24)) rfl rfl ?_
        refine r_ild rfl rfl ?_
        refine r_ibi (v := (nI (24 * ra))) rfl (pk_mul _ _) ?_
        refine r_ild rfl rfl ?_
        refine r_ibi (v := (nI (24 * ra + p))) rfl (nI_add _ _) ?_
        refine r_ild rfl rfl ?_
        refine r_ibi (v := (nI (24 * ra + p + k))) rfl (nI_add _ _) ?_
        refine r_ialdN (k0 := 9) rfl rfl (by omega) (by decide) ?_
        refine r_ist (ls' := [some (zR (some q)), some (zI (nI ra)), some (zI (nI p)), some (zI (nI rb)), some (zI (nI s)), some (zI (nI e)), some (zI (nI t)), some (zI (bI (f1))), some (zI (bI (f2))), some (zI (nI k)), some (zI (r 9 (24 * ra + p + k))), x11]) rfl (Nat.le_of_ble_eq_true rfl) rfl ?_
        refine r_ald rfl rfl ?_
        refine r_get rfl rfl ?_
        refine r_ico (x := (nI 24)) rfl rfl ?_
        refine r_ild rfl rfl ?_
        refine r_ibi (v := (nI (24 * rb))) rfl (pk_mul _ _) ?_
        refine r_ild rfl rfl ?_
        refine r_ibi (v := (nI (24 * rb + s))) rfl (nI_add _ _) ?_
        refine r_ild rfl rfl ?_
        refine r_ibi (v := (nI (24 * rb + s + k))) rfl (nI_add _ _) ?_
        refine r_ialdN (k0 := 9) rfl rfl (by omega) (by decide) ?_
        refine r_ist (ls' := [some (zR (some q)), some (zI (nI ra)), some (zI (nI p)), some (zI (nI rb)), some (zI (nI s)), some (zI (nI e)), some (zI (nI t)), some (zI (bI (f1))), some (zI (bI (f2))), some (zI (nI k)), some (zI (r 9 (24 * ra + p + k))), some (zI (r 9 (24 * rb + s + k)))]) rfl (Nat.le_of_ble_eq_true rfl) rfl ?_
        refine r_ild rfl rfl ?_
        refine r_ild rfl rfl ?_
        refine r_cmp rfl (fun h_7 => ?_) (fun h_7 => ?_)
        · replace h_7 : (r 9 (24 * ra + p + k)) = (r 9 (24 * rb + s + k)) := h_7
          refine r_inc (x' := (nI (k + 1))) (ls' := [some (zR (some q)), some (zI (nI ra)), some (zI (nI p)), some (zI (nI rb)), some (zI (nI s)), some (zI (nI e)), some (zI (nI t)), some (zI (bI (f1))), some (zI (bI (f2))), some (zI (nI (k + 1))), some (zI (r 9 (24 * ra + p + k))), some (zI (r 9 (24 * rb + s + k)))]) rfl rfl (nI_1 _) rfl ?_
          refine r_go rfl ?_
          rw [if_pos (by show rw9 r ra (p + k) = rw9 r rb (s + k); simp only [rw9]; rw [show 24 * ra + (p + k) = 24 * ra + p + k by omega, show 24 * rb + (s + k) = 24 * rb + s + k by omega]; exact h_7)] at hQ
          exact ih (k + 1) _ _ (by omega) (by omega) (by omega) hQ
        · replace h_7 : ¬ ((r 9 (24 * ra + p + k)) = (r 9 (24 * rb + s + k))) := h_7
          refine r_ild rfl rfl ?_
          refine r_ild rfl rfl ?_
          refine r_cmp rfl (fun h_8 => ?_) (fun h_8 => ?_)
          · replace h_8 : (r 9 (24 * rb + s + k)) ≤ (r 9 (24 * ra + p + k)) := h_8
            refine r_ico (x := (nI 1)) rfl rfl ?_
            refine r_ret rfl ⟨_, rfl⟩ ?_
            rw [if_neg (by show rw9 r ra (p + k) = rw9 r rb (s + k) → False; intro z; apply h_7; simp only [rw9] at z; rw [show 24 * ra + p + k = 24 * ra + (p + k) by omega, show 24 * rb + s + k = 24 * rb + (s + k) by omega]; exact z), if_pos (by show rw9 r rb (s + k) ≤ rw9 r ra (p + k); simp only [rw9]; rw [show 24 * ra + (p + k) = 24 * ra + p + k by omega, show 24 * rb + (s + k) = 24 * rb + s + k by omega]; exact h_8)] at hQ
            exact hQ
          · replace h_8 : ¬ ((r 9 (24 * rb + s + k)) ≤ (r 9 (24 * ra + p + k))) := h_8
            refine r_ico (x := (-1)) rfl rfl ?_
            refine r_go rfl ?_
            refine r_ret rfl ⟨_, rfl⟩ ?_
            rw [if_neg (by show rw9 r ra (p + k) = rw9 r rb (s + k) → False; intro z; apply h_7; simp only [rw9] at z; rw [show 24 * ra + p + k = 24 * ra + (p + k) by omega, show 24 * rb + s + k = 24 * rb + (s + k) by omega]; exact z), if_neg (by show ¬ (rw9 r rb (s + k) ≤ rw9 r ra (p + k)); intro z; apply h_8; simp only [rw9] at z; rw [show 24 * ra + p + k = 24 * ra + (p + k) by omega, show 24 * rb + s + k = 24 * rb + (s + k) by omega]; exact z)] at hQ
            exact hQ
/-- the words of two rows from p and s on -/
def cwR (r : rA) (ra ma p rb mb s : Nat) : Int32 := cwF (fun j => rw9 r ra (p + j)) (fun j => rw9 r rb (s + j)) (spn noPt (rw9 r ra) ma p - p) (spn noPt (rw9 r rb) mb s - s)
set_option maxHeartbeats 2000000 in
theorem c_compareWords {q : Nat} {qa : Nat → Nat} {d c n a v f ra rb ma mb p s : Nat} {b : Bool} {r : rA} (hra : ra < 900) (hrb : rb < 900) (hma : ma ≤ 24) (hmb : mb ≤ 24) (hp : p < 24) (hs : s < 24) (hA : r 8 ra = nI ma) (hB : r 8 rb = nI mb) : rFun q qa (d + 3) 116 [zR (some q), zI (nI ra), zI (nI p), zI (nI rb), zI (nI s)] (c, n, a, b, v, f, r) (c, n, a, b, v, f, r) (some (zI (cwR r ra ma p rb mb s))) := by
  refine rFun.of (d := d + 2) (T := tb_116) (L := [some (zR (some q)), some (zI (nI ra)), some (zI (nI p)), some (zI (nI rb)), some (zI (nI s)), none, none, none, none, none, none, none]) (Nat.le_of_ble_eq_true rfl) rfl rfl ?_
  refine r_ald rfl rfl ?_
  refine r_ild rfl rfl ?_
  refine r_ild rfl rfl ?_
  obtain ⟨e26, he26⟩ : ∃ x, x = spn noPt (rw9 r ra) ma p := ⟨_, rfl⟩
  have le26 : p ≤ e26 ∧ e26 ≤ max ma p := by rw [he26]; exact ⟨spn_ge, spn_lem⟩
  refine r_call (as := [zR (some q), zI (nI ra), zI (nI p)]) (r := []) (s' := (c, n, a, b, v, f, r)) (v := some (zI (nI e26))) rfl rfl rfl (Nat.le_of_ble_eq_true rfl) (Or.inr ⟨rfl, rfl, _, rfl⟩) (by rw [he26]; exact c_wordEnd (by omega) (by omega) hA (by omega)) ?_
  refine r_ist (ls' := [some (zR (some q)), some (zI (nI ra)), some (zI (nI p)), some (zI (nI rb)), some (zI (nI s)), some (zI (nI e26)), none, none, none, none, none, none]) rfl (Nat.le_of_ble_eq_true rfl) rfl ?_
  refine r_ald rfl rfl ?_
  refine r_ild rfl rfl ?_
  refine r_ild rfl rfl ?_
  obtain ⟨e27, he27⟩ : ∃ x, x = spn noPt (rw9 r rb) mb s := ⟨_, rfl⟩
  have le27 : s ≤ e27 ∧ e27 ≤ max mb s := by rw [he27]; exact ⟨spn_ge, spn_lem⟩
  refine r_call (as := [zR (some q), zI (nI rb), zI (nI s)]) (r := []) (s' := (c, n, a, b, v, f, r)) (v := some (zI (nI e27))) rfl rfl rfl (Nat.le_of_ble_eq_true rfl) (Or.inr ⟨rfl, rfl, _, rfl⟩) (by rw [he27]; exact c_wordEnd (by omega) (by omega) hB (by omega)) ?_
  refine r_ist (ls' := [some (zR (some q)), some (zI (nI ra)), some (zI (nI p)), some (zI (nI rb)), some (zI (nI s)), some (zI (nI e26)), some (zI (nI e27)), none, none, none, none, none]) rfl (Nat.le_of_ble_eq_true rfl) rfl ?_
  refine r_ald rfl rfl ?_
  refine r_ild rfl rfl ?_
  refine r_ild rfl rfl ?_
  refine r_ild rfl rfl ?_
  obtain ⟨f28, hf28⟩ : ∃ x, x = alld (rw9 r ra) (e26 - p) p := ⟨_, rfl⟩
  refine r_call (as := [zR (some q), zI (nI ra), zI (nI p), zI (nI e26)]) (r := []) (s' := (c, n, a, b, v, f, r)) (v := some (zI (bI (f28)))) rfl rfl rfl (Nat.le_of_ble_eq_true rfl) (Or.inr ⟨rfl, rfl, _, rfl⟩) (by rw [hf28]; exact c_isNumberWord (by omega) (by omega) (by omega)) ?_
  refine r_ist (ls' := [some (zR (some q)), some (zI (nI ra)), some (zI (nI p)), some (zI (nI rb)), some (zI (nI s)), some (zI (nI e26)), some (zI (nI e27)), some (zI (bI (f28))), none, none, none, none]) rfl (Nat.le_of_ble_eq_true rfl) rfl ?_
  refine r_ald rfl rfl ?_
  refine r_ild rfl rfl ?_
  refine r_ild rfl rfl ?_
  refine r_ild rfl rfl ?_
  obtain ⟨f29, hf29⟩ : ∃ x, x = alld (rw9 r rb) (e27 - s) s := ⟨_, rfl⟩
  refine r_call (as := [zR (some q), zI (nI rb), zI (nI s), zI (nI e27)]) (r := []) (s' := (c, n, a, b, v, f, r)) (v := some (zI (bI (f29)))) rfl rfl rfl (Nat.le_of_ble_eq_true rfl) (Or.inr ⟨rfl, rfl, _, rfl⟩) (by rw [hf29]; exact c_isNumberWord (by omega) (by omega) (by omega)) ?_
  refine r_ist (ls' := [some (zR (some q)), some (zI (nI ra)), some (zI (nI p)), some (zI (nI rb)), some (zI (nI s)), some (zI (nI e26)), some (zI (nI e27)), some (zI (bI (f28))), some (zI (bI (f29))), none, none, none]) rfl (Nat.le_of_ble_eq_true rfl) rfl ?_
  have e0 : cwR r ra ma p rb mb s = (if f28 = f29 then (if f28 = true ∧ ¬ e26 - p = e27 - s then (if e27 - s ≤ e26 - p then nI 1 else -1) else bcF (fun j => rw9 r ra (p + j)) (fun j => rw9 r rb (s + j)) (e26 - p) (e27 - s) (e26 - p + 1) 0) else if f28 = true then -1 else nI 1) := by unfold cwR cwF; rw [← he26, ← he27, ← alld_sh, ← alld_sh, ← hf28, ← hf29]
  rw [e0]
  refine r_ild rfl rfl ?_
  refine r_ild rfl rfl ?_
  refine r_cmp rfl (fun h_1 => ?_) (fun h_1 => ?_)
  · replace h_1 : (bI (f28)) = (bI (f29)) := h_1
    refine r_ild rfl rfl ?_
    refine r_ifB0 rfl (fun h_2 => ?_) (fun h_2 => ?_)
    · refine r_ico (x := (nI 0)) rfl rfl ?_
      refine r_ist (ls' := [some (zR (some q)), some (zI (nI ra)), some (zI (nI p)), some (zI (nI rb)), some (zI (nI s)), some (zI (nI e26)), some (zI (nI e27)), some (zI (bI (f28))), some (zI (bI (f29))), some (zI (nI 0)), none, none]) rfl (Nat.le_of_ble_eq_true rfl) rfl ?_
      rw [if_pos (bI_inj.mp h_1), if_neg (by rw [h_2]; exact fun z => absurd z.1 (by decide))]
      exact l_cw hra hrb (by omega) (by omega) (by omega) (by omega) (e26 - p + 1) 0 _ _ (by omega) (by omega) (by omega) ⟨rfl, rfl⟩
    · refine r_ild rfl rfl ?_
      refine r_ild rfl rfl ?_
      refine r_ibi (v := (nI (e26 - p))) rfl (pk_sub (by omega)) ?_
      refine r_ild rfl rfl ?_
      refine r_ild rfl rfl ?_
      refine r_ibi (v := (nI (e27 - s))) rfl (pk_sub (by omega)) ?_
      refine r_cmpN (by omega) (by omega) rfl (fun h_3 => ?_) (fun h_3 => ?_)
      · replace h_3 : e26 - p = e27 - s := h_3
        refine r_ico (x := (nI 0)) rfl rfl ?_
        refine r_ist (ls' := [some (zR (some q)), some (zI (nI ra)), some (zI (nI p)), some (zI (nI rb)), some (zI (nI s)), some (zI (nI e26)), some (zI (nI e27)), some (zI (bI (f28))), some (zI (bI (f29))), some (zI (nI 0)), none, none]) rfl (Nat.le_of_ble_eq_true rfl) rfl ?_
        rw [if_pos (bI_inj.mp h_1), if_neg (fun z => z.2 h_3)]
        exact l_cw hra hrb (by omega) (by omega) (by omega) (by omega) (e26 - p + 1) 0 _ _ (by omega) (by omega) (by omega) ⟨rfl, rfl⟩
      · replace h_3 : ¬ (e26 - p = e27 - s) := h_3
        refine r_ild rfl rfl ?_
        refine r_ild rfl rfl ?_
        refine r_ibi (v := (nI (e26 - p))) rfl (pk_sub (by omega)) ?_
        refine r_ild rfl rfl ?_
        refine r_ild rfl rfl ?_
        refine r_ibi (v := (nI (e27 - s))) rfl (pk_sub (by omega)) ?_
        refine r_cmpN (by omega) (by omega) rfl (fun h_4 => ?_) (fun h_4 => ?_)
        · replace h_4 : e27 - s ≤ e26 - p := h_4
          refine r_ico (x := (nI 1)) rfl rfl ?_
          refine r_ret rfl ⟨_, rfl⟩ ?_
          rw [if_pos (bI_inj.mp h_1), if_pos ⟨h_2, h_3⟩, if_pos (by omega)]
          exact ⟨rfl, rfl⟩
        · replace h_4 := Nat.not_le.mp h_4
          refine r_ico (x := (-1)) rfl rfl ?_
          refine r_go rfl ?_
          refine r_ret rfl ⟨_, rfl⟩ ?_
          rw [if_pos (bI_inj.mp h_1), if_pos ⟨h_2, h_3⟩, if_neg (by omega)]
          exact ⟨rfl, rfl⟩
  · replace h_1 : ¬ ((bI (f28)) = (bI (f29))) := h_1
    refine r_ild rfl rfl ?_
    refine r_ifB0 rfl (fun h_5 => ?_) (fun h_5 => ?_)
    · refine r_ico (x := (nI 1)) rfl rfl ?_
      refine r_ret rfl ⟨_, rfl⟩ ?_
      rw [if_neg (fun z => h_1 (bI_inj.mpr z)), if_neg (by rw [h_5]; decide)]
      exact ⟨rfl, rfl⟩
    · refine r_ico (x := (-1)) rfl rfl ?_
      refine r_go rfl ?_
      refine r_ret rfl ⟨_, rfl⟩ ?_
      rw [if_neg (fun z => h_1 (bI_inj.mpr z)), if_pos h_5]
      exact ⟨rfl, rfl⟩
