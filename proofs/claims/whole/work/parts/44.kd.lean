/-- the class's text beside the reference's: a byte of 128 or more is below 0 there -/
def txR (n : Nat) (t tc : Nat → Int32) : Prop := ∀ j, j < n → tc j = t j ∨ (tc j < 0 ∧ nI 127 < t j)
theorem tx_neg {x : Int32} {c : Nat} (hc : c < 128) (h : x < 0) : ¬ x = nI c ∧ x < nI c := by
  constructor
  · intro e
    rw [e, Int32.lt_iff_toInt_lt, nI_toInt (by omega)] at h
    simp at h
    omega
  · rw [Int32.lt_iff_toInt_lt] at h ⊢
    rw [nI_toInt (by omega)]
    simp at h
    omega
theorem tx_big {x : Int32} {c : Nat} (hc : c < 128) (h : nI 127 < x) : ¬ x = nI c ∧ nI c < x := by
  rw [Int32.lt_iff_toInt_lt, nI_toInt (by omega)] at h
  constructor
  · intro e
    rw [e, nI_toInt (by omega)] at h
    omega
  · rw [Int32.lt_iff_toInt_lt, nI_toInt (by omega)]
    omega
theorem tx_eq {n : Nat} {t tc : Nat → Int32} (hx : txR n t tc) {j c : Nat} (hj : j < n) (hc : c < 128) : tc j = nI c ↔ t j = nI c := by
  rcases hx j hj with e | ⟨e1, e2⟩
  · rw [e]
  · exact iff_of_false (tx_neg hc e1).1 (tx_big hc e2).1
theorem i_nlt {x y : Int32} (h : x < y) : ¬ y ≤ x := by rw [Int32.lt_iff_toInt_lt] at h; rw [Int32.le_iff_toInt_le]; omega
theorem i_lt_of {x y : Int32} (h : ¬ y ≤ x) : x < y := by rw [Int32.le_iff_toInt_le] at h; rw [Int32.lt_iff_toInt_lt]; omega
theorem i_le_n {x y : Int32} : ¬ x < y ↔ y ≤ x := by rw [Int32.lt_iff_toInt_lt, Int32.le_iff_toInt_le]; omega
theorem i_nle {x y : Int32} : ¬ x ≤ y ↔ y < x := by rw [Int32.lt_iff_toInt_lt, Int32.le_iff_toInt_le]; omega
theorem tx_dg0 {x : Int32} (h : x < 0) : isDg x = false := by simp [isDg, (tx_neg (c := 48) (by omega) h).2]
theorem tx_dg1 {x : Int32} (h : nI 127 < x) : isDg x = false := by simp [isDg, (tx_big (c := 57) (by omega) h).2]
theorem tx_wd0 {x : Int32} (h : x < 0) : isWd x = false := by simp [isWd, tx_dg0 h, (tx_neg (c := 65) (by omega) h).2, (tx_neg (c := 97) (by omega) h).2, (tx_neg (c := 45) (by omega) h).1]
theorem tx_wd1 {x : Int32} (h : nI 127 < x) : isWd x = false := by simp [isWd, tx_dg1 h, i_nlt (tx_big (c := 90) (by omega) h).2, i_nlt (tx_big (c := 122) (by omega) h).2, (tx_big (c := 45) (by omega) h).1]
theorem tx_dg {n : Nat} {t tc : Nat → Int32} (hx : txR n t tc) {j : Nat} (hj : j < n) : isDg (tc j) = isDg (t j) := by
  rcases hx j hj with e | ⟨e1, e2⟩
  · rw [e]
  · rw [tx_dg0 e1, tx_dg1 e2]
theorem tx_wd {n : Nat} {t tc : Nat → Int32} (hx : txR n t tc) {j : Nat} (hj : j < n) : isWd (tc j) = isWd (t j) := by
  rcases hx j hj with e | ⟨e1, e2⟩
  · rw [e]
  · rw [tx_wd0 e1, tx_wd1 e2]
theorem tx_id {n : Nat} {t tc : Nat → Int32} (hx : txR n t tc) {j : Nat} (hj : j < n) (hw : isWd (t j) = true) : tc j = t j := by
  rcases hx j hj with e | ⟨e1, e2⟩
  · exact e
  · rw [tx_wd1 e2] at hw
    cases hw
theorem dg_wd {x : Int32} (h : isDg x = true) : isWd x = true := by simp [isWd, h]
/-- all bytes of a span have the property -/
theorem spnF_all {q : Int32 → Bool} {t : Nat → Int32} : ∀ (k a j : Nat), a ≤ j → j < spnF q t k a → q (t j) = true
  | 0, a, j, h1, h2 => by
    have h2 : j < a := h2
    omega
  | k + 1, a, j, h1, h2 => by
    rw [spnF] at h2
    split at h2
    · rename_i g
      by_cases e : j = a
      · rw [e]; exact g
      · exact spnF_all k (a + 1) j (by omega) h2
    · omega
theorem spn_all {q : Int32 → Bool} {t : Nat → Int32} {n a j : Nat} (h1 : a ≤ j) (h2 : j < spn q t n a) : q (t j) = true := spnF_all _ _ _ h1 h2
theorem spnF_stop {q : Int32 → Bool} {t : Nat → Int32} : ∀ (k a : Nat), spnF q t k a < a + k → q (t (spnF q t k a)) = false
  | 0, a, h => by
    have h : a < a + 0 := h
    omega
  | k + 1, a, h => by
    rw [spnF] at h ⊢
    split
    · rename_i g
      rw [if_pos g] at h
      exact spnF_stop k (a + 1) (by omega)
    · rename_i g
      exact Bool.eq_false_iff.mpr g
theorem spn_stop {q : Int32 → Bool} {t : Nat → Int32} {n a : Nat} (ha : a ≤ n) (h : spn q t n a < n) : q (t (spn q t n a)) = false := spnF_stop _ _ (by unfold spn at h; omega)
abbrev rdO (pb n a pn : Nat) : zE := zO 1 [zR (some pb), zI (nI n), zI (nI a), zR (some pn)]
/-- what is at a place -/
abbrev atc (n : Nat) (t : Nat → Int32) (a c : Nat) : Prop := a < n ∧ t a = nI c
set_option maxHeartbeats 1000000 in
theorem k_X1_take {d : Nat} {h : zH} {p pb pn n a : Nat} {t tc : Nat → Int32} {c : Nat} (hx : txR n t tc) (hn : n ≤ 160) (ha : a ≤ n) (h1 : h p = some (rdO pb n a pn)) (h2 : h pb = some (zaI 0 160 tc)) (hc : c < 128) : zCall (d + 1) 25 [zR (some p), zI (nI c)] h 0 0 (fun h' o => (o = .inl (some (zI (nI 1))) ∧ atc n t a c ∧ h' p = some (rdO pb n (a + 1) pn) ∧ (∀ y, y ≠ p → h' y = h y)) ∨ (o = .inl (some (zI (nI 0))) ∧ ¬ atc n t a c ∧ h = h')) := by
  refine zCall.of (d := d) (T := tb_25) (L := [some (zR (some p)), some (zI (nI c))]) (Nat.le_of_ble_eq_true rfl) rfl rfl ?_
  refine z_ald rfl rfl ?_
  refine z_get rfl h1 rfl ?_
  refine z_ald rfl rfl ?_
  refine z_get rfl h1 rfl ?_
  refine z_cmpN (by omega) (by omega) rfl (fun h_1 => ?_) (fun h_1 => ?_)
  · replace h_1 : n ≤ a := h_1
    refine z_ico (x := (nI 0)) rfl rfl ?_
    refine z_ret rfl ⟨_, rfl, Or.inl rfl⟩ ?_
    exact Or.inr ⟨rfl, fun g => by omega, rfl⟩
  · replace h_1 := Nat.not_le.mp h_1
    refine z_ald rfl rfl ?_
    refine z_get rfl h1 rfl ?_
    refine z_ald rfl rfl ?_
    refine z_get rfl h1 rfl ?_
    refine z_iald rfl h2 (by omega) (by omega) ?_
    refine z_ild rfl rfl ?_
    refine z_cmp rfl (fun h_2 => ?_) (fun h_2 => ?_)
    · replace h_2 : (tc a) = (nI c) := h_2
      refine z_ald rfl rfl ?_
      refine z_dup rfl rfl ?_
      refine z_get rfl h1 rfl ?_
      refine z_ico (x := (nI 1)) rfl rfl ?_
      refine z_ibi (v := (nI (a + 1))) rfl (nI_add _ _) ?_
      refine z_put (e := zO 1 [zR (some pb), zI (nI n), zI (nI (a + 1)), zR (some pn)]) rfl h1 (Nat.le_of_ble_eq_true rfl) ⟨_, rfl⟩ rfl ?_
      intro g_3 e_4 f_5
      have k_6 := (f_5 pb (zne h2 h1 (by nofun))).trans h2
      refine z_ico (x := (nI 1)) rfl rfl ?_
      refine z_ret rfl ⟨_, rfl, Or.inr rfl⟩ ?_
      exact Or.inl ⟨rfl, ⟨h_1, (tx_eq hx h_1 hc).mp h_2⟩, e_4, f_5⟩
    · replace h_2 : ¬ ((tc a) = (nI c)) := h_2
      refine z_ico (x := (nI 0)) rfl rfl ?_
      refine z_ret rfl ⟨_, rfl, Or.inl rfl⟩ ?_
      exact Or.inr ⟨rfl, fun g => h_2 ((tx_eq hx h_1 hc).mpr g.2), rfl⟩
set_option maxHeartbeats 1000000 in
theorem k_X1_isAt {d : Nat} {h : zH} {p pb pn n a : Nat} {t tc : Nat → Int32} {b c : Nat} (hx : txR n t tc) (hn : n ≤ 160) (ha : a ≤ n) (h1 : h p = some (rdO pb n a pn)) (h2 : h pb = some (zaI 0 160 tc)) (hc : c < 128) (hb : b ≤ n + 1) : zPure (d + 1) 26 [zR (some p), zI (nI b), zI (nI c)] h (some (zI (bI (decide (atc n t b c))))) := by
  refine zCall.of (d := d) (T := tb_26) (L := [some (zR (some p)), some (zI (nI b)), some (zI (nI c))]) (Nat.le_of_ble_eq_true rfl) rfl rfl ?_
  refine z_ild rfl rfl ?_
  refine z_ifN (by omega) rfl (fun h_1 => ?_) (fun h_1 => ?_)
  · replace h_1 : b < 0 := h_1
    omega
  · replace h_1 := Nat.not_lt.mp h_1
    refine z_ild rfl rfl ?_
    refine z_ald rfl rfl ?_
    refine z_get rfl h1 rfl ?_
    refine z_cmpN (by omega) (by omega) rfl (fun h_2 => ?_) (fun h_2 => ?_)
    · replace h_2 : n ≤ b := h_2
      refine z_ico (x := (nI 0)) rfl rfl ?_
      refine z_ret rfl ⟨_, rfl, Or.inl rfl⟩ ?_
      exact ⟨rfl, rt_f (decide_eq_false (fun g => by omega))⟩
    · replace h_2 := Nat.not_le.mp h_2
      refine z_ald rfl rfl ?_
      refine z_get rfl h1 rfl ?_
      refine z_ild rfl rfl ?_
      refine z_iald rfl h2 (by omega) (by omega) ?_
      refine z_ild rfl rfl ?_
      refine z_cmp rfl (fun h_3 => ?_) (fun h_3 => ?_)
      · replace h_3 : ¬ (tc b) = (nI c) := h_3
        refine z_ico (x := (nI 0)) rfl rfl ?_
        refine z_ret rfl ⟨_, rfl, Or.inl rfl⟩ ?_
        exact ⟨rfl, rt_f (decide_eq_false (fun g => h_3 ((tx_eq hx h_2 hc).mpr g.2)))⟩
      · replace h_3 : (tc b) = (nI c) := Decidable.of_not_not h_3
        refine z_ico (x := (nI 1)) rfl rfl ?_
        refine z_go rfl ?_
        refine z_ret rfl ⟨_, rfl, Or.inr rfl⟩ ?_
        exact ⟨rfl, rt_t (decide_eq_true ⟨h_2, (tx_eq hx h_2 hc).mp h_3⟩)⟩
set_option maxHeartbeats 1000000 in
theorem kl_skb {d : Nat} {Q : zQ}  {p pb pn n : Nat} {t tc : Nat → Int32} (hx : txR n t tc) (hn : n ≤ 160)  : ∀ k, k ≤ n → ∀ (h : zH) (h1 : h p = some (rdO pb n k pn)) (h2 : h pb = some (zaI 0 160 tc)) (hQ : ∀ h', h' p = some (rdO pb n (spn isBl t n k) pn) → (∀ y, y ≠ p → h' y = h y) → Q h' (.inl none)), zEv d tb_23 0 0 Q 0 [some (zR (some p))] [] h 0 0 := by
  refine dn n (fun k hk ih h h1 h2 hQ => ?_)
  refine z_ald rfl rfl ?_
  refine z_get rfl h1 rfl ?_
  refine z_ald rfl rfl ?_
  refine z_get rfl h1 rfl ?_
  refine z_cmpN (by omega) (by omega) rfl (fun h_1 => ?_) (fun h_1 => ?_)
  · replace h_1 : n ≤ k := h_1
    refine z_rtv rfl ?_
    exact hQ _ (by rw [spn_end (by omega)]; exact h1) (fun _ _ => rfl)
  · replace h_1 := Nat.not_le.mp h_1
    refine z_ald rfl rfl ?_
    refine z_get rfl h1 rfl ?_
    refine z_ald rfl rfl ?_
    refine z_get rfl h1 rfl ?_
    refine z_iald rfl h2 (by omega) (by omega) ?_
    refine z_ico (x := (nI 32)) rfl rfl ?_
    refine z_cmp rfl (fun h_2 => ?_) (fun h_2 => ?_)
    · replace h_2 : ¬ (tc k) = (nI 32) := h_2
      refine z_rtv rfl ?_
      have h9 : isBl (t k) = false := decide_eq_false (fun g => h_2 ((tx_eq hx h_1 (by omega)).mpr g))
      exact hQ _ (by rw [spn_no h9]; exact h1) (fun _ _ => rfl)
    · replace h_2 : (tc k) = (nI 32) := Decidable.of_not_not h_2
      refine z_ald rfl rfl ?_
      refine z_dup rfl rfl ?_
      refine z_get rfl h1 rfl ?_
      refine z_ico (x := (nI 1)) rfl rfl ?_
      refine z_ibi (v := (nI (k + 1))) rfl (nI_add _ _) ?_
      refine z_put (e := zO 1 [zR (some pb), zI (nI n), zI (nI (k + 1)), zR (some pn)]) rfl h1 (Nat.le_of_ble_eq_true rfl) ⟨_, rfl⟩ rfl ?_
      intro g_3 e_4 f_5
      have k_6 := (f_5 pb (zne h2 h1 (by nofun))).trans h2
      refine z_go rfl ?_
      have h9 : isBl (t k) = true := decide_eq_true ((tx_eq hx h_1 (by omega)).mp h_2)
      exact ih (by omega) _ e_4 k_6 (fun h' e f => hQ h' (by rw [spn_yes (by omega) h9]; exact e) (fun y hy => (f y hy).trans (f_5 y hy)))
theorem k_X1_skipBlanks {d : Nat} {h : zH} {p pb pn n a : Nat} {t tc : Nat → Int32} (hx : txR n t tc) (hn : n ≤ 160) (ha : a ≤ n) (h1 : h p = some (rdO pb n a pn)) (h2 : h pb = some (zaI 0 160 tc)) : zCall (d + 1) 23 [zR (some p)] h 0 0 (fun h' o => o = .inl none ∧ h' p = some (rdO pb n (spn isBl t n a) pn) ∧ (∀ y, y ≠ p → h' y = h y)) :=
  zCall.of (d := d) (T := tb_23) (L := [some (zR (some p))]) (Nat.le_of_ble_eq_true rfl) rfl rfl (kl_skb hx hn a ha h h1 h2 (fun h' e f => ⟨rfl, e, f⟩))
set_option maxHeartbeats 1000000 in
theorem kl_skw {d : Nat} {Q : zQ}  {p pb pn n : Nat} {t tc : Nat → Int32} (hx : txR n t tc) (hn : n ≤ 160)  : ∀ k, k ≤ n → ∀ (h : zH) (h1 : h p = some (rdO pb n k pn)) (h2 : h pb = some (zaI 0 160 tc)) (hQ : ∀ h', h' p = some (rdO pb n (spn isWd t n k) pn) → (∀ y, y ≠ p → h' y = h y) → Q h' (.inl none)), zEv d tb_22 0 0 Q 0 [some (zR (some p))] [] h 0 0 := by
  refine dn n (fun k hk ih h h1 h2 hQ => ?_)
  refine z_ald rfl rfl ?_
  refine z_get rfl h1 rfl ?_
  refine z_ald rfl rfl ?_
  refine z_get rfl h1 rfl ?_
  refine z_cmpN (by omega) (by omega) rfl (fun h_1 => ?_) (fun h_1 => ?_)
  · replace h_1 : n ≤ k := h_1
    refine z_rtv rfl ?_
    exact hQ _ (by rw [spn_end (by omega)]; exact h1) (fun _ _ => rfl)
  · replace h_1 := Nat.not_le.mp h_1
    refine z_ald rfl rfl ?_
    refine z_get rfl h1 rfl ?_
    refine z_ald rfl rfl ?_
    refine z_get rfl h1 rfl ?_
    refine z_iald rfl h2 (by omega) (by omega) ?_
    refine z_ico (x := (nI 97)) rfl rfl ?_
    refine z_cmp rfl (fun h_2 => ?_) (fun h_2 => ?_)
    · replace h_2 : (tc k) < (nI 97) := h_2
      refine z_ald rfl rfl ?_
      refine z_get rfl h1 rfl ?_
      refine z_ald rfl rfl ?_
      refine z_get rfl h1 rfl ?_
      refine z_iald rfl h2 (by omega) (by omega) ?_
      refine z_ico (x := (nI 65)) rfl rfl ?_
      refine z_cmp rfl (fun h_3 => ?_) (fun h_3 => ?_)
      · replace h_3 : (tc k) < (nI 65) := h_3
        refine z_ald rfl rfl ?_
        refine z_get rfl h1 rfl ?_
        refine z_ald rfl rfl ?_
        refine z_get rfl h1 rfl ?_
        refine z_iald rfl h2 (by omega) (by omega) ?_
        refine z_ico (x := (nI 48)) rfl rfl ?_
        refine z_cmp rfl (fun h_4 => ?_) (fun h_4 => ?_)
        · replace h_4 : (tc k) < (nI 48) := h_4
          refine z_ald rfl rfl ?_
          refine z_get rfl h1 rfl ?_
          refine z_ald rfl rfl ?_
          refine z_get rfl h1 rfl ?_
          refine z_iald rfl h2 (by omega) (by omega) ?_
          refine z_ico (x := (nI 45)) rfl rfl ?_
          refine z_cmp rfl (fun h_5 => ?_) (fun h_5 => ?_)
          · replace h_5 : ¬ (tc k) = (nI 45) := h_5
            refine z_rtv rfl ?_
            have h9 : isWd (t k) = false := by rw [← tx_wd hx (by omega)]; simp [isWd, isDg, h_2, h_3, h_4, h_5] <;> exact i_nle.mp (by assumption)
            exact hQ _ (by rw [spn_no h9]; exact h1) (fun _ _ => rfl)
          · replace h_5 : (tc k) = (nI 45) := Decidable.of_not_not h_5
            refine z_ald rfl rfl ?_
            refine z_dup rfl rfl ?_
            refine z_get rfl h1 rfl ?_
            refine z_ico (x := (nI 1)) rfl rfl ?_
            refine z_ibi (v := (nI (k + 1))) rfl (nI_add _ _) ?_
            refine z_put (e := zO 1 [zR (some pb), zI (nI n), zI (nI (k + 1)), zR (some pn)]) rfl h1 (Nat.le_of_ble_eq_true rfl) ⟨_, rfl⟩ rfl ?_
            intro g_6 e_7 f_8
            have k_9 := (f_8 pb (zne h2 h1 (by nofun))).trans h2
            refine z_go rfl ?_
            have h9 : isWd (t k) = true := by rw [← tx_wd hx (by omega)]; simp [isWd, isDg, h_2, h_3, h_4, h_5] <;> exact i_nle.mp (by assumption)
            exact ih (by omega) _ e_7 k_9 (fun h' e f => hQ h' (by rw [spn_yes (by omega) h9]; exact e) (fun y hy => (f y hy).trans (f_8 y hy)))
        · replace h_4 : ¬ ((tc k) < (nI 48)) := h_4
          refine z_ald rfl rfl ?_
          refine z_get rfl h1 rfl ?_
          refine z_ald rfl rfl ?_
          refine z_get rfl h1 rfl ?_
          refine z_iald rfl h2 (by omega) (by omega) ?_
          refine z_ico (x := (nI 57)) rfl rfl ?_
          refine z_cmp rfl (fun h_10 => ?_) (fun h_10 => ?_)
          · replace h_10 : (tc k) ≤ (nI 57) := h_10
            refine z_ald rfl rfl ?_
            refine z_dup rfl rfl ?_
            refine z_get rfl h1 rfl ?_
            refine z_ico (x := (nI 1)) rfl rfl ?_
            refine z_ibi (v := (nI (k + 1))) rfl (nI_add _ _) ?_
            refine z_put (e := zO 1 [zR (some pb), zI (nI n), zI (nI (k + 1)), zR (some pn)]) rfl h1 (Nat.le_of_ble_eq_true rfl) ⟨_, rfl⟩ rfl ?_
            intro g_11 e_12 f_13
            have k_14 := (f_13 pb (zne h2 h1 (by nofun))).trans h2
            refine z_go rfl ?_
            have h9 : isWd (t k) = true := by rw [← tx_wd hx (by omega)]; simp [isWd, isDg, h_2, h_3, h_4, h_10] <;> exact i_nle.mp (by assumption)
            exact ih (by omega) _ e_12 k_14 (fun h' e f => hQ h' (by rw [spn_yes (by omega) h9]; exact e) (fun y hy => (f y hy).trans (f_13 y hy)))
          · replace h_10 : ¬ ((tc k) ≤ (nI 57)) := h_10
            refine z_ald rfl rfl ?_
            refine z_get rfl h1 rfl ?_
            refine z_ald rfl rfl ?_
            refine z_get rfl h1 rfl ?_
            refine z_iald rfl h2 (by omega) (by omega) ?_
            refine z_ico (x := (nI 45)) rfl rfl ?_
            refine z_cmp rfl (fun h_15 => ?_) (fun h_15 => ?_)
            · replace h_15 : ¬ (tc k) = (nI 45) := h_15
              refine z_rtv rfl ?_
              have h9 : isWd (t k) = false := by rw [← tx_wd hx (by omega)]; simp [isWd, isDg, h_2, h_3, h_4, h_10, h_15] <;> exact i_nle.mp (by assumption)
              exact hQ _ (by rw [spn_no h9]; exact h1) (fun _ _ => rfl)
            · replace h_15 : (tc k) = (nI 45) := Decidable.of_not_not h_15
              refine z_ald rfl rfl ?_
              refine z_dup rfl rfl ?_
              refine z_get rfl h1 rfl ?_
              refine z_ico (x := (nI 1)) rfl rfl ?_
              refine z_ibi (v := (nI (k + 1))) rfl (nI_add _ _) ?_
              refine z_put (e := zO 1 [zR (some pb), zI (nI n), zI (nI (k + 1)), zR (some pn)]) rfl h1 (Nat.le_of_ble_eq_true rfl) ⟨_, rfl⟩ rfl ?_
              intro g_16 e_17 f_18
              have k_19 := (f_18 pb (zne h2 h1 (by nofun))).trans h2
              refine z_go rfl ?_
              have h9 : isWd (t k) = true := by rw [← tx_wd hx (by omega)]; simp [isWd, isDg, h_2, h_3, h_4, h_10, h_15] <;> exact i_nle.mp (by assumption)
              exact ih (by omega) _ e_17 k_19 (fun h' e f => hQ h' (by rw [spn_yes (by omega) h9]; exact e) (fun y hy => (f y hy).trans (f_18 y hy)))
      · replace h_3 : ¬ ((tc k) < (nI 65)) := h_3
        refine z_ald rfl rfl ?_
        refine z_get rfl h1 rfl ?_
        refine z_ald rfl rfl ?_
        refine z_get rfl h1 rfl ?_
        refine z_iald rfl h2 (by omega) (by omega) ?_
        refine z_ico (x := (nI 90)) rfl rfl ?_
        refine z_cmp rfl (fun h_20 => ?_) (fun h_20 => ?_)
        · replace h_20 : (tc k) ≤ (nI 90) := h_20
          refine z_ald rfl rfl ?_
          refine z_dup rfl rfl ?_
          refine z_get rfl h1 rfl ?_
          refine z_ico (x := (nI 1)) rfl rfl ?_
          refine z_ibi (v := (nI (k + 1))) rfl (nI_add _ _) ?_
          refine z_put (e := zO 1 [zR (some pb), zI (nI n), zI (nI (k + 1)), zR (some pn)]) rfl h1 (Nat.le_of_ble_eq_true rfl) ⟨_, rfl⟩ rfl ?_
          intro g_21 e_22 f_23
          have k_24 := (f_23 pb (zne h2 h1 (by nofun))).trans h2
          refine z_go rfl ?_
          have h9 : isWd (t k) = true := by rw [← tx_wd hx (by omega)]; simp [isWd, isDg, h_2, h_3, h_20] <;> exact i_nle.mp (by assumption)
          exact ih (by omega) _ e_22 k_24 (fun h' e f => hQ h' (by rw [spn_yes (by omega) h9]; exact e) (fun y hy => (f y hy).trans (f_23 y hy)))
        · replace h_20 : ¬ ((tc k) ≤ (nI 90)) := h_20
          refine z_ald rfl rfl ?_
          refine z_get rfl h1 rfl ?_
          refine z_ald rfl rfl ?_
          refine z_get rfl h1 rfl ?_
          refine z_iald rfl h2 (by omega) (by omega) ?_
          refine z_ico (x := (nI 48)) rfl rfl ?_
          refine z_cmp rfl (fun h_25 => ?_) (fun h_25 => ?_)
          · replace h_25 : (tc k) < (nI 48) := h_25
            refine z_ald rfl rfl ?_
            refine z_get rfl h1 rfl ?_
            refine z_ald rfl rfl ?_
            refine z_get rfl h1 rfl ?_
            refine z_iald rfl h2 (by omega) (by omega) ?_
            refine z_ico (x := (nI 45)) rfl rfl ?_
            refine z_cmp rfl (fun h_26 => ?_) (fun h_26 => ?_)
            · replace h_26 : ¬ (tc k) = (nI 45) := h_26
              refine z_rtv rfl ?_
              have h9 : isWd (t k) = false := by rw [← tx_wd hx (by omega)]; simp [isWd, isDg, h_2, h_3, h_20, h_25, h_26] <;> exact i_nle.mp (by assumption)
              exact hQ _ (by rw [spn_no h9]; exact h1) (fun _ _ => rfl)
            · replace h_26 : (tc k) = (nI 45) := Decidable.of_not_not h_26
              refine z_ald rfl rfl ?_
              refine z_dup rfl rfl ?_
              refine z_get rfl h1 rfl ?_
              refine z_ico (x := (nI 1)) rfl rfl ?_
              refine z_ibi (v := (nI (k + 1))) rfl (nI_add _ _) ?_
              refine z_put (e := zO 1 [zR (some pb), zI (nI n), zI (nI (k + 1)), zR (some pn)]) rfl h1 (Nat.le_of_ble_eq_true rfl) ⟨_, rfl⟩ rfl ?_
              intro g_27 e_28 f_29
              have k_30 := (f_29 pb (zne h2 h1 (by nofun))).trans h2
              refine z_go rfl ?_
              have h9 : isWd (t k) = true := by rw [← tx_wd hx (by omega)]; simp [isWd, isDg, h_2, h_3, h_20, h_25, h_26] <;> exact i_nle.mp (by assumption)
              exact ih (by omega) _ e_28 k_30 (fun h' e f => hQ h' (by rw [spn_yes (by omega) h9]; exact e) (fun y hy => (f y hy).trans (f_29 y hy)))
          · replace h_25 : ¬ ((tc k) < (nI 48)) := h_25
            refine z_ald rfl rfl ?_
            refine z_get rfl h1 rfl ?_
            refine z_ald rfl rfl ?_
            refine z_get rfl h1 rfl ?_
            refine z_iald rfl h2 (by omega) (by omega) ?_
            refine z_ico (x := (nI 57)) rfl rfl ?_
            refine z_cmp rfl (fun h_31 => ?_) (fun h_31 => ?_)
            · replace h_31 : (tc k) ≤ (nI 57) := h_31
              refine z_ald rfl rfl ?_
              refine z_dup rfl rfl ?_
              refine z_get rfl h1 rfl ?_
              refine z_ico (x := (nI 1)) rfl rfl ?_
              refine z_ibi (v := (nI (k + 1))) rfl (nI_add _ _) ?_
              refine z_put (e := zO 1 [zR (some pb), zI (nI n), zI (nI (k + 1)), zR (some pn)]) rfl h1 (Nat.le_of_ble_eq_true rfl) ⟨_, rfl⟩ rfl ?_
              intro g_32 e_33 f_34
              have k_35 := (f_34 pb (zne h2 h1 (by nofun))).trans h2
              refine z_go rfl ?_
              have h9 : isWd (t k) = true := by rw [← tx_wd hx (by omega)]; simp [isWd, isDg, h_2, h_3, h_20, h_25, h_31] <;> exact i_nle.mp (by assumption)
              exact ih (by omega) _ e_33 k_35 (fun h' e f => hQ h' (by rw [spn_yes (by omega) h9]; exact e) (fun y hy => (f y hy).trans (f_34 y hy)))
            · replace h_31 : ¬ ((tc k) ≤ (nI 57)) := h_31
              refine z_ald rfl rfl ?_
              refine z_get rfl h1 rfl ?_
              refine z_ald rfl rfl ?_
              refine z_get rfl h1 rfl ?_
              refine z_iald rfl h2 (by omega) (by omega) ?_
              refine z_ico (x := (nI 45)) rfl rfl ?_
              refine z_cmp rfl (fun h_36 => ?_) (fun h_36 => ?_)
              · replace h_36 : ¬ (tc k) = (nI 45) := h_36
                refine z_rtv rfl ?_
                have h9 : isWd (t k) = false := by rw [← tx_wd hx (by omega)]; simp [isWd, isDg, h_2, h_3, h_20, h_25, h_31, h_36] <;> exact i_nle.mp (by assumption)
                exact hQ _ (by rw [spn_no h9]; exact h1) (fun _ _ => rfl)
              · replace h_36 : (tc k) = (nI 45) := Decidable.of_not_not h_36
                refine z_ald rfl rfl ?_
                refine z_dup rfl rfl ?_
                refine z_get rfl h1 rfl ?_
                refine z_ico (x := (nI 1)) rfl rfl ?_
                refine z_ibi (v := (nI (k + 1))) rfl (nI_add _ _) ?_
                refine z_put (e := zO 1 [zR (some pb), zI (nI n), zI (nI (k + 1)), zR (some pn)]) rfl h1 (Nat.le_of_ble_eq_true rfl) ⟨_, rfl⟩ rfl ?_
                intro g_37 e_38 f_39
                have k_40 := (f_39 pb (zne h2 h1 (by nofun))).trans h2
                refine z_go rfl ?_
                have h9 : isWd (t k) = true := by rw [← tx_wd hx (by omega)]; simp [isWd, isDg, h_2, h_3, h_20, h_25, h_31, h_36] <;> exact i_nle.mp (by assumption)
                exact ih (by omega) _ e_38 k_40 (fun h' e f => hQ h' (by rw [spn_yes (by omega) h9]; exact e) (fun y hy => (f y hy).trans (f_39 y hy)))
    · replace h_2 : ¬ ((tc k) < (nI 97)) := h_2
      refine z_ald rfl rfl ?_
      refine z_get rfl h1 rfl ?_
      refine z_ald rfl rfl ?_
      refine z_get rfl h1 rfl ?_
      refine z_iald rfl h2 (by omega) (by omega) ?_
      refine z_ico (x := (nI 122)) rfl rfl ?_
      refine z_cmp rfl (fun h_41 => ?_) (fun h_41 => ?_)
      · replace h_41 : (tc k) ≤ (nI 122) := h_41
        refine z_ald rfl rfl ?_
        refine z_dup rfl rfl ?_
        refine z_get rfl h1 rfl ?_
        refine z_ico (x := (nI 1)) rfl rfl ?_
        refine z_ibi (v := (nI (k + 1))) rfl (nI_add _ _) ?_
        refine z_put (e := zO 1 [zR (some pb), zI (nI n), zI (nI (k + 1)), zR (some pn)]) rfl h1 (Nat.le_of_ble_eq_true rfl) ⟨_, rfl⟩ rfl ?_
        intro g_42 e_43 f_44
        have k_45 := (f_44 pb (zne h2 h1 (by nofun))).trans h2
        refine z_go rfl ?_
        have h9 : isWd (t k) = true := by rw [← tx_wd hx (by omega)]; simp [isWd, isDg, h_2, h_41] <;> exact i_nle.mp (by assumption)
        exact ih (by omega) _ e_43 k_45 (fun h' e f => hQ h' (by rw [spn_yes (by omega) h9]; exact e) (fun y hy => (f y hy).trans (f_44 y hy)))
      · replace h_41 : ¬ ((tc k) ≤ (nI 122)) := h_41
        refine z_ald rfl rfl ?_
        refine z_get rfl h1 rfl ?_
        refine z_ald rfl rfl ?_
        refine z_get rfl h1 rfl ?_
        refine z_iald rfl h2 (by omega) (by omega) ?_
        refine z_ico (x := (nI 65)) rfl rfl ?_
        refine z_cmp rfl (fun h_46 => ?_) (fun h_46 => ?_)
        · replace h_46 : (tc k) < (nI 65) := h_46
          refine z_ald rfl rfl ?_
          refine z_get rfl h1 rfl ?_
          refine z_ald rfl rfl ?_
          refine z_get rfl h1 rfl ?_
          refine z_iald rfl h2 (by omega) (by omega) ?_
          refine z_ico (x := (nI 48)) rfl rfl ?_
          refine z_cmp rfl (fun h_47 => ?_) (fun h_47 => ?_)
          · replace h_47 : (tc k) < (nI 48) := h_47
            refine z_ald rfl rfl ?_
            refine z_get rfl h1 rfl ?_
            refine z_ald rfl rfl ?_
            refine z_get rfl h1 rfl ?_
            refine z_iald rfl h2 (by omega) (by omega) ?_
            refine z_ico (x := (nI 45)) rfl rfl ?_
            refine z_cmp rfl (fun h_48 => ?_) (fun h_48 => ?_)
            · replace h_48 : ¬ (tc k) = (nI 45) := h_48
              refine z_rtv rfl ?_
              have h9 : isWd (t k) = false := by rw [← tx_wd hx (by omega)]; simp [isWd, isDg, h_2, h_41, h_46, h_47, h_48] <;> exact i_nle.mp (by assumption)
              exact hQ _ (by rw [spn_no h9]; exact h1) (fun _ _ => rfl)
            · replace h_48 : (tc k) = (nI 45) := Decidable.of_not_not h_48
              refine z_ald rfl rfl ?_
              refine z_dup rfl rfl ?_
              refine z_get rfl h1 rfl ?_
              refine z_ico (x := (nI 1)) rfl rfl ?_
              refine z_ibi (v := (nI (k + 1))) rfl (nI_add _ _) ?_
              refine z_put (e := zO 1 [zR (some pb), zI (nI n), zI (nI (k + 1)), zR (some pn)]) rfl h1 (Nat.le_of_ble_eq_true rfl) ⟨_, rfl⟩ rfl ?_
              intro g_49 e_50 f_51
              have k_52 := (f_51 pb (zne h2 h1 (by nofun))).trans h2
              refine z_go rfl ?_
              have h9 : isWd (t k) = true := by rw [← tx_wd hx (by omega)]; simp [isWd, isDg, h_2, h_41, h_46, h_47, h_48] <;> exact i_nle.mp (by assumption)
              exact ih (by omega) _ e_50 k_52 (fun h' e f => hQ h' (by rw [spn_yes (by omega) h9]; exact e) (fun y hy => (f y hy).trans (f_51 y hy)))
          · replace h_47 : ¬ ((tc k) < (nI 48)) := h_47
            refine z_ald rfl rfl ?_
            refine z_get rfl h1 rfl ?_
            refine z_ald rfl rfl ?_
            refine z_get rfl h1 rfl ?_
            refine z_iald rfl h2 (by omega) (by omega) ?_
            refine z_ico (x := (nI 57)) rfl rfl ?_
            refine z_cmp rfl (fun h_53 => ?_) (fun h_53 => ?_)
            · replace h_53 : (tc k) ≤ (nI 57) := h_53
              refine z_ald rfl rfl ?_
              refine z_dup rfl rfl ?_
              refine z_get rfl h1 rfl ?_
              refine z_ico (x := (nI 1)) rfl rfl ?_
              refine z_ibi (v := (nI (k + 1))) rfl (nI_add _ _) ?_
              refine z_put (e := zO 1 [zR (some pb), zI (nI n), zI (nI (k + 1)), zR (some pn)]) rfl h1 (Nat.le_of_ble_eq_true rfl) ⟨_, rfl⟩ rfl ?_
              intro g_54 e_55 f_56
              have k_57 := (f_56 pb (zne h2 h1 (by nofun))).trans h2
              refine z_go rfl ?_
              have h9 : isWd (t k) = true := by rw [← tx_wd hx (by omega)]; simp [isWd, isDg, h_2, h_41, h_46, h_47, h_53] <;> exact i_nle.mp (by assumption)
              exact ih (by omega) _ e_55 k_57 (fun h' e f => hQ h' (by rw [spn_yes (by omega) h9]; exact e) (fun y hy => (f y hy).trans (f_56 y hy)))
            · replace h_53 : ¬ ((tc k) ≤ (nI 57)) := h_53
              refine z_ald rfl rfl ?_
              refine z_get rfl h1 rfl ?_
              refine z_ald rfl rfl ?_
              refine z_get rfl h1 rfl ?_
              refine z_iald rfl h2 (by omega) (by omega) ?_
              refine z_ico (x := (nI 45)) rfl rfl ?_
              refine z_cmp rfl (fun h_58 => ?_) (fun h_58 => ?_)
              · replace h_58 : ¬ (tc k) = (nI 45) := h_58
                refine z_rtv rfl ?_
                have h9 : isWd (t k) = false := by rw [← tx_wd hx (by omega)]; simp [isWd, isDg, h_2, h_41, h_46, h_47, h_53, h_58] <;> exact i_nle.mp (by assumption)
                exact hQ _ (by rw [spn_no h9]; exact h1) (fun _ _ => rfl)
              · replace h_58 : (tc k) = (nI 45) := Decidable.of_not_not h_58
                refine z_ald rfl rfl ?_
                refine z_dup rfl rfl ?_
                refine z_get rfl h1 rfl ?_
                refine z_ico (x := (nI 1)) rfl rfl ?_
                refine z_ibi (v := (nI (k + 1))) rfl (nI_add _ _) ?_
                refine z_put (e := zO 1 [zR (some pb), zI (nI n), zI (nI (k + 1)), zR (some pn)]) rfl h1 (Nat.le_of_ble_eq_true rfl) ⟨_, rfl⟩ rfl ?_
                intro g_59 e_60 f_61
                have k_62 := (f_61 pb (zne h2 h1 (by nofun))).trans h2
                refine z_go rfl ?_
                have h9 : isWd (t k) = true := by rw [← tx_wd hx (by omega)]; simp [isWd, isDg, h_2, h_41, h_46, h_47, h_53, h_58] <;> exact i_nle.mp (by assumption)
                exact ih (by omega) _ e_60 k_62 (fun h' e f => hQ h' (by rw [spn_yes (by omega) h9]; exact e) (fun y hy => (f y hy).trans (f_61 y hy)))
        · replace h_46 : ¬ ((tc k) < (nI 65)) := h_46
          refine z_ald rfl rfl ?_
          refine z_get rfl h1 rfl ?_
          refine z_ald rfl rfl ?_
          refine z_get rfl h1 rfl ?_
          refine z_iald rfl h2 (by omega) (by omega) ?_
          refine z_ico (x := (nI 90)) rfl rfl ?_
          refine z_cmp rfl (fun h_63 => ?_) (fun h_63 => ?_)
          · replace h_63 : (tc k) ≤ (nI 90) := h_63
            refine z_ald rfl rfl ?_
            refine z_dup rfl rfl ?_
            refine z_get rfl h1 rfl ?_
            refine z_ico (x := (nI 1)) rfl rfl ?_
            refine z_ibi (v := (nI (k + 1))) rfl (nI_add _ _) ?_
            refine z_put (e := zO 1 [zR (some pb), zI (nI n), zI (nI (k + 1)), zR (some pn)]) rfl h1 (Nat.le_of_ble_eq_true rfl) ⟨_, rfl⟩ rfl ?_
            intro g_64 e_65 f_66
            have k_67 := (f_66 pb (zne h2 h1 (by nofun))).trans h2
            refine z_go rfl ?_
            have h9 : isWd (t k) = true := by rw [← tx_wd hx (by omega)]; simp [isWd, isDg, h_2, h_41, h_46, h_63] <;> exact i_nle.mp (by assumption)
            exact ih (by omega) _ e_65 k_67 (fun h' e f => hQ h' (by rw [spn_yes (by omega) h9]; exact e) (fun y hy => (f y hy).trans (f_66 y hy)))
          · replace h_63 : ¬ ((tc k) ≤ (nI 90)) := h_63
            refine z_ald rfl rfl ?_
            refine z_get rfl h1 rfl ?_
            refine z_ald rfl rfl ?_
            refine z_get rfl h1 rfl ?_
            refine z_iald rfl h2 (by omega) (by omega) ?_
            refine z_ico (x := (nI 48)) rfl rfl ?_
            refine z_cmp rfl (fun h_68 => ?_) (fun h_68 => ?_)
            · replace h_68 : (tc k) < (nI 48) := h_68
              refine z_ald rfl rfl ?_
              refine z_get rfl h1 rfl ?_
              refine z_ald rfl rfl ?_
              refine z_get rfl h1 rfl ?_
              refine z_iald rfl h2 (by omega) (by omega) ?_
              refine z_ico (x := (nI 45)) rfl rfl ?_
              refine z_cmp rfl (fun h_69 => ?_) (fun h_69 => ?_)
              · replace h_69 : ¬ (tc k) = (nI 45) := h_69
                refine z_rtv rfl ?_
                have h9 : isWd (t k) = false := by rw [← tx_wd hx (by omega)]; simp [isWd, isDg, h_2, h_41, h_46, h_63, h_68, h_69] <;> exact i_nle.mp (by assumption)
                exact hQ _ (by rw [spn_no h9]; exact h1) (fun _ _ => rfl)
              · replace h_69 : (tc k) = (nI 45) := Decidable.of_not_not h_69
                refine z_ald rfl rfl ?_
                refine z_dup rfl rfl ?_
                refine z_get rfl h1 rfl ?_
                refine z_ico (x := (nI 1)) rfl rfl ?_
                refine z_ibi (v := (nI (k + 1))) rfl (nI_add _ _) ?_
                refine z_put (e := zO 1 [zR (some pb), zI (nI n), zI (nI (k + 1)), zR (some pn)]) rfl h1 (Nat.le_of_ble_eq_true rfl) ⟨_, rfl⟩ rfl ?_
                intro g_70 e_71 f_72
                have k_73 := (f_72 pb (zne h2 h1 (by nofun))).trans h2
                refine z_go rfl ?_
                have h9 : isWd (t k) = true := by rw [← tx_wd hx (by omega)]; simp [isWd, isDg, h_2, h_41, h_46, h_63, h_68, h_69] <;> exact i_nle.mp (by assumption)
                exact ih (by omega) _ e_71 k_73 (fun h' e f => hQ h' (by rw [spn_yes (by omega) h9]; exact e) (fun y hy => (f y hy).trans (f_72 y hy)))
            · replace h_68 : ¬ ((tc k) < (nI 48)) := h_68
              refine z_ald rfl rfl ?_
              refine z_get rfl h1 rfl ?_
              refine z_ald rfl rfl ?_
              refine z_get rfl h1 rfl ?_
              refine z_iald rfl h2 (by omega) (by omega) ?_
              refine z_ico (x := (nI 57)) rfl rfl ?_
              refine z_cmp rfl (fun h_74 => ?_) (fun h_74 => ?_)
              · replace h_74 : (tc k) ≤ (nI 57) := h_74
                refine z_ald rfl rfl ?_
                refine z_dup rfl rfl ?_
                refine z_get rfl h1 rfl ?_
                refine z_ico (x := (nI 1)) rfl rfl ?_
                refine z_ibi (v := (nI (k + 1))) rfl (nI_add _ _) ?_
                refine z_put (e := zO 1 [zR (some pb), zI (nI n), zI (nI (k + 1)), zR (some pn)]) rfl h1 (Nat.le_of_ble_eq_true rfl) ⟨_, rfl⟩ rfl ?_
                intro g_75 e_76 f_77
                have k_78 := (f_77 pb (zne h2 h1 (by nofun))).trans h2
                refine z_go rfl ?_
                have h9 : isWd (t k) = true := by rw [← tx_wd hx (by omega)]; simp [isWd, isDg, h_2, h_41, h_46, h_63, h_68, h_74] <;> exact i_nle.mp (by assumption)
                exact ih (by omega) _ e_76 k_78 (fun h' e f => hQ h' (by rw [spn_yes (by omega) h9]; exact e) (fun y hy => (f y hy).trans (f_77 y hy)))
              · replace h_74 : ¬ ((tc k) ≤ (nI 57)) := h_74
                refine z_ald rfl rfl ?_
                refine z_get rfl h1 rfl ?_
                refine z_ald rfl rfl ?_
                refine z_get rfl h1 rfl ?_
                refine z_iald rfl h2 (by omega) (by omega) ?_
                refine z_ico (x := (nI 45)) rfl rfl ?_
                refine z_cmp rfl (fun h_79 => ?_) (fun h_79 => ?_)
                · replace h_79 : ¬ (tc k) = (nI 45) := h_79
                  refine z_rtv rfl ?_
                  have h9 : isWd (t k) = false := by rw [← tx_wd hx (by omega)]; simp [isWd, isDg, h_2, h_41, h_46, h_63, h_68, h_74, h_79] <;> exact i_nle.mp (by assumption)
                  exact hQ _ (by rw [spn_no h9]; exact h1) (fun _ _ => rfl)
                · replace h_79 : (tc k) = (nI 45) := Decidable.of_not_not h_79
                  refine z_ald rfl rfl ?_
                  refine z_dup rfl rfl ?_
                  refine z_get rfl h1 rfl ?_
                  refine z_ico (x := (nI 1)) rfl rfl ?_
                  refine z_ibi (v := (nI (k + 1))) rfl (nI_add _ _) ?_
                  refine z_put (e := zO 1 [zR (some pb), zI (nI n), zI (nI (k + 1)), zR (some pn)]) rfl h1 (Nat.le_of_ble_eq_true rfl) ⟨_, rfl⟩ rfl ?_
                  intro g_80 e_81 f_82
                  have k_83 := (f_82 pb (zne h2 h1 (by nofun))).trans h2
                  refine z_go rfl ?_
                  have h9 : isWd (t k) = true := by rw [← tx_wd hx (by omega)]; simp [isWd, isDg, h_2, h_41, h_46, h_63, h_68, h_74, h_79] <;> exact i_nle.mp (by assumption)
                  exact ih (by omega) _ e_81 k_83 (fun h' e f => hQ h' (by rw [spn_yes (by omega) h9]; exact e) (fun y hy => (f y hy).trans (f_82 y hy)))
theorem k_X1_skipWord {d : Nat} {h : zH} {p pb pn n a : Nat} {t tc : Nat → Int32} (hx : txR n t tc) (hn : n ≤ 160) (ha : a ≤ n) (h1 : h p = some (rdO pb n a pn)) (h2 : h pb = some (zaI 0 160 tc)) : zCall (d + 1) 22 [zR (some p)] h 0 0 (fun h' o => o = .inl none ∧ h' p = some (rdO pb n (spn isWd t n a) pn) ∧ (∀ y, y ≠ p → h' y = h y)) :=
  zCall.of (d := d) (T := tb_22) (L := [some (zR (some p))]) (Nat.le_of_ble_eq_true rfl) rfl rfl (kl_skw hx hn a ha h h1 h2 (fun h' e f => ⟨rfl, e, f⟩))
