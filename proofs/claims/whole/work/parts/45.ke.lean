/-- a number of at most nine digits, with no 0 before others -/
def nmOK (t : Nat → Int32) (n a : Nat) : Prop := a < spn isDg t n a ∧ spn isDg t n a - a ≤ 9 ∧ (1 < spn isDg t n a - a → ¬ t a = nI 48)
def nmN (t : Nat → Int32) (n a : Nat) : Nat := dgN (fun j => t (a + j)) (spn isDg t n a - a)
theorem dgv_sh (t : Nat → Int32) (a : Nat) : ∀ m, dgv t a m = dgv (fun j => t (a + j)) 0 m
  | 0 => rfl
  | m + 1 => by rw [dgv, dgv, dgv_sh t a m, Nat.zero_add]
theorem nm_all {t : Nat → Int32} {n a : Nat} : alld (fun j => t (a + j)) (spn isDg t n a - a) 0 = true := alld_of _ (fun j hj => spn_all (n := n) (a := a) (by omega) (by omega))
theorem nm_val {t : Nat → Int32} {n a : Nat} (h : spn isDg t n a - a ≤ 9) : dgv t a (spn isDg t n a - a) = nI (nmN t n a) := by rw [dgv_sh, dgv_N _ h nm_all]; rfl
theorem nm_lt {t : Nat → Int32} {n a : Nat} (h : nmOK t n a) : nmN t n a < 2 ^ 31 := dgN_b h.2.1 nm_all
def isPk (x : Int32) : Bool := decide (0 ≤ x ∧ x < nI 8)
/-- which package's digit is there -/
def dpk (n : Nat) (t : Nat → Int32) (a q : Nat) : Prop := a < n ∧ q < 8 ∧ t a = nI (48 + q)
theorem isPk_of {x : Int32} (h : isPk x = true) : ∃ q, q < 8 ∧ x = nI q := by
  have h := of_decide_eq_true h
  obtain ⟨j, hj, e⟩ := nI_of (i_le_n.mpr h.1)
  subst e
  exact ⟨j, (nI_ltI hj (by omega)).mp h.2, rfl⟩
theorem isPk_n {q : Nat} (h : q < 8) : isPk (nI q) = true := decide_eq_true ⟨i_le_n.mp (fun g => by have := (nI_ltI (a := q) (b := 0) (by omega) (by omega)).mp g; omega), (nI_ltI (by omega) (by omega)).mpr h⟩
theorem i_sub_add (x y : Int32) : x - y + y = x := by
  apply Int32.toBitVec_inj.mp
  simp
theorem dpk_t {n a : Nat} {t tc : Nat → Int32} (hx : txR n t tc) (ha : a < n) (h : isPk (tc a - nI 48) = true) : ∃ q, dpk n t a q ∧ tc a - nI 48 = nI q := by
  obtain ⟨q, hq, e⟩ := isPk_of h
  have e2 : tc a = nI (48 + q) := by rw [← i_sub_add (tc a) (nI 48), e, nI_add, Nat.add_comm]
  exact ⟨q, ⟨ha, hq, (tx_eq hx ha (by omega)).mp e2⟩, e⟩
theorem dpk_f {n a : Nat} {t tc : Nat → Int32} (hx : txR n t tc) (ha : a < n) (h : isPk (tc a - nI 48) = false) : ∀ q, ¬ dpk n t a q := by
  intro q hq
  have e := (tx_eq hx ha (by have := hq.2.1; omega)).mpr hq.2.2
  rw [e, pk_sub (by omega), Nat.add_sub_cancel_left, isPk_n hq.2.1] at h
  cases h
def upTo (f : Nat → Int32) (x : Int32) (k : Nat) : Nat → Int32 := fun j => if j < k then x else f j
theorem upTo_s (f : Nat → Int32) (x : Int32) (k : Nat) : upd (upTo f x k) k x = upTo f x (k + 1) := by
  funext j
  unfold upd upTo
  by_cases e : j = k
  · subst e
    simp
  · by_cases g : j < k
    · simp [e, g, show j < k + 1 by omega]
    · simp [e, g, show ¬ j < k + 1 by omega]
theorem upTo_0 (f : Nat → Int32) (x : Int32) : upTo f x 0 = f := by
  funext j
  unfold upTo
  simp
set_option maxHeartbeats 1000000 in
theorem kl_number {d : Nat} {Q : zQ}  {p pb pn n a : Nat} {t tc : Nat → Int32} (hx : txR n t tc) (hn : n ≤ 160)  : ∀ k, k ≤ n → ∀ (h : zH) (h1 : h p = some (rdO pb n k pn)) (h2 : h pb = some (zaI 0 160 tc)) (ha : a ≤ k) (hs : spn isDg t n a = spn isDg t n k) (hQ1 : nmOK t n a → ∀ h', h' p = some (rdO pb n (spn isDg t n a) pn) → (∀ y, y ≠ p → h' y = h y) → Q h' (.inl (some (zI (dgv t a (spn isDg t n a - a)))))) (hQ2 : ¬ nmOK t n a → ∀ h', h' p = some (rdO pb n (spn isDg t n a) pn) → (∀ y, y ≠ p → h' y = h y) → Q h' (.inl (some (zI (-1))))), zEv d tb_17 0 0 Q 7 [some (zR (some p)), some (zI (nI a)), some (zI (dgv t a (k - a))), none] [] h 0 0 := by
  refine dn n (fun k hk ih h h1 h2 ha hs hQ1 hQ2 => ?_)
  refine z_ald rfl rfl ?_
  refine z_get rfl h1 rfl ?_
  refine z_ald rfl rfl ?_
  refine z_get rfl h1 rfl ?_
  refine z_cmpN (by omega) (by omega) rfl (fun h_1 => ?_) (fun h_1 => ?_)
  · replace h_1 : n ≤ k := h_1
    have he : spn isDg t n a = k := hs.trans (spn_end (by omega))
    refine z_ald rfl rfl ?_
    refine z_get rfl h1 rfl ?_
    refine z_ild rfl rfl ?_
    refine z_ibi (v := (nI (k - a))) rfl (pk_sub (by omega)) ?_
    refine z_ist (ls' := [some (zR (some p)), some (zI (nI a)), some (zI (dgv t a (k - a))), some (zI (nI (k - a)))]) rfl (Nat.le_of_ble_eq_true rfl) rfl ?_
    refine z_ild rfl rfl ?_
    refine z_ifN (by omega) rfl (fun h_2 => ?_) (fun h_2 => ?_)
    · replace h_2 : k - a = 0 := h_2
      refine z_ico (x := (-1)) rfl rfl ?_
      refine z_ret rfl ⟨_, rfl⟩ ?_
      exact hQ2 (fun g => by rw [nmOK, he] at g; omega) _ (by rw [he]; exact h1) (fun _ _ => rfl)
    · replace h_2 : ¬ (k - a = 0) := h_2
      refine z_ild rfl rfl ?_
      refine z_ico (x := (nI 9)) rfl rfl ?_
      refine z_cmpN (by omega) (by omega) rfl (fun h_3 => ?_) (fun h_3 => ?_)
      · replace h_3 : k - a ≤ 9 := h_3
        refine z_ild rfl rfl ?_
        refine z_ico (x := (nI 1)) rfl rfl ?_
        refine z_cmpN (by omega) (by omega) rfl (fun h_4 => ?_) (fun h_4 => ?_)
        · replace h_4 : k - a ≤ 1 := h_4
          refine z_ild rfl rfl ?_
          refine z_ret rfl ⟨_, rfl⟩ ?_
          rw [he] at hQ1
          exact hQ1 (by rw [nmOK, he]; exact ⟨by omega, by omega, fun g => by omega⟩) _ h1 (fun _ _ => rfl)
        · replace h_4 := Nat.not_le.mp h_4
          refine z_ald rfl rfl ?_
          refine z_get rfl h1 rfl ?_
          refine z_ild rfl rfl ?_
          refine z_iald rfl h2 (by omega) (by omega) ?_
          refine z_ico (x := (nI 48)) rfl rfl ?_
          refine z_cmp rfl (fun h_5 => ?_) (fun h_5 => ?_)
          · replace h_5 : ¬ (tc a) = (nI 48) := h_5
            refine z_ild rfl rfl ?_
            refine z_ret rfl ⟨_, rfl⟩ ?_
            rw [he] at hQ1
            exact hQ1 (by rw [nmOK, he]; exact ⟨by omega, by omega, fun _ g => h_5 ((tx_eq hx (by omega) (by omega)).mpr g)⟩) _ h1 (fun _ _ => rfl)
          · replace h_5 : (tc a) = (nI 48) := Decidable.of_not_not h_5
            refine z_ico (x := (-1)) rfl rfl ?_
            refine z_go rfl ?_
            refine z_ret rfl ⟨_, rfl⟩ ?_
            exact hQ2 (fun g => by rw [nmOK, he] at g; exact g.2.2 (by omega) ((tx_eq hx (by omega) (by omega)).mp h_5)) _ (by rw [he]; exact h1) (fun _ _ => rfl)
      · replace h_3 := Nat.not_le.mp h_3
        refine z_ico (x := (-1)) rfl rfl ?_
        refine z_ret rfl ⟨_, rfl⟩ ?_
        exact hQ2 (fun g => by rw [nmOK, he] at g; omega) _ (by rw [he]; exact h1) (fun _ _ => rfl)
  · replace h_1 := Nat.not_le.mp h_1
    refine z_ald rfl rfl ?_
    refine z_get rfl h1 rfl ?_
    refine z_ald rfl rfl ?_
    refine z_get rfl h1 rfl ?_
    refine z_iald rfl h2 (by omega) (by omega) ?_
    refine z_ico (x := (nI 48)) rfl rfl ?_
    refine z_cmp rfl (fun h_6 => ?_) (fun h_6 => ?_)
    · replace h_6 : (tc k) < (nI 48) := h_6
      have he : spn isDg t n a = k := hs.trans (spn_no (by rw [← tx_dg hx (by omega)]; simp [isDg, h_6]))
      refine z_ald rfl rfl ?_
      refine z_get rfl h1 rfl ?_
      refine z_ild rfl rfl ?_
      refine z_ibi (v := (nI (k - a))) rfl (pk_sub (by omega)) ?_
      refine z_ist (ls' := [some (zR (some p)), some (zI (nI a)), some (zI (dgv t a (k - a))), some (zI (nI (k - a)))]) rfl (Nat.le_of_ble_eq_true rfl) rfl ?_
      refine z_ild rfl rfl ?_
      refine z_ifN (by omega) rfl (fun h_7 => ?_) (fun h_7 => ?_)
      · replace h_7 : k - a = 0 := h_7
        refine z_ico (x := (-1)) rfl rfl ?_
        refine z_ret rfl ⟨_, rfl⟩ ?_
        exact hQ2 (fun g => by rw [nmOK, he] at g; omega) _ (by rw [he]; exact h1) (fun _ _ => rfl)
      · replace h_7 : ¬ (k - a = 0) := h_7
        refine z_ild rfl rfl ?_
        refine z_ico (x := (nI 9)) rfl rfl ?_
        refine z_cmpN (by omega) (by omega) rfl (fun h_8 => ?_) (fun h_8 => ?_)
        · replace h_8 : k - a ≤ 9 := h_8
          refine z_ild rfl rfl ?_
          refine z_ico (x := (nI 1)) rfl rfl ?_
          refine z_cmpN (by omega) (by omega) rfl (fun h_9 => ?_) (fun h_9 => ?_)
          · replace h_9 : k - a ≤ 1 := h_9
            refine z_ild rfl rfl ?_
            refine z_ret rfl ⟨_, rfl⟩ ?_
            rw [he] at hQ1
            exact hQ1 (by rw [nmOK, he]; exact ⟨by omega, by omega, fun g => by omega⟩) _ h1 (fun _ _ => rfl)
          · replace h_9 := Nat.not_le.mp h_9
            refine z_ald rfl rfl ?_
            refine z_get rfl h1 rfl ?_
            refine z_ild rfl rfl ?_
            refine z_iald rfl h2 (by omega) (by omega) ?_
            refine z_ico (x := (nI 48)) rfl rfl ?_
            refine z_cmp rfl (fun h_10 => ?_) (fun h_10 => ?_)
            · replace h_10 : ¬ (tc a) = (nI 48) := h_10
              refine z_ild rfl rfl ?_
              refine z_ret rfl ⟨_, rfl⟩ ?_
              rw [he] at hQ1
              exact hQ1 (by rw [nmOK, he]; exact ⟨by omega, by omega, fun _ g => h_10 ((tx_eq hx (by omega) (by omega)).mpr g)⟩) _ h1 (fun _ _ => rfl)
            · replace h_10 : (tc a) = (nI 48) := Decidable.of_not_not h_10
              refine z_ico (x := (-1)) rfl rfl ?_
              refine z_go rfl ?_
              refine z_ret rfl ⟨_, rfl⟩ ?_
              exact hQ2 (fun g => by rw [nmOK, he] at g; exact g.2.2 (by omega) ((tx_eq hx (by omega) (by omega)).mp h_10)) _ (by rw [he]; exact h1) (fun _ _ => rfl)
        · replace h_8 := Nat.not_le.mp h_8
          refine z_ico (x := (-1)) rfl rfl ?_
          refine z_ret rfl ⟨_, rfl⟩ ?_
          exact hQ2 (fun g => by rw [nmOK, he] at g; omega) _ (by rw [he]; exact h1) (fun _ _ => rfl)
    · replace h_6 : ¬ ((tc k) < (nI 48)) := h_6
      refine z_ald rfl rfl ?_
      refine z_get rfl h1 rfl ?_
      refine z_ald rfl rfl ?_
      refine z_get rfl h1 rfl ?_
      refine z_iald rfl h2 (by omega) (by omega) ?_
      refine z_ico (x := (nI 57)) rfl rfl ?_
      refine z_cmp rfl (fun h_11 => ?_) (fun h_11 => ?_)
      · replace h_11 : (nI 57) < (tc k) := h_11
        have he : spn isDg t n a = k := hs.trans (spn_no (by rw [← tx_dg hx (by omega)]; simp [isDg, h_6, h_11]))
        refine z_ald rfl rfl ?_
        refine z_get rfl h1 rfl ?_
        refine z_ild rfl rfl ?_
        refine z_ibi (v := (nI (k - a))) rfl (pk_sub (by omega)) ?_
        refine z_ist (ls' := [some (zR (some p)), some (zI (nI a)), some (zI (dgv t a (k - a))), some (zI (nI (k - a)))]) rfl (Nat.le_of_ble_eq_true rfl) rfl ?_
        refine z_ild rfl rfl ?_
        refine z_ifN (by omega) rfl (fun h_12 => ?_) (fun h_12 => ?_)
        · replace h_12 : k - a = 0 := h_12
          refine z_ico (x := (-1)) rfl rfl ?_
          refine z_ret rfl ⟨_, rfl⟩ ?_
          exact hQ2 (fun g => by rw [nmOK, he] at g; omega) _ (by rw [he]; exact h1) (fun _ _ => rfl)
        · replace h_12 : ¬ (k - a = 0) := h_12
          refine z_ild rfl rfl ?_
          refine z_ico (x := (nI 9)) rfl rfl ?_
          refine z_cmpN (by omega) (by omega) rfl (fun h_13 => ?_) (fun h_13 => ?_)
          · replace h_13 : k - a ≤ 9 := h_13
            refine z_ild rfl rfl ?_
            refine z_ico (x := (nI 1)) rfl rfl ?_
            refine z_cmpN (by omega) (by omega) rfl (fun h_14 => ?_) (fun h_14 => ?_)
            · replace h_14 : k - a ≤ 1 := h_14
              refine z_ild rfl rfl ?_
              refine z_ret rfl ⟨_, rfl⟩ ?_
              rw [he] at hQ1
              exact hQ1 (by rw [nmOK, he]; exact ⟨by omega, by omega, fun g => by omega⟩) _ h1 (fun _ _ => rfl)
            · replace h_14 := Nat.not_le.mp h_14
              refine z_ald rfl rfl ?_
              refine z_get rfl h1 rfl ?_
              refine z_ild rfl rfl ?_
              refine z_iald rfl h2 (by omega) (by omega) ?_
              refine z_ico (x := (nI 48)) rfl rfl ?_
              refine z_cmp rfl (fun h_15 => ?_) (fun h_15 => ?_)
              · replace h_15 : ¬ (tc a) = (nI 48) := h_15
                refine z_ild rfl rfl ?_
                refine z_ret rfl ⟨_, rfl⟩ ?_
                rw [he] at hQ1
                exact hQ1 (by rw [nmOK, he]; exact ⟨by omega, by omega, fun _ g => h_15 ((tx_eq hx (by omega) (by omega)).mpr g)⟩) _ h1 (fun _ _ => rfl)
              · replace h_15 : (tc a) = (nI 48) := Decidable.of_not_not h_15
                refine z_ico (x := (-1)) rfl rfl ?_
                refine z_go rfl ?_
                refine z_ret rfl ⟨_, rfl⟩ ?_
                exact hQ2 (fun g => by rw [nmOK, he] at g; exact g.2.2 (by omega) ((tx_eq hx (by omega) (by omega)).mp h_15)) _ (by rw [he]; exact h1) (fun _ _ => rfl)
          · replace h_13 := Nat.not_le.mp h_13
            refine z_ico (x := (-1)) rfl rfl ?_
            refine z_ret rfl ⟨_, rfl⟩ ?_
            exact hQ2 (fun g => by rw [nmOK, he] at g; omega) _ (by rw [he]; exact h1) (fun _ _ => rfl)
      · replace h_11 : ¬ ((nI 57) < (tc k)) := h_11
        refine z_ico (x := (nI 10)) rfl rfl ?_
        refine z_ild rfl rfl ?_
        refine z_ibi (v := ((nI 10) * (dgv t a (k - a)))) rfl rfl ?_
        refine z_ald rfl rfl ?_
        refine z_get rfl h1 rfl ?_
        refine z_ald rfl rfl ?_
        refine z_get rfl h1 rfl ?_
        refine z_iald rfl h2 (by omega) (by omega) ?_
        refine z_ibi (v := (((nI 10) * (dgv t a (k - a))) + (tc k))) rfl rfl ?_
        refine z_ico (x := (nI 48)) rfl rfl ?_
        refine z_ibi (v := ((((nI 10) * (dgv t a (k - a))) + (tc k)) - (nI 48))) rfl rfl ?_
        refine z_ist (ls' := [some (zR (some p)), some (zI (nI a)), some (zI ((((nI 10) * (dgv t a (k - a))) + (tc k)) - (nI 48))), none]) rfl (Nat.le_of_ble_eq_true rfl) rfl ?_
        refine z_ald rfl rfl ?_
        refine z_dup rfl rfl ?_
        refine z_get rfl h1 rfl ?_
        refine z_ico (x := (nI 1)) rfl rfl ?_
        refine z_ibi (v := (nI (k + 1))) rfl (nI_add _ _) ?_
        refine z_put (e := zO 1 [zR (some pb), zI (nI n), zI (nI (k + 1)), zR (some pn)]) rfl h1 (Nat.le_of_ble_eq_true rfl) ⟨_, rfl⟩ rfl ?_
        intro g_16 e_17 f_18
        have k_19 := (f_18 pb (zne h2 h1 (by nofun))).trans h2
        refine z_go rfl ?_
        have h9 : isDg (t k) = true := by rw [← tx_dg hx (by omega)]; simp [isDg, i_le_n, i_nle, h_6, h_11]
        have h8 : nI 10 * dgv t a (k - a) + tc k - nI 48 = dgv t a (k + 1 - a) := by
          rw [show k + 1 - a = (k - a) + 1 by omega, dgv, show a + (k - a) = k by omega, tx_id hx (by omega) (dg_wd h9)]
        refine z_ok (ls' := [some (zR (some p)), some (zI (nI a)), some (zI (dgv t a (k + 1 - a))), none]) (by rw [← h8]) ?_
        exact ih (by omega) _ e_17 k_19 (by omega) (hs.trans (spn_yes (by omega) h9)) (fun g h' e f => hQ1 g h' e (fun y hy => (f y hy).trans (f_18 y hy))) (fun g h' e f => hQ2 g h' e (fun y hy => (f y hy).trans (f_18 y hy)))
set_option maxHeartbeats 1000000 in
theorem k_X1_number {d : Nat} {h : zH} {p pb pn n a : Nat} {t tc : Nat → Int32} (hx : txR n t tc) (hn : n ≤ 160) (ha : a ≤ n) (h1 : h p = some (rdO pb n a pn)) (h2 : h pb = some (zaI 0 160 tc)) : zCall (d + 1) 17 [zR (some p)] h 0 0 (fun h' o => (o = .inl (some (zI (nI (nmN t n a)))) ∧ nmOK t n a ∧ h' p = some (rdO pb n (spn isDg t n a) pn) ∧ (∀ y, y ≠ p → h' y = h y)) ∨ (o = .inl (some (zI (-1))) ∧ ¬ nmOK t n a ∧ h' p = some (rdO pb n (spn isDg t n a) pn) ∧ (∀ y, y ≠ p → h' y = h y))) := by
  refine zCall.of (d := d) (T := tb_17) (L := [some (zR (some p)), none, none, none]) (Nat.le_of_ble_eq_true rfl) rfl rfl ?_
  refine z_ald rfl rfl ?_
  refine z_get rfl h1 rfl ?_
  refine z_ist (ls' := [some (zR (some p)), some (zI (nI a)), none, none]) rfl (Nat.le_of_ble_eq_true rfl) rfl ?_
  refine z_ico (x := (nI 0)) rfl rfl ?_
  refine z_ist (ls' := [some (zR (some p)), some (zI (nI a)), some (zI (nI 0)), none]) rfl (Nat.le_of_ble_eq_true rfl) rfl ?_
  refine z_ok (ls' := [some (zR (some p)), some (zI (nI a)), some (zI (dgv t a (a - a))), none]) (by rw [Nat.sub_self]; rfl) ?_
  exact kl_number hx hn a ha h h1 h2 (Nat.le_refl _) rfl (fun g h' e f => Or.inl ⟨by rw [nm_val g.2.1], g, e, f⟩) (fun g h' e f => Or.inr ⟨rfl, g, e, f⟩)
set_option maxHeartbeats 1000000 in
theorem k_X9_isPack {d : Nat} {h : zH} {x : Int32}  : zPure (d + 1) 95 [zI (x)] h (some (zI (bI (isPk x)))) := by
  refine zCall.of (d := d) (T := tb_95) (L := [some (zI (x))]) (Nat.le_of_ble_eq_true rfl) rfl rfl ?_
  refine z_ild rfl rfl ?_
  refine z_if rfl (fun h_1 => ?_) (fun h_1 => ?_)
  · replace h_1 : (x) < 0 := h_1
    refine z_ico (x := (nI 0)) rfl rfl ?_
    refine z_ret rfl ⟨_, rfl, Or.inl rfl⟩ ?_
    exact ⟨rfl, rt_f (decide_eq_false (fun g => i_nlt h_1 g.1))⟩
  · replace h_1 : ¬ ((x) < 0) := h_1
    refine z_ild rfl rfl ?_
    refine z_ico (x := (nI 8)) rfl rfl ?_
    refine z_cmp rfl (fun h_2 => ?_) (fun h_2 => ?_)
    · replace h_2 : (nI 8) ≤ (x) := h_2
      refine z_ico (x := (nI 0)) rfl rfl ?_
      refine z_ret rfl ⟨_, rfl, Or.inl rfl⟩ ?_
      exact ⟨rfl, rt_f (decide_eq_false (fun g => i_nle.mpr g.2 h_2))⟩
    · replace h_2 : ¬ ((nI 8) ≤ (x)) := h_2
      refine z_ico (x := (nI 1)) rfl rfl ?_
      refine z_go rfl ?_
      refine z_ret rfl ⟨_, rfl, Or.inr rfl⟩ ?_
      exact ⟨rfl, rt_t (decide_eq_true ⟨i_le_n.mp h_1, i_nle.mp h_2⟩)⟩
set_option maxHeartbeats 1000000 in
theorem k_X1_digitOfPack {d : Nat} {h : zH} {p pb pn n a : Nat} {t tc : Nat → Int32} (hx : txR n t tc) (hn : n ≤ 160) (ha : a ≤ n) (h1 : h p = some (rdO pb n a pn)) (h2 : h pb = some (zaI 0 160 tc)) : zCall (d + 2) 24 [zR (some p)] h 0 0 (fun h' o => (∃ q, o = .inl (some (zI (nI q))) ∧ dpk n t a q ∧ h' p = some (rdO pb n (a + 1) pn) ∧ (∀ y, y ≠ p → h' y = h y)) ∨ (o = .inl (some (zI (-1))) ∧ (∀ q, ¬ dpk n t a q) ∧ h = h')) := by
  refine zCall.of (d := d + 1) (T := tb_24) (L := [some (zR (some p))]) (Nat.le_of_ble_eq_true rfl) rfl rfl ?_
  refine z_ald rfl rfl ?_
  refine z_get rfl h1 rfl ?_
  refine z_ald rfl rfl ?_
  refine z_get rfl h1 rfl ?_
  refine z_cmpN (by omega) (by omega) rfl (fun h_1 => ?_) (fun h_1 => ?_)
  · replace h_1 : n ≤ a := h_1
    refine z_ico (x := (-1)) rfl rfl ?_
    refine z_ret rfl ⟨_, rfl⟩ ?_
    exact Or.inr ⟨rfl, fun q g => by have := g.1; omega, rfl⟩
  · replace h_1 := Nat.not_le.mp h_1
    refine z_ald rfl rfl ?_
    refine z_get rfl h1 rfl ?_
    refine z_ald rfl rfl ?_
    refine z_get rfl h1 rfl ?_
    refine z_iald rfl h2 (by omega) (by omega) ?_
    refine z_ico (x := (nI 48)) rfl rfl ?_
    refine z_ibi (v := ((tc a) - (nI 48))) rfl rfl ?_
    refine z_callF (as := [zI ((tc a) - (nI 48))]) (r := []) (v := some (zI (bI (isPk ((tc a) - (nI 48)))))) rfl rfl rfl (Nat.le_of_ble_eq_true rfl) (by omega) (by omega) (rc1 rfl) k_X9_isPack ?_
    refine z_ifB1 rfl (fun h_2 => ?_) (fun h_2 => ?_)
    · refine z_ald rfl rfl ?_
      refine z_dup rfl rfl ?_
      refine z_get rfl h1 rfl ?_
      refine z_ico (x := (nI 1)) rfl rfl ?_
      refine z_ibi (v := (nI (a + 1))) rfl (nI_add _ _) ?_
      refine z_put (e := zO 1 [zR (some pb), zI (nI n), zI (nI (a + 1)), zR (some pn)]) rfl h1 (Nat.le_of_ble_eq_true rfl) ⟨_, rfl⟩ rfl ?_
      intro g_3 e_4 f_5
      have k_6 := (f_5 pb (zne h2 h1 (by nofun))).trans h2
      refine z_ald rfl rfl ?_
      refine z_get rfl e_4 rfl ?_
      refine z_ald rfl rfl ?_
      refine z_get rfl e_4 rfl ?_
      refine z_ico (x := (nI 1)) rfl rfl ?_
      refine z_ibi (v := (nI (a + 1 - 1))) rfl (pk_sub (by omega)) ?_
      refine z_top (v2 := zI (nI a)) (congrArg zI (congrArg nI (by omega))) ?_
      refine z_iald rfl k_6 (by omega) (by omega) ?_
      refine z_ico (x := (nI 48)) rfl rfl ?_
      refine z_ibi (v := ((tc a) - (nI 48))) rfl rfl ?_
      refine z_ret rfl ⟨_, rfl⟩ ?_
      obtain ⟨q, hq, e⟩ := dpk_t hx (by omega) h_2
      exact Or.inl ⟨q, by rw [← e], hq, e_4, f_5⟩
    · refine z_ico (x := (-1)) rfl rfl ?_
      refine z_ret rfl ⟨_, rfl⟩ ?_
      exact Or.inr ⟨rfl, dpk_f hx (by omega) h_2, rfl⟩
set_option maxHeartbeats 1000000 in
theorem kl_fill {d : Nat} {Q : zQ}  {p m : Nat} {f : Nat → Int32} {x : Int32} (hm : m < 1000)  : ∀ k, k ≤ m → ∀ (h : zH) (h1 : h p = some (zaI 1 m (upTo f x k))) (hQ : ∀ h', h' p = some (zaI 1 m (upTo f x m)) → (∀ y, y ≠ p → h' y = h y) → Q h' (.inl none)), zEv d tb_2 0 0 Q 5 [some (zR (some p)), some (zI (x)), some (zI (nI k)), some (zI (nI m))] [] h 0 0 := by
  refine dn m (fun k hk ih h h1 hQ => ?_)
  refine z_ild rfl rfl ?_
  refine z_ild rfl rfl ?_
  refine z_cmpN (by omega) (by omega) rfl (fun h_1 => ?_) (fun h_1 => ?_)
  · replace h_1 : m ≤ k := h_1
    refine z_rtv rfl ?_
    have e : k = m := by omega
    subst e
    exact hQ _ h1 (fun _ _ => rfl)
  · replace h_1 := Nat.not_le.mp h_1
    refine z_ald rfl rfl ?_
    refine z_ild rfl rfl ?_
    refine z_ild rfl rfl ?_
    refine z_iast (x' := (x)) rfl h1 (by omega) (by omega) rfl ?_
    intro g_2 e_3 f_4
    refine z_inc (x' := (nI (k + 1))) (ls' := [some (zR (some p)), some (zI (x)), some (zI (nI (k + 1))), some (zI (nI m))]) rfl rfl (nI_1 _) rfl ?_
    refine z_go rfl ?_
    exact ih (by omega) _ (e_3.trans (by rw [upTo_s])) (fun h' e f => hQ h' e (fun y hy => (f y hy).trans (f_4 y hy)))
set_option maxHeartbeats 1000000 in
theorem k_J7_fill_53178 {d : Nat} {h : zH} {p m : Nat} {f : Nat → Int32} {x : Int32} (hm : m < 1000) (h1 : h p = some (zaI 1 m f)) : zCall (d + 1) 2 [zR (some p), zI (x)] h 0 0 (fun h' o => o = .inl none ∧ h' p = some (zaI 1 m (upTo f x m)) ∧ (∀ y, y ≠ p → h' y = h y)) := by
  refine zCall.of (d := d) (T := tb_2) (L := [some (zR (some p)), some (zI (x)), none, none]) (Nat.le_of_ble_eq_true rfl) rfl rfl ?_
  refine z_ico (x := (nI 0)) rfl rfl ?_
  refine z_ist (ls' := [some (zR (some p)), some (zI (x)), some (zI (nI 0)), none]) rfl (Nat.le_of_ble_eq_true rfl) rfl ?_
  refine z_ald rfl rfl ?_
  refine z_len (m := m) rfl (by rw [h1]; rfl) ?_
  refine z_ist (ls' := [some (zR (some p)), some (zI (x)), some (zI (nI 0)), some (zI (nI m))]) rfl (Nat.le_of_ble_eq_true rfl) rfl ?_
  exact kl_fill hm 0 (by omega) h (by rw [upTo_0]; exact h1) (fun h' e f => ⟨rfl, e, f⟩)
