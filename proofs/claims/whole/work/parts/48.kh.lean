/-- a point that a number may stand behind -/
def ptS (n : Nat) (t : Nat → Int32) (e : Nat) : Prop := atc n t e 46 ∧ ¬ atc n t (e + 1) 42
def nb1 (t : Nat → Int32) (n a : Nat) : Prop := nmOK t n a ∧ ¬ ptS n t (spn isDg t n a)
def nb2 (t : Nat → Int32) (n a : Nat) : Prop := nmOK t n a ∧ ptS n t (spn isDg t n a) ∧ nb1 t n (spn isDg t n a + 1)
def nb3 (t : Nat → Int32) (n a : Nat) : Prop := nmOK t n a ∧ ptS n t (spn isDg t n a) ∧ nmOK t n (spn isDg t n a + 1) ∧ ptS n t (spn isDg t n (spn isDg t n a + 1)) ∧ nmOK t n (spn isDg t n (spn isDg t n a + 1) + 1)
def nb0 (t : Nat → Int32) (n a : Nat) : Prop := ¬ nmOK t n a ∨ (ptS n t (spn isDg t n a) ∧ (¬ nmOK t n (spn isDg t n a + 1) ∨ (ptS n t (spn isDg t n (spn isDg t n a + 1)) ∧ ¬ nmOK t n (spn isDg t n (spn isDg t n a + 1) + 1))))
theorem pt_no1 {n e : Nat} {t : Nat → Int32} (h : decide (atc n t e 46) = false) : ¬ ptS n t e := fun g => of_decide_eq_false h g.1
theorem pt_no2 {n e : Nat} {t : Nat → Int32} (h : decide (atc n t (e + 1) 42) = true) : ¬ ptS n t e := fun g => g.2 (of_decide_eq_true h)
theorem pt_yes {n e : Nat} {t : Nat → Int32} (h : decide (atc n t e 46) = true) (h' : decide (atc n t (e + 1) 42) = false) : ptS n t e := ⟨of_decide_eq_true h, of_decide_eq_false h'⟩
theorem at_lt {n e c : Nat} {t : Nat → Int32} (h : decide (atc n t e c) = true) : e < n := (of_decide_eq_true h).1
/-- the sign that is there: the class's number of it, and what is behind it -/
def sgC (n : Nat) (t : Nat → Int32) (a : Nat) : Nat × Nat :=
  if atc n t a 126 then (1, a + 1) else if atc n t a 61 then (2, a + 1)
  else if atc n t a 62 then (if atc n t (a + 1) 61 then (4, a + 1 + 1) else (3, a + 1))
  else if atc n t a 60 then (if atc n t (a + 1) 61 then (6, a + 1 + 1) else (5, a + 1))
  else if atc n t a 94 then (0, a + 1) else (0, a)
set_option maxHeartbeats 4000000 in
theorem k_X1_numbers {d : Nat} {h : zH} {p pb pn n a : Nat} {t tc : Nat → Int32} {nf : Nat → Int32} (hx : txR n t tc) (hn : n ≤ 160) (ha : a ≤ n) (h1 : h p = some (rdO pb n a pn)) (h2 : h pb = some (zaI 0 160 tc)) (h3 : h pn = some (zaI 1 3 nf)) : zCall (d + 2) 16 [zR (some p)] h 0 0 (fun h' o => (o = .inl (some (zI (nI 0))) ∧ nb0 t n a ∧ ∃ b F, b ≤ n ∧ h' p = some (rdO pb n b pn) ∧ h' pn = some (zaI 1 3 F) ∧ (∀ y, y ≠ p → y ≠ pn → h' y = h y)) ∨ (o = .inl (some (zI (nI 1))) ∧ nb1 t n a ∧ h' p = some (rdO pb n (spn isDg t n a) pn) ∧ ∃ F, h' pn = some (zaI 1 3 F) ∧ (F 0 = nI (nmN t n a) ∧ F 1 = nI (0) ∧ F 2 = nI (0)) ∧ (∀ y, y ≠ p → y ≠ pn → h' y = h y)) ∨ (o = .inl (some (zI (nI 2))) ∧ nb2 t n a ∧ h' p = some (rdO pb n (spn isDg t n (spn isDg t n a + 1)) pn) ∧ ∃ F, h' pn = some (zaI 1 3 F) ∧ (F 0 = nI (nmN t n a) ∧ F 1 = nI (nmN t n (spn isDg t n a + 1)) ∧ F 2 = nI (0)) ∧ (∀ y, y ≠ p → y ≠ pn → h' y = h y)) ∨ (o = .inl (some (zI (nI 3))) ∧ nb3 t n a ∧ h' p = some (rdO pb n (spn isDg t n (spn isDg t n (spn isDg t n a + 1) + 1)) pn) ∧ ∃ F, h' pn = some (zaI 1 3 F) ∧ (F 0 = nI (nmN t n a) ∧ F 1 = nI (nmN t n (spn isDg t n a + 1)) ∧ F 2 = nI (nmN t n (spn isDg t n (spn isDg t n a + 1) + 1))) ∧ (∀ y, y ≠ p → y ≠ pn → h' y = h y))) := by
  refine zCall.of (d := d + 1) (T := tb_16) (L := [some (zR (some p)), none, none]) (Nat.le_of_ble_eq_true rfl) rfl rfl ?_
  refine z_ald rfl rfl ?_
  refine z_get rfl h1 rfl ?_
  refine z_ico (x := (nI 0)) rfl rfl ?_
  refine z_call (as := [zR (some pn), zI (nI 0)]) (r := []) (mc' := 0) (ms' := 0) rfl rfl rfl (Nat.le_of_ble_eq_true rfl) (by omega) (by omega) (rc1 rfl) (k_J7_fill_53178 (by omega) h3) (by rintro _ _ ⟨e, _⟩; cases e) ?_
  rintro g_1 _ ⟨e9, e_2, f_3⟩; cases e9
  · skip
    have k_4 := (f_3 p (zne h1 h3 (by nofun))).trans h1
    have k_5 := (f_3 pb (zne h2 h3 (by nofun))).trans h2
    refine z_ico (x := (nI 0)) rfl rfl ?_
    refine z_ist (ls' := [some (zR (some p)), some (zI (nI 0)), none]) rfl (Nat.le_of_ble_eq_true rfl) rfl ?_
    refine z_ild rfl rfl ?_
    refine z_ald rfl rfl ?_
    refine z_get rfl k_4 rfl ?_
    refine z_len (m := 3) rfl (by rw [e_2]; rfl) ?_
    refine z_cmpN (by omega) (by omega) rfl (fun h_6 => ?_) (fun h_6 => ?_)
    · replace h_6 : 3 ≤ 0 := h_6
      omega
    · replace h_6 := Nat.not_le.mp h_6
      refine z_ald rfl rfl ?_
      refine z_call (as := [zR (some p)]) (r := []) (mc' := 0) (ms' := 0) rfl rfl rfl (Nat.le_of_ble_eq_true rfl) (by omega) (by omega) (rc0 rfl k_4) (k_X1_number hx hn (a := a) (by omega) k_4 k_5) (by rintro _ _ (⟨e, _⟩ | ⟨e, _⟩) <;> cases e) ?_
      rintro g_7 _ (⟨e9, x_8, e_9, f_10⟩ | ⟨e9, x_8, e_9, f_10⟩) <;> cases e9
      · skip
        have e_9_a : a ≤ spn isDg t n a := spn_ge
        have e_9_b : spn isDg t n a ≤ n := spn_le (by omega)
        have k_11 := (f_10 pb (zne k_5 k_4 (by nofun))).trans k_5
        have k_12 := (f_10 pn (zne e_2 k_4 (by nofun))).trans e_2
        refine z_ist (ls' := [some (zR (some p)), some (zI (nI 0)), some (zI (nI (nmN t n a)))]) rfl (Nat.le_of_ble_eq_true rfl) rfl ?_
        refine z_ild rfl rfl ?_
        refine z_ico (x := (-1)) rfl rfl ?_
        refine z_cmp rfl (fun h_13 => ?_) (fun h_13 => ?_)
        · replace h_13 : ¬ (nI (nmN t n a)) = (-1) := h_13
          refine z_ald rfl rfl ?_
          refine z_get rfl e_9 rfl ?_
          refine z_ild rfl rfl ?_
          refine z_ild rfl rfl ?_
          refine z_iast (x' := (nI (nmN t n a))) rfl k_12 (by omega) (by omega) rfl ?_
          intro g_14 e_15 f_16
          have k_17 := (f_16 pb (zne k_11 k_12 (by nofun))).trans k_11
          have k_18 := (f_16 p (zne e_9 k_12 (by nofun))).trans e_9
          refine z_ild rfl rfl ?_
          refine z_ico (x := (nI 2)) rfl rfl ?_
          refine z_cmpN (by omega) (by omega) rfl (fun h_19 => ?_) (fun h_19 => ?_)
          · replace h_19 : 0 = 2 := h_19
            omega
          · replace h_19 : ¬ (0 = 2) := h_19
            refine z_ald rfl rfl ?_
            refine z_ald rfl rfl ?_
            refine z_get rfl k_18 rfl ?_
            refine z_ico (x := (nI 46)) rfl rfl ?_
            refine z_callF (as := [zR (some p), zI (nI (spn isDg t n a)), zI (nI 46)]) (r := []) (v := some (zI (bI (decide (atc n t (spn isDg t n a) 46))))) rfl rfl rfl (Nat.le_of_ble_eq_true rfl) (by omega) (by omega) (rc0 rfl k_18) (k_X1_isAt hx hn (a := spn isDg t n a) (by omega) k_18 k_17 (by omega) (by omega)) ?_
            refine z_ifB0 rfl (fun b_20 => ?_) (fun b_20 => ?_)
            · refine z_ild rfl rfl ?_
              refine z_ico (x := (nI 1)) rfl rfl ?_
              refine z_ibi (v := (nI 1)) rfl (nI_add 0 1) ?_
              refine z_ret rfl ⟨_, rfl⟩ ?_
              exact Or.inr (Or.inl ⟨rfl, ⟨x_8, pt_no1 b_20⟩, k_18, _, e_15, ⟨rfl, rfl, rfl⟩, fun y hy hz => (f_16 y hz).trans ((f_10 y hy).trans (f_3 y hz))⟩)
            · refine z_ald rfl rfl ?_
              refine z_ald rfl rfl ?_
              refine z_get rfl k_18 rfl ?_
              refine z_ico (x := (nI 1)) rfl rfl ?_
              refine z_ibi (v := (nI (spn isDg t n a + 1))) rfl (nI_add _ _) ?_
              refine z_ico (x := (nI 42)) rfl rfl ?_
              refine z_callF (as := [zR (some p), zI (nI (spn isDg t n a + 1)), zI (nI 42)]) (r := []) (v := some (zI (bI (decide (atc n t (spn isDg t n a + 1) 42))))) rfl rfl rfl (Nat.le_of_ble_eq_true rfl) (by omega) (by omega) (rc0 rfl k_18) (k_X1_isAt hx hn (a := spn isDg t n a) (by omega) k_18 k_17 (by omega) (by omega)) ?_
              refine z_ifB0 rfl (fun b_21 => ?_) (fun b_21 => ?_)
              · have l21 := at_lt b_20
                refine z_ald rfl rfl ?_
                refine z_dup rfl rfl ?_
                refine z_get rfl k_18 rfl ?_
                refine z_ico (x := (nI 1)) rfl rfl ?_
                refine z_ibi (v := (nI (spn isDg t n a + 1))) rfl (nI_add _ _) ?_
                refine z_put (e := zO 1 [zR (some pb), zI (nI n), zI (nI (spn isDg t n a + 1)), zR (some pn)]) rfl k_18 (Nat.le_of_ble_eq_true rfl) ⟨_, rfl⟩ rfl ?_
                intro g_22 e_23 f_24
                have k_25 := (f_24 pb (zne k_17 k_18 (by nofun))).trans k_17
                have k_26 := (f_24 pn (zne e_15 k_18 (by nofun))).trans e_15
                refine z_inc (x' := (nI 1)) (ls' := [some (zR (some p)), some (zI (nI 1)), some (zI (nI (nmN t n a)))]) rfl rfl (nI_1 0) rfl ?_
                refine z_go rfl ?_
                refine z_ild rfl rfl ?_
                refine z_ald rfl rfl ?_
                refine z_get rfl e_23 rfl ?_
                refine z_len (m := 3) rfl (by rw [k_26]; rfl) ?_
                refine z_cmpN (by omega) (by omega) rfl (fun h_27 => ?_) (fun h_27 => ?_)
                · replace h_27 : 3 ≤ 1 := h_27
                  omega
                · replace h_27 := Nat.not_le.mp h_27
                  refine z_ald rfl rfl ?_
                  refine z_call (as := [zR (some p)]) (r := []) (mc' := 0) (ms' := 0) rfl rfl rfl (Nat.le_of_ble_eq_true rfl) (by omega) (by omega) (rc0 rfl e_23) (k_X1_number hx hn (a := spn isDg t n a + 1) (by omega) e_23 k_25) (by rintro _ _ (⟨e, _⟩ | ⟨e, _⟩) <;> cases e) ?_
                  rintro g_28 _ (⟨e9, x_29, e_30, f_31⟩ | ⟨e9, x_29, e_30, f_31⟩) <;> cases e9
                  · skip
                    have e_30_a : spn isDg t n a + 1 ≤ spn isDg t n (spn isDg t n a + 1) := spn_ge
                    have e_30_b : spn isDg t n (spn isDg t n a + 1) ≤ n := spn_le (by omega)
                    have k_32 := (f_31 pb (zne k_25 e_23 (by nofun))).trans k_25
                    have k_33 := (f_31 pn (zne k_26 e_23 (by nofun))).trans k_26
                    refine z_ist (ls' := [some (zR (some p)), some (zI (nI 1)), some (zI (nI (nmN t n (spn isDg t n a + 1))))]) rfl (Nat.le_of_ble_eq_true rfl) rfl ?_
                    refine z_ild rfl rfl ?_
                    refine z_ico (x := (-1)) rfl rfl ?_
                    refine z_cmp rfl (fun h_34 => ?_) (fun h_34 => ?_)
                    · replace h_34 : ¬ (nI (nmN t n (spn isDg t n a + 1))) = (-1) := h_34
                      refine z_ald rfl rfl ?_
                      refine z_get rfl e_30 rfl ?_
                      refine z_ild rfl rfl ?_
                      refine z_ild rfl rfl ?_
                      refine z_iast (x' := (nI (nmN t n (spn isDg t n a + 1)))) rfl k_33 (by omega) (by omega) rfl ?_
                      intro g_35 e_36 f_37
                      have k_38 := (f_37 pb (zne k_32 k_33 (by nofun))).trans k_32
                      have k_39 := (f_37 p (zne e_30 k_33 (by nofun))).trans e_30
                      refine z_ild rfl rfl ?_
                      refine z_ico (x := (nI 2)) rfl rfl ?_
                      refine z_cmpN (by omega) (by omega) rfl (fun h_40 => ?_) (fun h_40 => ?_)
                      · replace h_40 : 1 = 2 := h_40
                        omega
                      · replace h_40 : ¬ (1 = 2) := h_40
                        refine z_ald rfl rfl ?_
                        refine z_ald rfl rfl ?_
                        refine z_get rfl k_39 rfl ?_
                        refine z_ico (x := (nI 46)) rfl rfl ?_
                        refine z_callF (as := [zR (some p), zI (nI (spn isDg t n (spn isDg t n a + 1))), zI (nI 46)]) (r := []) (v := some (zI (bI (decide (atc n t (spn isDg t n (spn isDg t n a + 1)) 46))))) rfl rfl rfl (Nat.le_of_ble_eq_true rfl) (by omega) (by omega) (rc0 rfl k_39) (k_X1_isAt hx hn (a := spn isDg t n (spn isDg t n a + 1)) (by omega) k_39 k_38 (by omega) (by omega)) ?_
                        refine z_ifB0 rfl (fun b_41 => ?_) (fun b_41 => ?_)
                        · refine z_ild rfl rfl ?_
                          refine z_ico (x := (nI 1)) rfl rfl ?_
                          refine z_ibi (v := (nI 2)) rfl (nI_add 1 1) ?_
                          refine z_ret rfl ⟨_, rfl⟩ ?_
                          exact Or.inr (Or.inr (Or.inl ⟨rfl, ⟨x_8, pt_yes b_20 b_21, x_29, pt_no1 b_41⟩, k_39, _, e_36, ⟨rfl, rfl, rfl⟩, fun y hy hz => (f_37 y hz).trans ((f_31 y hy).trans ((f_24 y hy).trans ((f_16 y hz).trans ((f_10 y hy).trans (f_3 y hz)))))⟩))
                        · refine z_ald rfl rfl ?_
                          refine z_ald rfl rfl ?_
                          refine z_get rfl k_39 rfl ?_
                          refine z_ico (x := (nI 1)) rfl rfl ?_
                          refine z_ibi (v := (nI (spn isDg t n (spn isDg t n a + 1) + 1))) rfl (nI_add _ _) ?_
                          refine z_ico (x := (nI 42)) rfl rfl ?_
                          refine z_callF (as := [zR (some p), zI (nI (spn isDg t n (spn isDg t n a + 1) + 1)), zI (nI 42)]) (r := []) (v := some (zI (bI (decide (atc n t (spn isDg t n (spn isDg t n a + 1) + 1) 42))))) rfl rfl rfl (Nat.le_of_ble_eq_true rfl) (by omega) (by omega) (rc0 rfl k_39) (k_X1_isAt hx hn (a := spn isDg t n (spn isDg t n a + 1)) (by omega) k_39 k_38 (by omega) (by omega)) ?_
                          refine z_ifB0 rfl (fun b_42 => ?_) (fun b_42 => ?_)
                          · have l42 := at_lt b_41
                            refine z_ald rfl rfl ?_
                            refine z_dup rfl rfl ?_
                            refine z_get rfl k_39 rfl ?_
                            refine z_ico (x := (nI 1)) rfl rfl ?_
                            refine z_ibi (v := (nI (spn isDg t n (spn isDg t n a + 1) + 1))) rfl (nI_add _ _) ?_
                            refine z_put (e := zO 1 [zR (some pb), zI (nI n), zI (nI (spn isDg t n (spn isDg t n a + 1) + 1)), zR (some pn)]) rfl k_39 (Nat.le_of_ble_eq_true rfl) ⟨_, rfl⟩ rfl ?_
                            intro g_43 e_44 f_45
                            have k_46 := (f_45 pb (zne k_38 k_39 (by nofun))).trans k_38
                            have k_47 := (f_45 pn (zne e_36 k_39 (by nofun))).trans e_36
                            refine z_inc (x' := (nI 2)) (ls' := [some (zR (some p)), some (zI (nI 2)), some (zI (nI (nmN t n (spn isDg t n a + 1))))]) rfl rfl (nI_1 1) rfl ?_
                            refine z_go rfl ?_
                            refine z_ild rfl rfl ?_
                            refine z_ald rfl rfl ?_
                            refine z_get rfl e_44 rfl ?_
                            refine z_len (m := 3) rfl (by rw [k_47]; rfl) ?_
                            refine z_cmpN (by omega) (by omega) rfl (fun h_48 => ?_) (fun h_48 => ?_)
                            · replace h_48 : 3 ≤ 2 := h_48
                              omega
                            · replace h_48 := Nat.not_le.mp h_48
                              refine z_ald rfl rfl ?_
                              refine z_call (as := [zR (some p)]) (r := []) (mc' := 0) (ms' := 0) rfl rfl rfl (Nat.le_of_ble_eq_true rfl) (by omega) (by omega) (rc0 rfl e_44) (k_X1_number hx hn (a := spn isDg t n (spn isDg t n a + 1) + 1) (by omega) e_44 k_46) (by rintro _ _ (⟨e, _⟩ | ⟨e, _⟩) <;> cases e) ?_
                              rintro g_49 _ (⟨e9, x_50, e_51, f_52⟩ | ⟨e9, x_50, e_51, f_52⟩) <;> cases e9
                              · skip
                                have e_51_a : spn isDg t n (spn isDg t n a + 1) + 1 ≤ spn isDg t n (spn isDg t n (spn isDg t n a + 1) + 1) := spn_ge
                                have e_51_b : spn isDg t n (spn isDg t n (spn isDg t n a + 1) + 1) ≤ n := spn_le (by omega)
                                have k_53 := (f_52 pb (zne k_46 e_44 (by nofun))).trans k_46
                                have k_54 := (f_52 pn (zne k_47 e_44 (by nofun))).trans k_47
                                refine z_ist (ls' := [some (zR (some p)), some (zI (nI 2)), some (zI (nI (nmN t n (spn isDg t n (spn isDg t n a + 1) + 1))))]) rfl (Nat.le_of_ble_eq_true rfl) rfl ?_
                                refine z_ild rfl rfl ?_
                                refine z_ico (x := (-1)) rfl rfl ?_
                                refine z_cmp rfl (fun h_55 => ?_) (fun h_55 => ?_)
                                · replace h_55 : ¬ (nI (nmN t n (spn isDg t n (spn isDg t n a + 1) + 1))) = (-1) := h_55
                                  refine z_ald rfl rfl ?_
                                  refine z_get rfl e_51 rfl ?_
                                  refine z_ild rfl rfl ?_
                                  refine z_ild rfl rfl ?_
                                  refine z_iast (x' := (nI (nmN t n (spn isDg t n (spn isDg t n a + 1) + 1)))) rfl k_54 (by omega) (by omega) rfl ?_
                                  intro g_56 e_57 f_58
                                  have k_59 := (f_58 pb (zne k_53 k_54 (by nofun))).trans k_53
                                  have k_60 := (f_58 p (zne e_51 k_54 (by nofun))).trans e_51
                                  refine z_ild rfl rfl ?_
                                  refine z_ico (x := (nI 2)) rfl rfl ?_
                                  refine z_cmpN (by omega) (by omega) rfl (fun h_61 => ?_) (fun h_61 => ?_)
                                  · replace h_61 : 2 = 2 := h_61
                                    refine z_ild rfl rfl ?_
                                    refine z_ico (x := (nI 1)) rfl rfl ?_
                                    refine z_ibi (v := (nI 3)) rfl (nI_add 2 1) ?_
                                    refine z_ret rfl ⟨_, rfl⟩ ?_
                                    exact Or.inr (Or.inr (Or.inr ⟨rfl, ⟨x_8, pt_yes b_20 b_21, x_29, pt_yes b_41 b_42, x_50⟩, k_60, _, e_57, ⟨rfl, rfl, rfl⟩, fun y hy hz => (f_58 y hz).trans ((f_52 y hy).trans ((f_45 y hy).trans ((f_37 y hz).trans ((f_31 y hy).trans ((f_24 y hy).trans ((f_16 y hz).trans ((f_10 y hy).trans (f_3 y hz))))))))⟩))
                                  · replace h_61 : ¬ (2 = 2) := h_61
                                    omega
                                · replace h_55 : (nI (nmN t n (spn isDg t n (spn isDg t n a + 1) + 1))) = (-1) := Decidable.of_not_not h_55
                                  exact absurd h_55 (nI_ne1 (nm_lt x_50))
                              · skip
                                have e_51_a : spn isDg t n (spn isDg t n a + 1) + 1 ≤ spn isDg t n (spn isDg t n (spn isDg t n a + 1) + 1) := spn_ge
                                have e_51_b : spn isDg t n (spn isDg t n (spn isDg t n a + 1) + 1) ≤ n := spn_le (by omega)
                                have k_62 := (f_52 pb (zne k_46 e_44 (by nofun))).trans k_46
                                have k_63 := (f_52 pn (zne k_47 e_44 (by nofun))).trans k_47
                                refine z_ist (ls' := [some (zR (some p)), some (zI (nI 2)), some (zI (-1))]) rfl (Nat.le_of_ble_eq_true rfl) rfl ?_
                                refine z_ild rfl rfl ?_
                                refine z_ico (x := (-1)) rfl rfl ?_
                                refine z_cmp rfl (fun h_64 => ?_) (fun h_64 => ?_)
                                · replace h_64 : ¬ (-1 : Int32) = -1 := h_64
                                  exact absurd rfl h_64
                                · replace h_64 : (-1 : Int32) = -1 := Decidable.of_not_not h_64
                                  refine z_ico (x := (nI 0)) rfl rfl ?_
                                  refine z_ret rfl ⟨_, rfl⟩ ?_
                                  exact Or.inl ⟨rfl, Or.inr ⟨pt_yes b_20 b_21, Or.inr ⟨pt_yes b_41 b_42, x_50⟩⟩, _, _, by omega, e_51, k_63, fun y hy hz => (f_52 y hy).trans ((f_45 y hy).trans ((f_37 y hz).trans ((f_31 y hy).trans ((f_24 y hy).trans ((f_16 y hz).trans ((f_10 y hy).trans (f_3 y hz)))))))⟩
                          · refine z_ild rfl rfl ?_
                            refine z_ico (x := (nI 1)) rfl rfl ?_
                            refine z_ibi (v := (nI 2)) rfl (nI_add 1 1) ?_
                            refine z_ret rfl ⟨_, rfl⟩ ?_
                            exact Or.inr (Or.inr (Or.inl ⟨rfl, ⟨x_8, pt_yes b_20 b_21, x_29, pt_no2 b_42⟩, k_39, _, e_36, ⟨rfl, rfl, rfl⟩, fun y hy hz => (f_37 y hz).trans ((f_31 y hy).trans ((f_24 y hy).trans ((f_16 y hz).trans ((f_10 y hy).trans (f_3 y hz)))))⟩))
                    · replace h_34 : (nI (nmN t n (spn isDg t n a + 1))) = (-1) := Decidable.of_not_not h_34
                      exact absurd h_34 (nI_ne1 (nm_lt x_29))
                  · skip
                    have e_30_a : spn isDg t n a + 1 ≤ spn isDg t n (spn isDg t n a + 1) := spn_ge
                    have e_30_b : spn isDg t n (spn isDg t n a + 1) ≤ n := spn_le (by omega)
                    have k_65 := (f_31 pb (zne k_25 e_23 (by nofun))).trans k_25
                    have k_66 := (f_31 pn (zne k_26 e_23 (by nofun))).trans k_26
                    refine z_ist (ls' := [some (zR (some p)), some (zI (nI 1)), some (zI (-1))]) rfl (Nat.le_of_ble_eq_true rfl) rfl ?_
                    refine z_ild rfl rfl ?_
                    refine z_ico (x := (-1)) rfl rfl ?_
                    refine z_cmp rfl (fun h_67 => ?_) (fun h_67 => ?_)
                    · replace h_67 : ¬ (-1 : Int32) = -1 := h_67
                      exact absurd rfl h_67
                    · replace h_67 : (-1 : Int32) = -1 := Decidable.of_not_not h_67
                      refine z_ico (x := (nI 0)) rfl rfl ?_
                      refine z_ret rfl ⟨_, rfl⟩ ?_
                      exact Or.inl ⟨rfl, Or.inr ⟨pt_yes b_20 b_21, Or.inl x_29⟩, _, _, by omega, e_30, k_66, fun y hy hz => (f_31 y hy).trans ((f_24 y hy).trans ((f_16 y hz).trans ((f_10 y hy).trans (f_3 y hz))))⟩
              · refine z_ild rfl rfl ?_
                refine z_ico (x := (nI 1)) rfl rfl ?_
                refine z_ibi (v := (nI 1)) rfl (nI_add 0 1) ?_
                refine z_ret rfl ⟨_, rfl⟩ ?_
                exact Or.inr (Or.inl ⟨rfl, ⟨x_8, pt_no2 b_21⟩, k_18, _, e_15, ⟨rfl, rfl, rfl⟩, fun y hy hz => (f_16 y hz).trans ((f_10 y hy).trans (f_3 y hz))⟩)
        · replace h_13 : (nI (nmN t n a)) = (-1) := Decidable.of_not_not h_13
          exact absurd h_13 (nI_ne1 (nm_lt x_8))
      · skip
        have e_9_a : a ≤ spn isDg t n a := spn_ge
        have e_9_b : spn isDg t n a ≤ n := spn_le (by omega)
        have k_68 := (f_10 pb (zne k_5 k_4 (by nofun))).trans k_5
        have k_69 := (f_10 pn (zne e_2 k_4 (by nofun))).trans e_2
        refine z_ist (ls' := [some (zR (some p)), some (zI (nI 0)), some (zI (-1))]) rfl (Nat.le_of_ble_eq_true rfl) rfl ?_
        refine z_ild rfl rfl ?_
        refine z_ico (x := (-1)) rfl rfl ?_
        refine z_cmp rfl (fun h_70 => ?_) (fun h_70 => ?_)
        · replace h_70 : ¬ (-1 : Int32) = -1 := h_70
          exact absurd rfl h_70
        · replace h_70 : (-1 : Int32) = -1 := Decidable.of_not_not h_70
          refine z_ico (x := (nI 0)) rfl rfl ?_
          refine z_ret rfl ⟨_, rfl⟩ ?_
          exact Or.inl ⟨rfl, Or.inl x_8, _, _, by omega, e_9, k_69, fun y hy hz => (f_10 y hy).trans (f_3 y hz)⟩
set_option maxHeartbeats 1000000 in
theorem k_X1_sign {d : Nat} {h : zH} {p pb pn n a : Nat} {t tc : Nat → Int32} (hx : txR n t tc) (hn : n ≤ 160) (ha : a ≤ n) (h1 : h p = some (rdO pb n a pn)) (h2 : h pb = some (zaI 0 160 tc)) : zCall (d + 2) 15 [zR (some p)] h 0 0 (fun h' o => o = .inl (some (zI (nI (sgC n t a).1))) ∧ h' p = some (rdO pb n (sgC n t a).2 pn) ∧ (∀ y, y ≠ p → h' y = h y)) := by
  refine zCall.of (d := d + 1) (T := tb_15) (L := [some (zR (some p))]) (Nat.le_of_ble_eq_true rfl) rfl rfl ?_
  refine z_ald rfl rfl ?_
  refine z_ico (x := (nI 126)) rfl rfl ?_
  refine z_call (as := [zR (some p), zI (nI 126)]) (r := []) (mc' := 0) (ms' := 0) rfl rfl rfl (Nat.le_of_ble_eq_true rfl) (by omega) (by omega) (rc0 rfl h1) (k_X1_take hx hn (a := a) (c := 126) (by omega) h1 h2 (by omega)) (by rintro _ _ (⟨e, _⟩ | ⟨e, _⟩) <;> cases e) ?_
  rintro g_1 _ (⟨e9, x_2, e_3, f_4⟩ | ⟨e9, x_2, e8⟩) <;> cases e9
  · skip
    have k_5 := (f_4 pb (zne h2 h1 (by nofun))).trans h2
    have l_x_2 := x_2.1
    refine z_ifN (by omega) rfl (fun h_6 => ?_) (fun h_6 => ?_)
    · replace h_6 : 1 = 0 := h_6
      omega
    · replace h_6 : ¬ (1 = 0) := h_6
      refine z_ico (x := (nI 1)) rfl rfl ?_
      refine z_ret rfl ⟨_, rfl⟩ ?_
      have h9 : sgC n t a = (1, a + 1) := by rw [sgC, if_pos x_2]
      rw [h9]
      exact ⟨rfl, e_3, fun y hy => f_4 y hy⟩
  · skip
    cases e8
    refine z_ifN (by omega) rfl (fun h_7 => ?_) (fun h_7 => ?_)
    · replace h_7 : 0 = 0 := h_7
      refine z_ald rfl rfl ?_
      refine z_ico (x := (nI 61)) rfl rfl ?_
      refine z_call (as := [zR (some p), zI (nI 61)]) (r := []) (mc' := 0) (ms' := 0) rfl rfl rfl (Nat.le_of_ble_eq_true rfl) (by omega) (by omega) (rc0 rfl h1) (k_X1_take hx hn (a := a) (c := 61) (by omega) h1 h2 (by omega)) (by rintro _ _ (⟨e, _⟩ | ⟨e, _⟩) <;> cases e) ?_
      rintro g_8 _ (⟨e9, x_9, e_10, f_11⟩ | ⟨e9, x_9, e8⟩) <;> cases e9
      · skip
        have k_12 := (f_11 pb (zne h2 h1 (by nofun))).trans h2
        have l_x_9 := x_9.1
        refine z_ifN (by omega) rfl (fun h_13 => ?_) (fun h_13 => ?_)
        · replace h_13 : 1 = 0 := h_13
          omega
        · replace h_13 : ¬ (1 = 0) := h_13
          refine z_ico (x := (nI 2)) rfl rfl ?_
          refine z_ret rfl ⟨_, rfl⟩ ?_
          have h9 : sgC n t a = (2, a + 1) := by rw [sgC, if_neg x_2, if_pos x_9]
          rw [h9]
          exact ⟨rfl, e_10, fun y hy => f_11 y hy⟩
      · skip
        cases e8
        refine z_ifN (by omega) rfl (fun h_14 => ?_) (fun h_14 => ?_)
        · replace h_14 : 0 = 0 := h_14
          refine z_ald rfl rfl ?_
          refine z_ico (x := (nI 62)) rfl rfl ?_
          refine z_call (as := [zR (some p), zI (nI 62)]) (r := []) (mc' := 0) (ms' := 0) rfl rfl rfl (Nat.le_of_ble_eq_true rfl) (by omega) (by omega) (rc0 rfl h1) (k_X1_take hx hn (a := a) (c := 62) (by omega) h1 h2 (by omega)) (by rintro _ _ (⟨e, _⟩ | ⟨e, _⟩) <;> cases e) ?_
          rintro g_15 _ (⟨e9, x_16, e_17, f_18⟩ | ⟨e9, x_16, e8⟩) <;> cases e9
          · skip
            have k_19 := (f_18 pb (zne h2 h1 (by nofun))).trans h2
            have l_x_16 := x_16.1
            refine z_ifN (by omega) rfl (fun h_20 => ?_) (fun h_20 => ?_)
            · replace h_20 : 1 = 0 := h_20
              omega
            · replace h_20 : ¬ (1 = 0) := h_20
              refine z_ald rfl rfl ?_
              refine z_ico (x := (nI 61)) rfl rfl ?_
              refine z_call (as := [zR (some p), zI (nI 61)]) (r := []) (mc' := 0) (ms' := 0) rfl rfl rfl (Nat.le_of_ble_eq_true rfl) (by omega) (by omega) (rc0 rfl e_17) (k_X1_take hx hn (a := a + 1) (c := 61) (by omega) e_17 k_19 (by omega)) (by rintro _ _ (⟨e, _⟩ | ⟨e, _⟩) <;> cases e) ?_
              rintro g_21 _ (⟨e9, x_22, e_23, f_24⟩ | ⟨e9, x_22, e8⟩) <;> cases e9
              · skip
                have k_25 := (f_24 pb (zne k_19 e_17 (by nofun))).trans k_19
                have l_x_22 := x_22.1
                refine z_ifN (by omega) rfl (fun h_26 => ?_) (fun h_26 => ?_)
                · replace h_26 : 1 = 0 := h_26
                  omega
                · replace h_26 : ¬ (1 = 0) := h_26
                  refine z_ico (x := (nI 4)) rfl rfl ?_
                  refine z_go rfl ?_
                  refine z_ret rfl ⟨_, rfl⟩ ?_
                  have h9 : sgC n t a = (4, a + 1 + 1) := by rw [sgC, if_neg x_2, if_neg x_9, if_pos x_16, if_pos x_22]
                  rw [h9]
                  exact ⟨rfl, e_23, fun y hy => (f_24 y hy).trans (f_18 y hy)⟩
              · skip
                cases e8
                refine z_ifN (by omega) rfl (fun h_27 => ?_) (fun h_27 => ?_)
                · replace h_27 : 0 = 0 := h_27
                  refine z_ico (x := (nI 3)) rfl rfl ?_
                  refine z_ret rfl ⟨_, rfl⟩ ?_
                  have h9 : sgC n t a = (3, a + 1) := by rw [sgC, if_neg x_2, if_neg x_9, if_pos x_16, if_neg x_22]
                  rw [h9]
                  exact ⟨rfl, e_17, fun y hy => f_18 y hy⟩
                · replace h_27 : ¬ (0 = 0) := h_27
                  omega
          · skip
            cases e8
            refine z_ifN (by omega) rfl (fun h_28 => ?_) (fun h_28 => ?_)
            · replace h_28 : 0 = 0 := h_28
              refine z_ald rfl rfl ?_
              refine z_ico (x := (nI 60)) rfl rfl ?_
              refine z_call (as := [zR (some p), zI (nI 60)]) (r := []) (mc' := 0) (ms' := 0) rfl rfl rfl (Nat.le_of_ble_eq_true rfl) (by omega) (by omega) (rc0 rfl h1) (k_X1_take hx hn (a := a) (c := 60) (by omega) h1 h2 (by omega)) (by rintro _ _ (⟨e, _⟩ | ⟨e, _⟩) <;> cases e) ?_
              rintro g_29 _ (⟨e9, x_30, e_31, f_32⟩ | ⟨e9, x_30, e8⟩) <;> cases e9
              · skip
                have k_33 := (f_32 pb (zne h2 h1 (by nofun))).trans h2
                have l_x_30 := x_30.1
                refine z_ifN (by omega) rfl (fun h_34 => ?_) (fun h_34 => ?_)
                · replace h_34 : 1 = 0 := h_34
                  omega
                · replace h_34 : ¬ (1 = 0) := h_34
                  refine z_ald rfl rfl ?_
                  refine z_ico (x := (nI 61)) rfl rfl ?_
                  refine z_call (as := [zR (some p), zI (nI 61)]) (r := []) (mc' := 0) (ms' := 0) rfl rfl rfl (Nat.le_of_ble_eq_true rfl) (by omega) (by omega) (rc0 rfl e_31) (k_X1_take hx hn (a := a + 1) (c := 61) (by omega) e_31 k_33 (by omega)) (by rintro _ _ (⟨e, _⟩ | ⟨e, _⟩) <;> cases e) ?_
                  rintro g_35 _ (⟨e9, x_36, e_37, f_38⟩ | ⟨e9, x_36, e8⟩) <;> cases e9
                  · skip
                    have k_39 := (f_38 pb (zne k_33 e_31 (by nofun))).trans k_33
                    have l_x_36 := x_36.1
                    refine z_ifN (by omega) rfl (fun h_40 => ?_) (fun h_40 => ?_)
                    · replace h_40 : 1 = 0 := h_40
                      omega
                    · replace h_40 : ¬ (1 = 0) := h_40
                      refine z_ico (x := (nI 6)) rfl rfl ?_
                      refine z_go rfl ?_
                      refine z_ret rfl ⟨_, rfl⟩ ?_
                      have h9 : sgC n t a = (6, a + 1 + 1) := by rw [sgC, if_neg x_2, if_neg x_9, if_neg x_16, if_pos x_30, if_pos x_36]
                      rw [h9]
                      exact ⟨rfl, e_37, fun y hy => (f_38 y hy).trans (f_32 y hy)⟩
                  · skip
                    cases e8
                    refine z_ifN (by omega) rfl (fun h_41 => ?_) (fun h_41 => ?_)
                    · replace h_41 : 0 = 0 := h_41
                      refine z_ico (x := (nI 5)) rfl rfl ?_
                      refine z_ret rfl ⟨_, rfl⟩ ?_
                      have h9 : sgC n t a = (5, a + 1) := by rw [sgC, if_neg x_2, if_neg x_9, if_neg x_16, if_pos x_30, if_neg x_36]
                      rw [h9]
                      exact ⟨rfl, e_31, fun y hy => f_32 y hy⟩
                    · replace h_41 : ¬ (0 = 0) := h_41
                      omega
              · skip
                cases e8
                refine z_ifN (by omega) rfl (fun h_42 => ?_) (fun h_42 => ?_)
                · replace h_42 : 0 = 0 := h_42
                  refine z_ald rfl rfl ?_
                  refine z_ico (x := (nI 94)) rfl rfl ?_
                  refine z_call (as := [zR (some p), zI (nI 94)]) (r := []) (mc' := 0) (ms' := 0) rfl rfl rfl (Nat.le_of_ble_eq_true rfl) (by omega) (by omega) (rc0 rfl h1) (k_X1_take hx hn (a := a) (c := 94) (by omega) h1 h2 (by omega)) (by rintro _ _ (⟨e, _⟩ | ⟨e, _⟩) <;> cases e) ?_
                  rintro g_43 _ (⟨e9, x_44, e_45, f_46⟩ | ⟨e9, x_44, e8⟩) <;> cases e9
                  · skip
                    have k_47 := (f_46 pb (zne h2 h1 (by nofun))).trans h2
                    have l_x_44 := x_44.1
                    refine z_pop rfl rfl ?_
                    refine z_ico (x := (nI 0)) rfl rfl ?_
                    refine z_ret rfl ⟨_, rfl⟩ ?_
                    have h9 : sgC n t a = (0, a + 1) := by rw [sgC, if_neg x_2, if_neg x_9, if_neg x_16, if_neg x_30, if_pos x_44]
                    rw [h9]
                    exact ⟨rfl, e_45, fun y hy => f_46 y hy⟩
                  · skip
                    cases e8
                    refine z_pop rfl rfl ?_
                    refine z_ico (x := (nI 0)) rfl rfl ?_
                    refine z_ret rfl ⟨_, rfl⟩ ?_
                    have h9 : sgC n t a = (0, a) := by rw [sgC, if_neg x_2, if_neg x_9, if_neg x_16, if_neg x_30, if_neg x_44]
                    rw [h9]
                    exact ⟨rfl, h1, fun _ _ => rfl⟩
                · replace h_42 : ¬ (0 = 0) := h_42
                  omega
            · replace h_28 : ¬ (0 = 0) := h_28
              omega
        · replace h_14 : ¬ (0 = 0) := h_14
          omega
    · replace h_7 : ¬ (0 = 0) := h_7
      omega
