theorem psF_sh {t : Nat → Int32} {n a : Nat} : ∀ i, psF t n a (i + 1) = psF t n (spn isWd t n a + 1) i
  | 0 => rfl
  | i + 1 => by rw [psF, psF_sh i]; rfl
theorem cwN_at {t : Nat → Int32} {n : Nat} : ∀ (k a i : Nat), i < cwN t n k a → atc n t (spn isWd t n (psF t n a i)) 46
  | 0, a, i, h => absurd h (Nat.not_lt_zero _)
  | k + 1, a, i, h => by
    rw [cwN] at h
    split at h
    · rename_i g
      cases i with
      | zero => exact g
      | succ i => rw [psF_sh]; exact cwN_at k _ i (by omega)
    · omega
theorem ps_mono {t : Nat → Int32} {n a : Nat} {i : Nat} : ∀ j, psF t n a i + j ≤ psF t n a (i + j)
  | 0 => Nat.le_refl _
  | j + 1 => by
    have h1 := ps_mono (t := t) (n := n) (a := a) (i := i) j
    have h2 : psF t n a (i + j) ≤ spn isWd t n (psF t n a (i + j)) := spn_ge
    show psF t n a i + (j + 1) ≤ spn isWd t n (psF t n a (i + j)) + 1
    omega
theorem wd_noPt {x : Int32} (h : isWd x = true) : noPt x = true := by
  cases e : noPt x with
  | true => rfl
  | false =>
    have e2 : x = nI 46 := by simpa [noPt] using e
    rw [e2] at h
    exact absurd h (by decide +kernel)
theorem spnF_is {q : Int32 → Bool} {t : Nat → Int32} : ∀ (k a e : Nat), a ≤ e → e ≤ a + k → (∀ j, a ≤ j → j < e → q (t j) = true) → (e < a + k → q (t e) = false) → spnF q t k a = e
  | 0, a, e, h1, h2, _, _ => by
    show a = e
    omega
  | k + 1, a, e, h1, h2, h3, h4 => by
    rw [spnF]
    by_cases g : a = e
    · subst g
      rw [if_neg (by rw [h4 (by omega)]; nofun)]
    · rw [if_pos (h3 a (by omega) (by omega))]
      exact spnF_is k (a + 1) e (by omega) (by omega) (fun j a b => h3 j (by omega) b) (fun b => h4 (by omega))
theorem spn_is {q : Int32 → Bool} {t : Nat → Int32} {n a e : Nat} (h1 : a ≤ e) (h2 : e ≤ n) (h3 : ∀ j, a ≤ j → j < e → q (t j) = true) (h4 : e < n → q (t e) = false) : spn q t n a = e := spnF_is _ _ _ h1 (by omega) h3 (fun g => h4 (by omega))
/-- a version whose words stand in the text -/
theorem vr_of {g : zH} {q r : Nat} {x y z : Int32} {t : Nat → Int32} {n e : Nat} (h1 : g q = some (zO 7 [zI x, zI y, zI z, zR (some r)])) (hw : wsP g r t n e) (he : e ≤ n) (h24 : bwE t n e - e ≤ 24) : vrAt g q (x, y, z, bwE t n e - (e + 1), fun j => t (e + 1 + j)) := by
  obtain ⟨L, f, h2, hw⟩ := hw
  rcases hw with ⟨n1, n2⟩ | ⟨n1, n2, n3, n4⟩
  · subst n2
    have e0 : bwE t n e = e := if_neg n1
    exact ⟨r, f, 0, fun _ => 0, h1, h2, rfl, fun i hi => absurd hi (by omega), fun _ => by show bwE t n e - (e + 1) = 0; omega, fun h => absurd h (by omega), by omega⟩
  · have hb := (bwE_le (t := t) (n := n) (a := e) he)
    have p0 : ∀ i, i ≤ L → e + 1 + i ≤ psF t n (e + 1) i := fun i _ => by
      have := ps_mono (t := t) (n := n) (a := e + 1) (i := 0) i
      rw [Nat.zero_add] at this
      exact this
    have p1 : ∀ i, i < L → spn isWd t n (psF t n (e + 1) i) ≤ bwE t n e := fun i hi => by
      have := ps_mono (t := t) (n := n) (a := e + 1) (i := i + 1) (L - (i + 1))
      rw [show i + 1 + (L - (i + 1)) = L by omega, n3] at this
      have e2 : psF t n (e + 1) (i + 1) = spn isWd t n (psF t n (e + 1) i) + 1 := rfl
      omega
    have hL := p0 L (Nat.le_refl _)
    refine ⟨r, f, L, fun i => psF t n (e + 1) i - (e + 1), h1, h2, by show psF t n (e + 1) 0 - (e + 1) = 0; rw [psF]; omega, ?_, fun h => by omega, fun _ => ?_, by omega⟩
    · intro i hi
      obtain ⟨w, a, b⟩ := n4 i hi
      have pi := p0 i (by omega)
      have qi := p1 i hi
      have ge : psF t n (e + 1) i ≤ spn isWd t n (psF t n (e + 1) i) := spn_ge
      have es : spn noPt (fun j => t (e + 1 + j)) (bwE t n e - (e + 1)) (psF t n (e + 1) i - (e + 1)) = spn isWd t n (psF t n (e + 1) i) - (e + 1) := by
        refine spn_is (by omega) (by omega) (fun j a b => wd_noPt (spn_all (n := n) (a := psF t n (e + 1) i) (by omega) (by omega))) (fun b => ?_)
        have c : i < cwN t n (n + 1 - (e + 1)) (e + 1) := by
          refine Nat.lt_of_not_le (fun c => ?_)
          have : i + 1 = L := by omega
          have e2 : psF t n (e + 1) (i + 1) = spn isWd t n (psF t n (e + 1) i) + 1 := rfl
          rw [this, n3] at e2
          omega
        have d := cwN_at _ _ _ c
        show noPt (t (e + 1 + (spn isWd t n (psF t n (e + 1) i) - (e + 1)))) = false
        rw [show e + 1 + (spn isWd t n (psF t n (e + 1) i) - (e + 1)) = spn isWd t n (psF t n (e + 1) i) by omega, d.2]
        decide +kernel
      refine ⟨w, a, ?_, ?_⟩
      · show wdAt g w (fun j => t (e + 1 + (psF t n (e + 1) i - (e + 1) + j))) (spn noPt (fun j => t (e + 1 + j)) (bwE t n e - (e + 1)) (psF t n (e + 1) i - (e + 1)) - (psF t n (e + 1) i - (e + 1)))
        rw [es, show (fun j => t (e + 1 + (psF t n (e + 1) i - (e + 1) + j))) = (fun j => t (psF t n (e + 1) i + j)) from funext (fun j => by rw [show e + 1 + (psF t n (e + 1) i - (e + 1) + j) = psF t n (e + 1) i + j by omega]), show spn isWd t n (psF t n (e + 1) i) - (e + 1) - (psF t n (e + 1) i - (e + 1)) = spn isWd t n (psF t n (e + 1) i) - psF t n (e + 1) i by omega]
        exact wd0_24 b (by omega)
      · show psF t n (e + 1) (i + 1) - (e + 1) = spn noPt (fun j => t (e + 1 + j)) (bwE t n e - (e + 1)) (psF t n (e + 1) i - (e + 1)) + 1
        rw [es, psF]
        omega
    · show psF t n (e + 1) L - (e + 1) = bwE t n e - (e + 1) + 1
      omega
theorem sgC_le {n a : Nat} {t : Nat → Int32} (ha : a ≤ n) : (sgC n t a).1 < 7 ∧ a ≤ (sgC n t a).2 ∧ (sgC n t a).2 ≤ n := by
  unfold sgC
  repeat' split
  all_goals first | exact ⟨by omega, by omega, by have := ‹atc n t (a + 1) _›.1; omega⟩ | exact ⟨by omega, by omega, by have := ‹atc n t a _›.1; omega⟩ | exact ⟨by omega, by omega, ha⟩
/-- a comparator without words: its sign and its end -/
def tlA (n : Nat) (t : Nat → Int32) (a e : Nat) : Nat × Nat := if a < (sgC n t a).2 ∨ ¬ atc n t e 46 then ((sgC n t a).1, e) else (1, e + 1 + 1)
def cmR (t : Nat → Int32) (n a : Nat) (sp : sV) (e : Nat) : Prop :=
  (atc n t a 42 ∧ sp = (none, none, false, none, false) ∧ e = a + 1) ∨
  (¬ atc n t a 42 ∧ e - (sgC n t a).2 ≤ 24 ∧ e ≤ n ∧ (
    (nb1 t n (sgC n t a).2 ∧ ∃ E, E = spn isDg t n (sgC n t a).2 ∧ e = (tlA n t a E).2 ∧ sp = spC (tlA n t a E).1 (nI (nmN t n (sgC n t a).2), nI 0, nI 0, 0, fun _ => 0) 1) ∨
    (nb2 t n (sgC n t a).2 ∧ ∃ E, E = spn isDg t n (spn isDg t n (sgC n t a).2 + 1) ∧ e = (tlA n t a E).2 ∧ sp = spC (tlA n t a E).1 (nI (nmN t n (sgC n t a).2), nI (nmN t n (spn isDg t n (sgC n t a).2 + 1)), nI 0, 0, fun _ => 0) 2) ∨
    (nb3 t n (sgC n t a).2 ∧ ∃ E, E = spn isDg t n (spn isDg t n (spn isDg t n (sgC n t a).2 + 1) + 1) ∧ ¬ bwB t n E ∧ e = bwE t n E ∧ sp = spC (sgC n t a).1 (nI (nmN t n (sgC n t a).2), nI (nmN t n (spn isDg t n (sgC n t a).2 + 1)), nI (nmN t n (spn isDg t n (spn isDg t n (sgC n t a).2 + 1) + 1)), bwE t n E - (E + 1), fun j => t (E + 1 + j)) 3)))
def cmN (t : Nat → Int32) (n a : Nat) : Prop :=
  ¬ atc n t a 42 ∧ (nb0 t n (sgC n t a).2 ∨
    (nb1 t n (sgC n t a).2 ∧ 24 < (tlA n t a (spn isDg t n (sgC n t a).2)).2 - (sgC n t a).2) ∨
    (nb2 t n (sgC n t a).2 ∧ 24 < (tlA n t a (spn isDg t n (spn isDg t n (sgC n t a).2 + 1))).2 - (sgC n t a).2) ∨
    (nb3 t n (sgC n t a).2 ∧ (bwB t n (spn isDg t n (spn isDg t n (spn isDg t n (sgC n t a).2 + 1) + 1)) ∨ 24 < bwE t n (spn isDg t n (spn isDg t n (spn isDg t n (sgC n t a).2 + 1) + 1)) - (sgC n t a).2)))
/-- a point that no number stands behind is before a star -/
theorem nb1_st {t : Nat → Int32} {n a : Nat} (h : nb1 t n a) (hp : atc n t (spn isDg t n a) 46) : atc n t (spn isDg t n a + 1) 42 := Classical.byContradiction (fun g => h.2 ⟨hp, g⟩)
theorem nb_le1 {t : Nat → Int32} {n a : Nat} (ha : a ≤ n) (h : nb1 t n a) : a < spn isDg t n a ∧ spn isDg t n a ≤ n := ⟨h.1.1, spn_le ha⟩
theorem nb_le2 {t : Nat → Int32} {n a : Nat} (ha : a ≤ n) (h : nb2 t n a) : a < spn isDg t n (spn isDg t n a + 1) ∧ spn isDg t n (spn isDg t n a + 1) ≤ n := by
  have h1 := h.1.1
  have h2 := h.2.1.1.1
  have h3 : spn isDg t n a + 1 ≤ spn isDg t n (spn isDg t n a + 1) := spn_ge
  exact ⟨by omega, spn_le (by omega)⟩
theorem nb_le3 {t : Nat → Int32} {n a : Nat} (ha : a ≤ n) (h : nb3 t n a) : a < spn isDg t n (spn isDg t n (spn isDg t n a + 1) + 1) ∧ spn isDg t n (spn isDg t n (spn isDg t n a + 1) + 1) ≤ n := by
  have h1 := h.1.1
  have h2 := h.2.1.1.1
  have h3 : spn isDg t n a + 1 ≤ spn isDg t n (spn isDg t n a + 1) := spn_ge
  have h4 := h.2.2.2.1.1.1
  have h5 : spn isDg t n (spn isDg t n a + 1) + 1 ≤ spn isDg t n (spn isDg t n (spn isDg t n a + 1) + 1) := spn_ge
  exact ⟨by omega, spn_le (by omega)⟩
theorem tl_keep {n a e : Nat} {t : Nat → Int32} (h : a < (sgC n t a).2 ∨ ¬ atc n t e 46) : tlA n t a e = ((sgC n t a).1, e) := if_pos h
theorem tl_star {n a e : Nat} {t : Nat → Int32} (h : (sgC n t a).2 ≤ a) (h' : atc n t e 46) : tlA n t a e = (1, e + 1 + 1) := if_neg (fun g => g.elim (fun g => by omega) (fun g => g h'))
set_option maxHeartbeats 4000000 in
theorem k_X1_comparator {d : Nat} {h : zH} {p pb pn n a : Nat} {t tc : Nat → Int32} {nf : Nat → Int32} {g : zH} (hx : txR n t tc) (hn : n ≤ 160) (ha : a ≤ n) (h1 : h p = some (rdO pb n a pn)) (h2 : h pb = some (zaI 0 160 tc)) (h3 : h pn = some (zaI 1 3 nf)) (hf : ∀ j, j < 160 → fits .byte (.int (tc j)) = true) (hg : hle g h) (gp : g p = none) (gn : g pn = none) : zCall (d + 6) 14 [zR (some p)] h (2 * n + 8) (4 * n + 18) (fun h' o => (∃ q g' sp e F, o = .inl (some (zR (some q))) ∧ cmR t n a sp e ∧ a < e ∧ e ≤ n ∧ h' p = some (rdO pb n e pn) ∧ h' pn = some (zaI 1 3 F) ∧ ext (fun y => y = p ∨ y = pn) g h g' h' ∧ spAt g' q sp) ∨ (o = .inl (some (zR none)) ∧ cmN t n a ∧ ∃ b g' F, b ≤ n ∧ h' p = some (rdO pb n b pn) ∧ h' pn = some (zaI 1 3 F) ∧ ext (fun y => y = p ∨ y = pn) g h g' h')) := by
  refine zCall.of (d := d + 5) (T := tb_14) (L := [some (zR (some p)), none, none, none, none, none, none]) (Nat.le_of_ble_eq_true rfl) rfl rfl ?_
  have x0 : ext (fun y => y = p ∨ y = pn) g h g h := ext_refl hg
  refine z_ald rfl rfl ?_
  refine z_ico (x := (nI 42)) rfl rfl ?_
  refine z_call (as := [zR (some p), zI (nI 42)]) (r := []) (mc' := 0) (ms' := 0) rfl rfl rfl (Nat.le_of_ble_eq_true rfl) (by omega) (by omega) (rc0 rfl h1) (k_X1_take hx hn (a := a) (c := 42) (by omega) h1 h2 (by omega)) (by rintro _ _ (⟨e, _⟩ | ⟨e, _⟩) <;> cases e) ?_
  rintro g_1 _ (⟨e9, x_2, e_3, f_4⟩ | ⟨e9, x_2, e8⟩) <;> cases e9
  · skip
    have k_5 := (f_4 pb (zne h2 h1 (by nofun))).trans h2
    have k_6 := (f_4 pn (zne h3 h1 (by nofun))).trans h3
    have x_7 := ext_mut x0 f_4 (Or.inr (Or.inl rfl)) gp e_3
    have l_x_2 := x_2.1
    refine z_ifN (by omega) rfl (fun h_8 => ?_) (fun h_8 => ?_)
    · replace h_8 : 1 = 0 := h_8
      omega
    · replace h_8 : ¬ (1 = 0) := h_8
      refine z_call (as := []) (r := []) (mc' := 1) (ms' := 5) rfl rfl rfl (Nat.le_of_ble_eq_true rfl) (by omega) (by omega) (rc1 rfl) (k_X6_ofAll x_7.2.1) (by rintro _ _ ⟨_, _, e, _⟩; cases e) ?_
      rintro g_9 _ ⟨q_10, u_11, e9, x_12, t_13⟩; cases e9
      · skip
        have k_14 := (x_12.2.2.2.2 pb (some_nn k_5) (fun e => e)).trans k_5
        have k_15 := (x_12.2.2.2.2 pn (some_nn k_6) (fun e => e)).trans k_6
        have k_16 := (x_12.2.2.2.2 p (some_nn e_3) (fun e => e)).trans e_3
        have n_17 := x_12.2.2.1 p gp (some_nn e_3)
        have n_18 := x_12.2.2.1 pn gn (some_nn k_6)
        have x_19 := ext_call x_7 x_12 (fun y e => e.elim)
        refine z_ret rfl ⟨_, rfl⟩ ?_
        exact Or.inl ⟨_, _, _, _, _, rfl, Or.inl ⟨x_2, rfl, rfl⟩, by omega, by omega, k_16, k_15, x_19, t_13⟩
  · skip
    cases e8
    refine z_ifN (by omega) rfl (fun h_20 => ?_) (fun h_20 => ?_)
    · replace h_20 : 0 = 0 := h_20
      refine z_ald rfl rfl ?_
      refine z_get rfl h1 rfl ?_
      refine z_ist (ls' := [some (zR (some p)), some (zI (nI a)), none, none, none, none, none]) rfl (Nat.le_of_ble_eq_true rfl) rfl ?_
      refine z_ald rfl rfl ?_
      refine z_call (as := [zR (some p)]) (r := []) (mc' := 0) (ms' := 0) rfl rfl rfl (Nat.le_of_ble_eq_true rfl) (by omega) (by omega) (rc0 rfl h1) (k_X1_sign hx hn (a := a) (by omega) h1 h2) (by rintro _ _ ⟨e, _⟩; cases e) ?_
      rintro g_21 _ ⟨e9, e_22, f_23⟩; cases e9
      · skip
        have e_22_a := sgC_le (t := t) (n := n) (a := a) (by omega)
        have k_24 := (f_23 pb (zne h2 h1 (by nofun))).trans h2
        have k_25 := (f_23 pn (zne h3 h1 (by nofun))).trans h3
        have x_26 := ext_mut x0 f_23 (Or.inr (Or.inl rfl)) gp e_22
        refine z_ist (ls' := [some (zR (some p)), some (zI (nI a)), some (zI (nI ((sgC n t a).1))), none, none, none, none]) rfl (Nat.le_of_ble_eq_true rfl) rfl ?_
        refine z_ald rfl rfl ?_
        refine z_get rfl e_22 rfl ?_
        refine z_ild rfl rfl ?_
        refine z_cmpN (by omega) (by omega) rfl (fun h_27 => ?_) (fun h_27 => ?_)
        · replace h_27 : (sgC n t a).2 ≤ a := h_27
          refine z_ico (x := (nI 0)) rfl rfl ?_
          refine z_ist (ls' := [some (zR (some p)), some (zI (nI a)), some (zI (nI ((sgC n t a).1))), some (zI (nI 0)), none, none, none]) rfl (Nat.le_of_ble_eq_true rfl) rfl ?_
          refine z_ald rfl rfl ?_
          refine z_get rfl e_22 rfl ?_
          refine z_ist (ls' := [some (zR (some p)), some (zI (nI ((sgC n t a).2))), some (zI (nI ((sgC n t a).1))), some (zI (nI 0)), none, none, none]) rfl (Nat.le_of_ble_eq_true rfl) rfl ?_
          refine z_ald rfl rfl ?_
          refine z_call (as := [zR (some p)]) (r := []) (mc' := 0) (ms' := 0) rfl rfl rfl (Nat.le_of_ble_eq_true rfl) (by omega) (by omega) (rc0 rfl e_22) (k_X1_numbers hx hn (a := (sgC n t a).2) (by omega) e_22 k_24 k_25) (by rintro _ _ (⟨e, _⟩ | ⟨e, _⟩ | ⟨e, _⟩ | ⟨e, _⟩) <;> cases e) ?_
          rintro g_28 _ (⟨e9, x_29, b_30, F_32, l_31, e_33, e_34, f_35⟩ | ⟨e9, x_29, e_33, F_32, e_34, v_36, f_35⟩ | ⟨e9, x_29, e_33, F_32, e_34, v_36, f_35⟩ | ⟨e9, x_29, e_33, F_32, e_34, v_36, f_35⟩) <;> cases e9
          · skip
            have k_37 := (f_35 pb (zne k_24 e_22 (by nofun)) (zne k_24 k_25 (by nofun))).trans k_24
            have x_38 := ext_mut2 x_26 f_35 (Or.inr (Or.inl rfl)) gp e_33 (Or.inr (Or.inr rfl)) gn e_34
            refine z_ist (ls' := [some (zR (some p)), some (zI (nI ((sgC n t a).2))), some (zI (nI ((sgC n t a).1))), some (zI (nI 0)), some (zI (nI 0)), none, none]) rfl (Nat.le_of_ble_eq_true rfl) rfl ?_
            refine z_ild rfl rfl ?_
            refine z_ifN (by omega) rfl (fun h_39 => ?_) (fun h_39 => ?_)
            · replace h_39 : ¬ 0 = 0 := h_39
              omega
            · replace h_39 : 0 = 0 := Decidable.of_not_not h_39
              refine z_nul rfl ?_
              refine z_ret rfl ⟨_, rfl⟩ ?_
              exact Or.inr ⟨rfl, ⟨x_2, Or.inl x_29⟩, _, _, _, by omega, e_33, e_34, x_38⟩
          · skip
            have e_33_a := nb_le1 (by omega) x_29
            have k_40 := (f_35 pb (zne k_24 e_22 (by nofun)) (zne k_24 k_25 (by nofun))).trans k_24
            have x_41 := ext_mut2 x_26 f_35 (Or.inr (Or.inl rfl)) gp e_33 (Or.inr (Or.inr rfl)) gn e_34
            refine z_ist (ls' := [some (zR (some p)), some (zI (nI ((sgC n t a).2))), some (zI (nI ((sgC n t a).1))), some (zI (nI 0)), some (zI (nI 1)), none, none]) rfl (Nat.le_of_ble_eq_true rfl) rfl ?_
            refine z_ild rfl rfl ?_
            refine z_ifN (by omega) rfl (fun h_42 => ?_) (fun h_42 => ?_)
            · replace h_42 : ¬ 1 = 0 := h_42
              refine z_ild rfl rfl ?_
              refine z_ico (x := (nI 3)) rfl rfl ?_
              refine z_cmpN (by omega) (by omega) rfl (fun h_43 => ?_) (fun h_43 => ?_)
              · replace h_43 : 3 ≤ 1 := h_43
                omega
              · replace h_43 := Nat.not_le.mp h_43
                refine z_ild rfl rfl ?_
                refine z_ifN (by omega) rfl (fun h_44 => ?_) (fun h_44 => ?_)
                · replace h_44 : ¬ 0 = 0 := h_44
                  omega
                · replace h_44 : 0 = 0 := Decidable.of_not_not h_44
                  refine z_ald rfl rfl ?_
                  refine z_ico (x := (nI 46)) rfl rfl ?_
                  refine z_call (as := [zR (some p), zI (nI 46)]) (r := []) (mc' := 0) (ms' := 0) rfl rfl rfl (Nat.le_of_ble_eq_true rfl) (by omega) (by omega) (rc0 rfl e_33) (k_X1_take hx hn (a := spn isDg t n ((sgC n t a).2)) (c := 46) (by omega) e_33 k_40 (by omega)) (by rintro _ _ (⟨e, _⟩ | ⟨e, _⟩) <;> cases e) ?_
                  rintro g_45 _ (⟨e9, x_46, e_47, f_48⟩ | ⟨e9, x_46, e8⟩) <;> cases e9
                  · skip
                    have k_49 := (f_48 pb (zne k_40 e_33 (by nofun))).trans k_40
                    have k_50 := (f_48 pn (zne e_34 e_33 (by nofun))).trans e_34
                    have x_51 := ext_mut x_41 f_48 (Or.inr (Or.inl rfl)) gp e_47
                    have l_x_46 := x_46.1
                    refine z_ifN (by omega) rfl (fun h_52 => ?_) (fun h_52 => ?_)
                    · replace h_52 : 1 = 0 := h_52
                      omega
                    · replace h_52 : ¬ (1 = 0) := h_52
                      refine z_ald rfl rfl ?_
                      refine z_ico (x := (nI 42)) rfl rfl ?_
                      refine z_call (as := [zR (some p), zI (nI 42)]) (r := []) (mc' := 0) (ms' := 0) rfl rfl rfl (Nat.le_of_ble_eq_true rfl) (by omega) (by omega) (rc0 rfl e_47) (k_X1_take hx hn (a := spn isDg t n ((sgC n t a).2) + 1) (c := 42) (by omega) e_47 k_49 (by omega)) (by rintro _ _ (⟨e, _⟩ | ⟨e, _⟩) <;> cases e) ?_
                      rintro g_53 _ (⟨e9, x_54, e_55, f_56⟩ | ⟨e9, x_54, e8⟩) <;> cases e9
                      · skip
                        have k_57 := (f_56 pb (zne k_49 e_47 (by nofun))).trans k_49
                        have k_58 := (f_56 pn (zne k_50 e_47 (by nofun))).trans k_50
                        have x_59 := ext_mut x_51 f_56 (Or.inr (Or.inl rfl)) gp e_55
                        have l_x_54 := x_54.1
                        refine z_ifN (by omega) rfl (fun h_60 => ?_) (fun h_60 => ?_)
                        · replace h_60 : 1 = 0 := h_60
                          omega
                        · replace h_60 : ¬ (1 = 0) := h_60
                          refine z_ico (x := (nI 1)) rfl rfl ?_
                          refine z_ist (ls' := [some (zR (some p)), some (zI (nI ((sgC n t a).2))), some (zI (nI 1)), some (zI (nI 0)), some (zI (nI 1)), none, none]) rfl (Nat.le_of_ble_eq_true rfl) rfl ?_
                          refine z_ild rfl rfl ?_
                          refine z_ico (x := (nI 3)) rfl rfl ?_
                          refine z_cmpN (by omega) (by omega) rfl (fun h_61 => ?_) (fun h_61 => ?_)
                          · replace h_61 : ¬ 1 = 3 := h_61
                            refine z_ico (x := (nI 0)) rfl rfl ?_
                            refine z_newR rfl (by omega) (by omega) (by omega) ?_
                            intro q_62 g_63 h_64 e_65 f_66
                            have k_67 := (f_66 pb (zn0 k_57 h_64)).trans k_57
                            have k_68 := (f_66 pn (zn0 k_58 h_64)).trans k_58
                            have k_69 := (f_66 p (zn0 e_55 h_64)).trans e_55
                            have n_71 := ext_new x_59 h_64
                            have n_72 := ext_gn x_59 h_64
                            have x_70 := ext_mut x_59 f_66 (Or.inl n_71) n_72 e_65
                            refine z_ast (ls' := [some (zR (some p)), some (zI (nI ((sgC n t a).2))), some (zI (nI 1)), some (zI (nI 0)), some (zI (nI 1)), some (zR (some q_62)), none]) rfl (Nat.le_of_ble_eq_true rfl) rfl ?_
                            refine z_ald rfl rfl ?_
                            refine z_nlP rfl ?_
                            refine z_ald rfl rfl ?_
                            refine z_get rfl k_69 rfl ?_
                            refine z_ild rfl rfl ?_
                            refine z_ibi (v := (nI (spn isDg t n ((sgC n t a).2) + 1 + 1 - ((sgC n t a).2)))) rfl (pk_sub (by omega)) ?_
                            refine z_ico (x := (nI 24)) rfl rfl ?_
                            refine z_cmpN (by omega) (by omega) rfl (fun h_73 => ?_) (fun h_73 => ?_)
                            · replace h_73 : spn isDg t n ((sgC n t a).2) + 1 + 1 - ((sgC n t a).2) ≤ 24 := h_73
                              refine z_new rfl (by omega) (by omega) ?_
                              intro q_74 g_75 h_76 e_77 f_78
                              have k_79 := (f_78 pb (zn0 k_67 h_76)).trans k_67
                              have k_80 := (f_78 pn (zn0 k_68 h_76)).trans k_68
                              have k_81 := (f_78 p (zn0 k_69 h_76)).trans k_69
                              have k_82 := (f_78 q_62 (zn0 e_65 h_76)).trans e_65
                              have n_84 := ext_new x_70 h_76
                              have n_85 := ext_gn x_70 h_76
                              have x_83 := ext_mut x_70 f_78 (Or.inl n_84) n_85 e_77
                              replace e_77 : g_75 q_74 = some (zO 7 [zI (nI 0), zI (nI 0), zI (nI 0), zR none]) := e_77
                              refine z_dup rfl rfl ?_
                              refine z_ald rfl rfl ?_
                              refine z_get rfl k_81 rfl ?_
                              refine z_ico (x := (nI 0)) rfl rfl ?_
                              refine z_iald rfl k_80 (by omega) (by omega) ?_
                              refine z_top (v2 := zI (nI (nmN t n ((sgC n t a).2)))) (congrArg zI v_36.1) ?_
                              refine z_ald rfl rfl ?_
                              refine z_get rfl k_81 rfl ?_
                              refine z_ico (x := (nI 1)) rfl rfl ?_
                              refine z_iald rfl k_80 (by omega) (by omega) ?_
                              refine z_top (v2 := zI (nI 0)) (congrArg zI v_36.2.1) ?_
                              refine z_ald rfl rfl ?_
                              refine z_get rfl k_81 rfl ?_
                              refine z_ico (x := (nI 2)) rfl rfl ?_
                              refine z_iald rfl k_80 (by omega) (by omega) ?_
                              refine z_top (v2 := zI (nI 0)) (congrArg zI v_36.2.2) ?_
                              refine z_ald rfl rfl ?_
                              refine z_call (as := [zR (some q_74), zI (nI (nmN t n ((sgC n t a).2))), zI (nI 0), zI (nI 0), zR (some q_62)]) (r := [zR (some q_74)]) (mc' := 0) (ms' := 0) rfl rfl rfl (Nat.le_of_ble_eq_true rfl) (by omega) (by omega) (rc2 rfl) (k_X7_init e_77) (by rintro _ _ ⟨e, _⟩; cases e) ?_
                              rintro g_86 _ ⟨e9, e_87, f_88⟩; cases e9
                              · skip
                                have k_89 := (f_88 pb (zne k_79 e_77 (by nofun))).trans k_79
                                have k_90 := (f_88 pn (zne k_80 e_77 (by nofun))).trans k_80
                                have k_91 := (f_88 p (zne k_81 e_77 (by nofun))).trans k_81
                                have k_92 := (f_88 q_62 (zne k_82 e_77 (by nofun))).trans k_82
                                have x_93 := ext_mut x_83 f_88 (Or.inl n_84) n_85 e_87
                                refine z_ast (ls' := [some (zR (some p)), some (zI (nI ((sgC n t a).2))), some (zI (nI 1)), some (zI (nI 0)), some (zI (nI 1)), some (zR (some q_62)), some (zR (some q_74))]) rfl (Nat.le_of_ble_eq_true rfl) rfl ?_
                                obtain ⟨u_94, x_95, l_96, c_97, o_98⟩ := ext_frzE x_93 (Or.inl n_71) n_72 k_92
                                have n_99 := (o_98 p (zne k_91 k_92 (by nofun))).trans gp
                                have n_100 := (o_98 pn (zne k_90 k_92 (by nofun))).trans gn
                                have n_101 := (o_98 q_74 (zne e_87 k_92 (by nofun))).trans n_85
                                obtain ⟨u_102, x_103, l_104, c_105, o_106⟩ := ext_frzE x_95 (Or.inl n_84) n_101 e_87
                                have n_107 := (o_106 p (zne k_91 e_87 (by nofun))).trans n_99
                                have n_108 := (o_106 pn (zne k_90 e_87 (by nofun))).trans n_100
                                have c_109 := l_104 _ _ c_97
                                have t_110 := vr_none c_105 c_109
                                refine z_ild rfl rfl ?_
                                refine z_ald rfl rfl ?_
                                refine z_ild rfl rfl ?_
                                refine z_call (as := [zI (nI 1), zR (some q_74), zI (nI 1)]) (r := []) (mc' := 5) (ms' := 13) rfl rfl rfl (Nat.le_of_ble_eq_true rfl) (by omega) (by omega) (rc1 rfl) (k_X6_of (s := 1) (by omega) t_110 (by omega) x_103.2.1) (by rintro _ _ ⟨_, _, e, _⟩; cases e) ?_
                                rintro g_111 _ ⟨q_112, u_113, e9, x_114, t_115⟩; cases e9
                                · skip
                                  have k_116 := (x_114.2.2.2.2 pb (some_nn k_89) (fun e => e)).trans k_89
                                  have k_117 := (x_114.2.2.2.2 pn (some_nn k_90) (fun e => e)).trans k_90
                                  have k_118 := (x_114.2.2.2.2 p (some_nn k_91) (fun e => e)).trans k_91
                                  have k_119 := (x_114.2.2.2.2 q_62 (some_nn k_92) (fun e => e)).trans k_92
                                  have k_120 := (x_114.2.2.2.2 q_74 (some_nn e_87) (fun e => e)).trans e_87
                                  have n_121 := x_114.2.2.1 p n_107 (some_nn k_91)
                                  have n_122 := x_114.2.2.1 pn n_108 (some_nn k_90)
                                  have x_123 := ext_call x_103 x_114 (fun y e => e.elim)
                                  have c_124 := x_114.1 _ _ c_109
                                  have c_125 := x_114.1 _ _ c_105
                                  have t_126 := vrAt_mono x_114.1 t_110
                                  refine z_ret rfl ⟨_, rfl⟩ ?_
                                  have tl := tl_star (n := n) (t := t) (a := a) (e := spn isDg t n (sgC n t a).2) (by omega) x_46
                                  exact Or.inl ⟨_, _, _, _, _, rfl, Or.inr ⟨x_2, by omega, by omega, Or.inl ⟨x_29, _, rfl, by rw [tl], by rw [tl]⟩⟩, by omega, by omega, k_118, k_117, x_123, t_115⟩
                            · replace h_73 := Nat.not_le.mp h_73
                              refine z_nul rfl ?_
                              refine z_ret rfl ⟨_, rfl⟩ ?_
                              have tl := tl_star (n := n) (t := t) (a := a) (e := spn isDg t n (sgC n t a).2) (by omega) x_46
                              exact Or.inr ⟨rfl, ⟨x_2, Or.inr (Or.inl ⟨x_29, by rw [tl]; omega⟩)⟩, _, _, _, by omega, k_69, k_68, x_70⟩
                          · replace h_61 : 1 = 3 := Decidable.of_not_not h_61
                            omega
                      · skip
                        cases e8
                        refine z_ifN (by omega) rfl (fun h_127 => ?_) (fun h_127 => ?_)
                        · replace h_127 : 0 = 0 := h_127
                          exact absurd (nb1_st x_29 x_46) x_54
                        · replace h_127 : ¬ (0 = 0) := h_127
                          omega
                  · skip
                    cases e8
                    refine z_ifN (by omega) rfl (fun h_128 => ?_) (fun h_128 => ?_)
                    · replace h_128 : 0 = 0 := h_128
                      refine z_ild rfl rfl ?_
                      refine z_ico (x := (nI 3)) rfl rfl ?_
                      refine z_cmpN (by omega) (by omega) rfl (fun h_129 => ?_) (fun h_129 => ?_)
                      · replace h_129 : ¬ 1 = 3 := h_129
                        refine z_ico (x := (nI 0)) rfl rfl ?_
                        refine z_newR rfl (by omega) (by omega) (by omega) ?_
                        intro q_130 g_131 h_132 e_133 f_134
                        have k_135 := (f_134 pb (zn0 k_40 h_132)).trans k_40
                        have k_136 := (f_134 p (zn0 e_33 h_132)).trans e_33
                        have k_137 := (f_134 pn (zn0 e_34 h_132)).trans e_34
                        have n_139 := ext_new x_41 h_132
                        have n_140 := ext_gn x_41 h_132
                        have x_138 := ext_mut x_41 f_134 (Or.inl n_139) n_140 e_133
                        refine z_ast (ls' := [some (zR (some p)), some (zI (nI ((sgC n t a).2))), some (zI (nI ((sgC n t a).1))), some (zI (nI 0)), some (zI (nI 1)), some (zR (some q_130)), none]) rfl (Nat.le_of_ble_eq_true rfl) rfl ?_
                        refine z_ald rfl rfl ?_
                        refine z_nlP rfl ?_
                        refine z_ald rfl rfl ?_
                        refine z_get rfl k_136 rfl ?_
                        refine z_ild rfl rfl ?_
                        refine z_ibi (v := (nI (spn isDg t n ((sgC n t a).2) - ((sgC n t a).2)))) rfl (pk_sub (by omega)) ?_
                        refine z_ico (x := (nI 24)) rfl rfl ?_
                        refine z_cmpN (by omega) (by omega) rfl (fun h_141 => ?_) (fun h_141 => ?_)
                        · replace h_141 : spn isDg t n ((sgC n t a).2) - ((sgC n t a).2) ≤ 24 := h_141
                          refine z_new rfl (by omega) (by omega) ?_
                          intro q_142 g_143 h_144 e_145 f_146
                          have k_147 := (f_146 pb (zn0 k_135 h_144)).trans k_135
                          have k_148 := (f_146 p (zn0 k_136 h_144)).trans k_136
                          have k_149 := (f_146 pn (zn0 k_137 h_144)).trans k_137
                          have k_150 := (f_146 q_130 (zn0 e_133 h_144)).trans e_133
                          have n_152 := ext_new x_138 h_144
                          have n_153 := ext_gn x_138 h_144
                          have x_151 := ext_mut x_138 f_146 (Or.inl n_152) n_153 e_145
                          replace e_145 : g_143 q_142 = some (zO 7 [zI (nI 0), zI (nI 0), zI (nI 0), zR none]) := e_145
                          refine z_dup rfl rfl ?_
                          refine z_ald rfl rfl ?_
                          refine z_get rfl k_148 rfl ?_
                          refine z_ico (x := (nI 0)) rfl rfl ?_
                          refine z_iald rfl k_149 (by omega) (by omega) ?_
                          refine z_top (v2 := zI (nI (nmN t n ((sgC n t a).2)))) (congrArg zI v_36.1) ?_
                          refine z_ald rfl rfl ?_
                          refine z_get rfl k_148 rfl ?_
                          refine z_ico (x := (nI 1)) rfl rfl ?_
                          refine z_iald rfl k_149 (by omega) (by omega) ?_
                          refine z_top (v2 := zI (nI 0)) (congrArg zI v_36.2.1) ?_
                          refine z_ald rfl rfl ?_
                          refine z_get rfl k_148 rfl ?_
                          refine z_ico (x := (nI 2)) rfl rfl ?_
                          refine z_iald rfl k_149 (by omega) (by omega) ?_
                          refine z_top (v2 := zI (nI 0)) (congrArg zI v_36.2.2) ?_
                          refine z_ald rfl rfl ?_
                          refine z_call (as := [zR (some q_142), zI (nI (nmN t n ((sgC n t a).2))), zI (nI 0), zI (nI 0), zR (some q_130)]) (r := [zR (some q_142)]) (mc' := 0) (ms' := 0) rfl rfl rfl (Nat.le_of_ble_eq_true rfl) (by omega) (by omega) (rc2 rfl) (k_X7_init e_145) (by rintro _ _ ⟨e, _⟩; cases e) ?_
                          rintro g_154 _ ⟨e9, e_155, f_156⟩; cases e9
                          · skip
                            have k_157 := (f_156 pb (zne k_147 e_145 (by nofun))).trans k_147
                            have k_158 := (f_156 p (zne k_148 e_145 (by nofun))).trans k_148
                            have k_159 := (f_156 pn (zne k_149 e_145 (by nofun))).trans k_149
                            have k_160 := (f_156 q_130 (zne k_150 e_145 (by nofun))).trans k_150
                            have x_161 := ext_mut x_151 f_156 (Or.inl n_152) n_153 e_155
                            refine z_ast (ls' := [some (zR (some p)), some (zI (nI ((sgC n t a).2))), some (zI (nI ((sgC n t a).1))), some (zI (nI 0)), some (zI (nI 1)), some (zR (some q_130)), some (zR (some q_142))]) rfl (Nat.le_of_ble_eq_true rfl) rfl ?_
                            obtain ⟨u_162, x_163, l_164, c_165, o_166⟩ := ext_frzE x_161 (Or.inl n_139) n_140 k_160
                            have n_167 := (o_166 p (zne k_158 k_160 (by nofun))).trans gp
                            have n_168 := (o_166 pn (zne k_159 k_160 (by nofun))).trans gn
                            have n_169 := (o_166 q_142 (zne e_155 k_160 (by nofun))).trans n_153
                            obtain ⟨u_170, x_171, l_172, c_173, o_174⟩ := ext_frzE x_163 (Or.inl n_152) n_169 e_155
                            have n_175 := (o_174 p (zne k_158 e_155 (by nofun))).trans n_167
                            have n_176 := (o_174 pn (zne k_159 e_155 (by nofun))).trans n_168
                            have c_177 := l_172 _ _ c_165
                            have t_178 := vr_none c_173 c_177
                            refine z_ild rfl rfl ?_
                            refine z_ald rfl rfl ?_
                            refine z_ild rfl rfl ?_
                            refine z_call (as := [zI (nI ((sgC n t a).1)), zR (some q_142), zI (nI 1)]) (r := []) (mc' := 5) (ms' := 13) rfl rfl rfl (Nat.le_of_ble_eq_true rfl) (by omega) (by omega) (rc1 rfl) (k_X6_of (s := (sgC n t a).1) (by omega) t_178 (by omega) x_171.2.1) (by rintro _ _ ⟨_, _, e, _⟩; cases e) ?_
                            rintro g_179 _ ⟨q_180, u_181, e9, x_182, t_183⟩; cases e9
                            · skip
                              have k_184 := (x_182.2.2.2.2 pb (some_nn k_157) (fun e => e)).trans k_157
                              have k_185 := (x_182.2.2.2.2 p (some_nn k_158) (fun e => e)).trans k_158
                              have k_186 := (x_182.2.2.2.2 pn (some_nn k_159) (fun e => e)).trans k_159
                              have k_187 := (x_182.2.2.2.2 q_130 (some_nn k_160) (fun e => e)).trans k_160
                              have k_188 := (x_182.2.2.2.2 q_142 (some_nn e_155) (fun e => e)).trans e_155
                              have n_189 := x_182.2.2.1 p n_175 (some_nn k_158)
                              have n_190 := x_182.2.2.1 pn n_176 (some_nn k_159)
                              have x_191 := ext_call x_171 x_182 (fun y e => e.elim)
                              have c_192 := x_182.1 _ _ c_177
                              have c_193 := x_182.1 _ _ c_173
                              have t_194 := vrAt_mono x_182.1 t_178
                              refine z_ret rfl ⟨_, rfl⟩ ?_
                              have tl := tl_keep (n := n) (t := t) (a := a) (e := spn isDg t n (sgC n t a).2) (Or.inr x_46)
                              exact Or.inl ⟨_, _, _, _, _, rfl, Or.inr ⟨x_2, by omega, by omega, Or.inl ⟨x_29, _, rfl, by rw [tl], by rw [tl]⟩⟩, by omega, by omega, k_185, k_186, x_191, t_183⟩
                        · replace h_141 := Nat.not_le.mp h_141
                          refine z_nul rfl ?_
                          refine z_ret rfl ⟨_, rfl⟩ ?_
                          have tl := tl_keep (n := n) (t := t) (a := a) (e := spn isDg t n (sgC n t a).2) (Or.inr x_46)
                          exact Or.inr ⟨rfl, ⟨x_2, Or.inr (Or.inl ⟨x_29, by rw [tl]; omega⟩)⟩, _, _, _, by omega, k_136, k_137, x_138⟩
                      · replace h_129 : 1 = 3 := Decidable.of_not_not h_129
                        omega
                    · replace h_128 : ¬ (0 = 0) := h_128
                      omega
            · replace h_42 : 1 = 0 := Decidable.of_not_not h_42
              omega
          · skip
            have e_33_a := nb_le2 (by omega) x_29
            have k_195 := (f_35 pb (zne k_24 e_22 (by nofun)) (zne k_24 k_25 (by nofun))).trans k_24
            have x_196 := ext_mut2 x_26 f_35 (Or.inr (Or.inl rfl)) gp e_33 (Or.inr (Or.inr rfl)) gn e_34
            refine z_ist (ls' := [some (zR (some p)), some (zI (nI ((sgC n t a).2))), some (zI (nI ((sgC n t a).1))), some (zI (nI 0)), some (zI (nI 2)), none, none]) rfl (Nat.le_of_ble_eq_true rfl) rfl ?_
            refine z_ild rfl rfl ?_
            refine z_ifN (by omega) rfl (fun h_197 => ?_) (fun h_197 => ?_)
            · replace h_197 : ¬ 2 = 0 := h_197
              refine z_ild rfl rfl ?_
              refine z_ico (x := (nI 3)) rfl rfl ?_
              refine z_cmpN (by omega) (by omega) rfl (fun h_198 => ?_) (fun h_198 => ?_)
              · replace h_198 : 3 ≤ 2 := h_198
                omega
              · replace h_198 := Nat.not_le.mp h_198
                refine z_ild rfl rfl ?_
                refine z_ifN (by omega) rfl (fun h_199 => ?_) (fun h_199 => ?_)
                · replace h_199 : ¬ 0 = 0 := h_199
                  omega
                · replace h_199 : 0 = 0 := Decidable.of_not_not h_199
                  refine z_ald rfl rfl ?_
                  refine z_ico (x := (nI 46)) rfl rfl ?_
                  refine z_call (as := [zR (some p), zI (nI 46)]) (r := []) (mc' := 0) (ms' := 0) rfl rfl rfl (Nat.le_of_ble_eq_true rfl) (by omega) (by omega) (rc0 rfl e_33) (k_X1_take hx hn (a := spn isDg t n (spn isDg t n ((sgC n t a).2) + 1)) (c := 46) (by omega) e_33 k_195 (by omega)) (by rintro _ _ (⟨e, _⟩ | ⟨e, _⟩) <;> cases e) ?_
                  rintro g_200 _ (⟨e9, x_201, e_202, f_203⟩ | ⟨e9, x_201, e8⟩) <;> cases e9
                  · skip
                    have k_204 := (f_203 pb (zne k_195 e_33 (by nofun))).trans k_195
                    have k_205 := (f_203 pn (zne e_34 e_33 (by nofun))).trans e_34
                    have x_206 := ext_mut x_196 f_203 (Or.inr (Or.inl rfl)) gp e_202
                    have l_x_201 := x_201.1
                    refine z_ifN (by omega) rfl (fun h_207 => ?_) (fun h_207 => ?_)
                    · replace h_207 : 1 = 0 := h_207
                      omega
                    · replace h_207 : ¬ (1 = 0) := h_207
                      refine z_ald rfl rfl ?_
                      refine z_ico (x := (nI 42)) rfl rfl ?_
                      refine z_call (as := [zR (some p), zI (nI 42)]) (r := []) (mc' := 0) (ms' := 0) rfl rfl rfl (Nat.le_of_ble_eq_true rfl) (by omega) (by omega) (rc0 rfl e_202) (k_X1_take hx hn (a := spn isDg t n (spn isDg t n ((sgC n t a).2) + 1) + 1) (c := 42) (by omega) e_202 k_204 (by omega)) (by rintro _ _ (⟨e, _⟩ | ⟨e, _⟩) <;> cases e) ?_
                      rintro g_208 _ (⟨e9, x_209, e_210, f_211⟩ | ⟨e9, x_209, e8⟩) <;> cases e9
                      · skip
                        have k_212 := (f_211 pb (zne k_204 e_202 (by nofun))).trans k_204
                        have k_213 := (f_211 pn (zne k_205 e_202 (by nofun))).trans k_205
                        have x_214 := ext_mut x_206 f_211 (Or.inr (Or.inl rfl)) gp e_210
                        have l_x_209 := x_209.1
                        refine z_ifN (by omega) rfl (fun h_215 => ?_) (fun h_215 => ?_)
                        · replace h_215 : 1 = 0 := h_215
                          omega
                        · replace h_215 : ¬ (1 = 0) := h_215
                          refine z_ico (x := (nI 1)) rfl rfl ?_
                          refine z_ist (ls' := [some (zR (some p)), some (zI (nI ((sgC n t a).2))), some (zI (nI 1)), some (zI (nI 0)), some (zI (nI 2)), none, none]) rfl (Nat.le_of_ble_eq_true rfl) rfl ?_
                          refine z_ild rfl rfl ?_
                          refine z_ico (x := (nI 3)) rfl rfl ?_
                          refine z_cmpN (by omega) (by omega) rfl (fun h_216 => ?_) (fun h_216 => ?_)
                          · replace h_216 : ¬ 2 = 3 := h_216
                            refine z_ico (x := (nI 0)) rfl rfl ?_
                            refine z_newR rfl (by omega) (by omega) (by omega) ?_
                            intro q_217 g_218 h_219 e_220 f_221
                            have k_222 := (f_221 pb (zn0 k_212 h_219)).trans k_212
                            have k_223 := (f_221 pn (zn0 k_213 h_219)).trans k_213
                            have k_224 := (f_221 p (zn0 e_210 h_219)).trans e_210
                            have n_226 := ext_new x_214 h_219
                            have n_227 := ext_gn x_214 h_219
                            have x_225 := ext_mut x_214 f_221 (Or.inl n_226) n_227 e_220
                            refine z_ast (ls' := [some (zR (some p)), some (zI (nI ((sgC n t a).2))), some (zI (nI 1)), some (zI (nI 0)), some (zI (nI 2)), some (zR (some q_217)), none]) rfl (Nat.le_of_ble_eq_true rfl) rfl ?_
                            refine z_ald rfl rfl ?_
                            refine z_nlP rfl ?_
                            refine z_ald rfl rfl ?_
                            refine z_get rfl k_224 rfl ?_
                            refine z_ild rfl rfl ?_
                            refine z_ibi (v := (nI (spn isDg t n (spn isDg t n ((sgC n t a).2) + 1) + 1 + 1 - ((sgC n t a).2)))) rfl (pk_sub (by omega)) ?_
                            refine z_ico (x := (nI 24)) rfl rfl ?_
                            refine z_cmpN (by omega) (by omega) rfl (fun h_228 => ?_) (fun h_228 => ?_)
                            · replace h_228 : spn isDg t n (spn isDg t n ((sgC n t a).2) + 1) + 1 + 1 - ((sgC n t a).2) ≤ 24 := h_228
                              refine z_new rfl (by omega) (by omega) ?_
                              intro q_229 g_230 h_231 e_232 f_233
                              have k_234 := (f_233 pb (zn0 k_222 h_231)).trans k_222
                              have k_235 := (f_233 pn (zn0 k_223 h_231)).trans k_223
                              have k_236 := (f_233 p (zn0 k_224 h_231)).trans k_224
                              have k_237 := (f_233 q_217 (zn0 e_220 h_231)).trans e_220
                              have n_239 := ext_new x_225 h_231
                              have n_240 := ext_gn x_225 h_231
                              have x_238 := ext_mut x_225 f_233 (Or.inl n_239) n_240 e_232
                              replace e_232 : g_230 q_229 = some (zO 7 [zI (nI 0), zI (nI 0), zI (nI 0), zR none]) := e_232
                              refine z_dup rfl rfl ?_
                              refine z_ald rfl rfl ?_
                              refine z_get rfl k_236 rfl ?_
                              refine z_ico (x := (nI 0)) rfl rfl ?_
                              refine z_iald rfl k_235 (by omega) (by omega) ?_
                              refine z_top (v2 := zI (nI (nmN t n ((sgC n t a).2)))) (congrArg zI v_36.1) ?_
                              refine z_ald rfl rfl ?_
                              refine z_get rfl k_236 rfl ?_
                              refine z_ico (x := (nI 1)) rfl rfl ?_
                              refine z_iald rfl k_235 (by omega) (by omega) ?_
                              refine z_top (v2 := zI (nI (nmN t n (spn isDg t n ((sgC n t a).2) + 1)))) (congrArg zI v_36.2.1) ?_
                              refine z_ald rfl rfl ?_
                              refine z_get rfl k_236 rfl ?_
                              refine z_ico (x := (nI 2)) rfl rfl ?_
                              refine z_iald rfl k_235 (by omega) (by omega) ?_
                              refine z_top (v2 := zI (nI 0)) (congrArg zI v_36.2.2) ?_
                              refine z_ald rfl rfl ?_
                              refine z_call (as := [zR (some q_229), zI (nI (nmN t n ((sgC n t a).2))), zI (nI (nmN t n (spn isDg t n ((sgC n t a).2) + 1))), zI (nI 0), zR (some q_217)]) (r := [zR (some q_229)]) (mc' := 0) (ms' := 0) rfl rfl rfl (Nat.le_of_ble_eq_true rfl) (by omega) (by omega) (rc2 rfl) (k_X7_init e_232) (by rintro _ _ ⟨e, _⟩; cases e) ?_
                              rintro g_241 _ ⟨e9, e_242, f_243⟩; cases e9
                              · skip
                                have k_244 := (f_243 pb (zne k_234 e_232 (by nofun))).trans k_234
                                have k_245 := (f_243 pn (zne k_235 e_232 (by nofun))).trans k_235
                                have k_246 := (f_243 p (zne k_236 e_232 (by nofun))).trans k_236
                                have k_247 := (f_243 q_217 (zne k_237 e_232 (by nofun))).trans k_237
                                have x_248 := ext_mut x_238 f_243 (Or.inl n_239) n_240 e_242
                                refine z_ast (ls' := [some (zR (some p)), some (zI (nI ((sgC n t a).2))), some (zI (nI 1)), some (zI (nI 0)), some (zI (nI 2)), some (zR (some q_217)), some (zR (some q_229))]) rfl (Nat.le_of_ble_eq_true rfl) rfl ?_
                                obtain ⟨u_249, x_250, l_251, c_252, o_253⟩ := ext_frzE x_248 (Or.inl n_226) n_227 k_247
                                have n_254 := (o_253 p (zne k_246 k_247 (by nofun))).trans gp
                                have n_255 := (o_253 pn (zne k_245 k_247 (by nofun))).trans gn
                                have n_256 := (o_253 q_229 (zne e_242 k_247 (by nofun))).trans n_240
                                obtain ⟨u_257, x_258, l_259, c_260, o_261⟩ := ext_frzE x_250 (Or.inl n_239) n_256 e_242
                                have n_262 := (o_261 p (zne k_246 e_242 (by nofun))).trans n_254
                                have n_263 := (o_261 pn (zne k_245 e_242 (by nofun))).trans n_255
                                have c_264 := l_259 _ _ c_252
                                have t_265 := vr_none c_260 c_264
                                refine z_ild rfl rfl ?_
                                refine z_ald rfl rfl ?_
                                refine z_ild rfl rfl ?_
                                refine z_call (as := [zI (nI 1), zR (some q_229), zI (nI 2)]) (r := []) (mc' := 5) (ms' := 13) rfl rfl rfl (Nat.le_of_ble_eq_true rfl) (by omega) (by omega) (rc1 rfl) (k_X6_of (s := 1) (by omega) t_265 (by omega) x_258.2.1) (by rintro _ _ ⟨_, _, e, _⟩; cases e) ?_
                                rintro g_266 _ ⟨q_267, u_268, e9, x_269, t_270⟩; cases e9
                                · skip
                                  have k_271 := (x_269.2.2.2.2 pb (some_nn k_244) (fun e => e)).trans k_244
                                  have k_272 := (x_269.2.2.2.2 pn (some_nn k_245) (fun e => e)).trans k_245
                                  have k_273 := (x_269.2.2.2.2 p (some_nn k_246) (fun e => e)).trans k_246
                                  have k_274 := (x_269.2.2.2.2 q_217 (some_nn k_247) (fun e => e)).trans k_247
                                  have k_275 := (x_269.2.2.2.2 q_229 (some_nn e_242) (fun e => e)).trans e_242
                                  have n_276 := x_269.2.2.1 p n_262 (some_nn k_246)
                                  have n_277 := x_269.2.2.1 pn n_263 (some_nn k_245)
                                  have x_278 := ext_call x_258 x_269 (fun y e => e.elim)
                                  have c_279 := x_269.1 _ _ c_264
                                  have c_280 := x_269.1 _ _ c_260
                                  have t_281 := vrAt_mono x_269.1 t_265
                                  refine z_ret rfl ⟨_, rfl⟩ ?_
                                  have tl := tl_star (n := n) (t := t) (a := a) (e := spn isDg t n (spn isDg t n (sgC n t a).2 + 1)) (by omega) x_201
                                  exact Or.inl ⟨_, _, _, _, _, rfl, Or.inr ⟨x_2, by omega, by omega, Or.inr (Or.inl ⟨x_29, _, rfl, by rw [tl], by rw [tl]⟩)⟩, by omega, by omega, k_273, k_272, x_278, t_270⟩
                            · replace h_228 := Nat.not_le.mp h_228
                              refine z_nul rfl ?_
                              refine z_ret rfl ⟨_, rfl⟩ ?_
                              have tl := tl_star (n := n) (t := t) (a := a) (e := spn isDg t n (spn isDg t n (sgC n t a).2 + 1)) (by omega) x_201
                              exact Or.inr ⟨rfl, ⟨x_2, Or.inr (Or.inr (Or.inl ⟨x_29, by rw [tl]; omega⟩))⟩, _, _, _, by omega, k_224, k_223, x_225⟩
                          · replace h_216 : 2 = 3 := Decidable.of_not_not h_216
                            omega
                      · skip
                        cases e8
                        refine z_ifN (by omega) rfl (fun h_282 => ?_) (fun h_282 => ?_)
                        · replace h_282 : 0 = 0 := h_282
                          exact absurd (nb1_st x_29.2.2 x_201) x_209
                        · replace h_282 : ¬ (0 = 0) := h_282
                          omega
                  · skip
                    cases e8
                    refine z_ifN (by omega) rfl (fun h_283 => ?_) (fun h_283 => ?_)
                    · replace h_283 : 0 = 0 := h_283
                      refine z_ild rfl rfl ?_
                      refine z_ico (x := (nI 3)) rfl rfl ?_
                      refine z_cmpN (by omega) (by omega) rfl (fun h_284 => ?_) (fun h_284 => ?_)
                      · replace h_284 : ¬ 2 = 3 := h_284
                        refine z_ico (x := (nI 0)) rfl rfl ?_
                        refine z_newR rfl (by omega) (by omega) (by omega) ?_
                        intro q_285 g_286 h_287 e_288 f_289
                        have k_290 := (f_289 pb (zn0 k_195 h_287)).trans k_195
                        have k_291 := (f_289 p (zn0 e_33 h_287)).trans e_33
                        have k_292 := (f_289 pn (zn0 e_34 h_287)).trans e_34
                        have n_294 := ext_new x_196 h_287
                        have n_295 := ext_gn x_196 h_287
                        have x_293 := ext_mut x_196 f_289 (Or.inl n_294) n_295 e_288
                        refine z_ast (ls' := [some (zR (some p)), some (zI (nI ((sgC n t a).2))), some (zI (nI ((sgC n t a).1))), some (zI (nI 0)), some (zI (nI 2)), some (zR (some q_285)), none]) rfl (Nat.le_of_ble_eq_true rfl) rfl ?_
                        refine z_ald rfl rfl ?_
                        refine z_nlP rfl ?_
                        refine z_ald rfl rfl ?_
                        refine z_get rfl k_291 rfl ?_
                        refine z_ild rfl rfl ?_
                        refine z_ibi (v := (nI (spn isDg t n (spn isDg t n ((sgC n t a).2) + 1) - ((sgC n t a).2)))) rfl (pk_sub (by omega)) ?_
                        refine z_ico (x := (nI 24)) rfl rfl ?_
                        refine z_cmpN (by omega) (by omega) rfl (fun h_296 => ?_) (fun h_296 => ?_)
                        · replace h_296 : spn isDg t n (spn isDg t n ((sgC n t a).2) + 1) - ((sgC n t a).2) ≤ 24 := h_296
                          refine z_new rfl (by omega) (by omega) ?_
                          intro q_297 g_298 h_299 e_300 f_301
                          have k_302 := (f_301 pb (zn0 k_290 h_299)).trans k_290
                          have k_303 := (f_301 p (zn0 k_291 h_299)).trans k_291
                          have k_304 := (f_301 pn (zn0 k_292 h_299)).trans k_292
                          have k_305 := (f_301 q_285 (zn0 e_288 h_299)).trans e_288
                          have n_307 := ext_new x_293 h_299
                          have n_308 := ext_gn x_293 h_299
                          have x_306 := ext_mut x_293 f_301 (Or.inl n_307) n_308 e_300
                          replace e_300 : g_298 q_297 = some (zO 7 [zI (nI 0), zI (nI 0), zI (nI 0), zR none]) := e_300
                          refine z_dup rfl rfl ?_
                          refine z_ald rfl rfl ?_
                          refine z_get rfl k_303 rfl ?_
                          refine z_ico (x := (nI 0)) rfl rfl ?_
                          refine z_iald rfl k_304 (by omega) (by omega) ?_
                          refine z_top (v2 := zI (nI (nmN t n ((sgC n t a).2)))) (congrArg zI v_36.1) ?_
                          refine z_ald rfl rfl ?_
                          refine z_get rfl k_303 rfl ?_
                          refine z_ico (x := (nI 1)) rfl rfl ?_
                          refine z_iald rfl k_304 (by omega) (by omega) ?_
                          refine z_top (v2 := zI (nI (nmN t n (spn isDg t n ((sgC n t a).2) + 1)))) (congrArg zI v_36.2.1) ?_
                          refine z_ald rfl rfl ?_
                          refine z_get rfl k_303 rfl ?_
                          refine z_ico (x := (nI 2)) rfl rfl ?_
                          refine z_iald rfl k_304 (by omega) (by omega) ?_
                          refine z_top (v2 := zI (nI 0)) (congrArg zI v_36.2.2) ?_
                          refine z_ald rfl rfl ?_
                          refine z_call (as := [zR (some q_297), zI (nI (nmN t n ((sgC n t a).2))), zI (nI (nmN t n (spn isDg t n ((sgC n t a).2) + 1))), zI (nI 0), zR (some q_285)]) (r := [zR (some q_297)]) (mc' := 0) (ms' := 0) rfl rfl rfl (Nat.le_of_ble_eq_true rfl) (by omega) (by omega) (rc2 rfl) (k_X7_init e_300) (by rintro _ _ ⟨e, _⟩; cases e) ?_
                          rintro g_309 _ ⟨e9, e_310, f_311⟩; cases e9
                          · skip
                            have k_312 := (f_311 pb (zne k_302 e_300 (by nofun))).trans k_302
                            have k_313 := (f_311 p (zne k_303 e_300 (by nofun))).trans k_303
                            have k_314 := (f_311 pn (zne k_304 e_300 (by nofun))).trans k_304
                            have k_315 := (f_311 q_285 (zne k_305 e_300 (by nofun))).trans k_305
                            have x_316 := ext_mut x_306 f_311 (Or.inl n_307) n_308 e_310
                            refine z_ast (ls' := [some (zR (some p)), some (zI (nI ((sgC n t a).2))), some (zI (nI ((sgC n t a).1))), some (zI (nI 0)), some (zI (nI 2)), some (zR (some q_285)), some (zR (some q_297))]) rfl (Nat.le_of_ble_eq_true rfl) rfl ?_
                            obtain ⟨u_317, x_318, l_319, c_320, o_321⟩ := ext_frzE x_316 (Or.inl n_294) n_295 k_315
                            have n_322 := (o_321 p (zne k_313 k_315 (by nofun))).trans gp
                            have n_323 := (o_321 pn (zne k_314 k_315 (by nofun))).trans gn
                            have n_324 := (o_321 q_297 (zne e_310 k_315 (by nofun))).trans n_308
                            obtain ⟨u_325, x_326, l_327, c_328, o_329⟩ := ext_frzE x_318 (Or.inl n_307) n_324 e_310
                            have n_330 := (o_329 p (zne k_313 e_310 (by nofun))).trans n_322
                            have n_331 := (o_329 pn (zne k_314 e_310 (by nofun))).trans n_323
                            have c_332 := l_327 _ _ c_320
                            have t_333 := vr_none c_328 c_332
                            refine z_ild rfl rfl ?_
                            refine z_ald rfl rfl ?_
                            refine z_ild rfl rfl ?_
                            refine z_call (as := [zI (nI ((sgC n t a).1)), zR (some q_297), zI (nI 2)]) (r := []) (mc' := 5) (ms' := 13) rfl rfl rfl (Nat.le_of_ble_eq_true rfl) (by omega) (by omega) (rc1 rfl) (k_X6_of (s := (sgC n t a).1) (by omega) t_333 (by omega) x_326.2.1) (by rintro _ _ ⟨_, _, e, _⟩; cases e) ?_
                            rintro g_334 _ ⟨q_335, u_336, e9, x_337, t_338⟩; cases e9
                            · skip
                              have k_339 := (x_337.2.2.2.2 pb (some_nn k_312) (fun e => e)).trans k_312
                              have k_340 := (x_337.2.2.2.2 p (some_nn k_313) (fun e => e)).trans k_313
                              have k_341 := (x_337.2.2.2.2 pn (some_nn k_314) (fun e => e)).trans k_314
                              have k_342 := (x_337.2.2.2.2 q_285 (some_nn k_315) (fun e => e)).trans k_315
                              have k_343 := (x_337.2.2.2.2 q_297 (some_nn e_310) (fun e => e)).trans e_310
                              have n_344 := x_337.2.2.1 p n_330 (some_nn k_313)
                              have n_345 := x_337.2.2.1 pn n_331 (some_nn k_314)
                              have x_346 := ext_call x_326 x_337 (fun y e => e.elim)
                              have c_347 := x_337.1 _ _ c_332
                              have c_348 := x_337.1 _ _ c_328
                              have t_349 := vrAt_mono x_337.1 t_333
                              refine z_ret rfl ⟨_, rfl⟩ ?_
                              have tl := tl_keep (n := n) (t := t) (a := a) (e := spn isDg t n (spn isDg t n (sgC n t a).2 + 1)) (Or.inr x_201)
                              exact Or.inl ⟨_, _, _, _, _, rfl, Or.inr ⟨x_2, by omega, by omega, Or.inr (Or.inl ⟨x_29, _, rfl, by rw [tl], by rw [tl]⟩)⟩, by omega, by omega, k_340, k_341, x_346, t_338⟩
                        · replace h_296 := Nat.not_le.mp h_296
                          refine z_nul rfl ?_
                          refine z_ret rfl ⟨_, rfl⟩ ?_
                          have tl := tl_keep (n := n) (t := t) (a := a) (e := spn isDg t n (spn isDg t n (sgC n t a).2 + 1)) (Or.inr x_201)
                          exact Or.inr ⟨rfl, ⟨x_2, Or.inr (Or.inr (Or.inl ⟨x_29, by rw [tl]; omega⟩))⟩, _, _, _, by omega, k_291, k_292, x_293⟩
                      · replace h_284 : 2 = 3 := Decidable.of_not_not h_284
                        omega
                    · replace h_283 : ¬ (0 = 0) := h_283
                      omega
            · replace h_197 : 2 = 0 := Decidable.of_not_not h_197
              omega
          · skip
            have e_33_a := nb_le3 (by omega) x_29
            have k_350 := (f_35 pb (zne k_24 e_22 (by nofun)) (zne k_24 k_25 (by nofun))).trans k_24
            have x_351 := ext_mut2 x_26 f_35 (Or.inr (Or.inl rfl)) gp e_33 (Or.inr (Or.inr rfl)) gn e_34
            refine z_ist (ls' := [some (zR (some p)), some (zI (nI ((sgC n t a).2))), some (zI (nI ((sgC n t a).1))), some (zI (nI 0)), some (zI (nI 3)), none, none]) rfl (Nat.le_of_ble_eq_true rfl) rfl ?_
            refine z_ild rfl rfl ?_
            refine z_ifN (by omega) rfl (fun h_352 => ?_) (fun h_352 => ?_)
            · replace h_352 : ¬ 3 = 0 := h_352
              refine z_ild rfl rfl ?_
              refine z_ico (x := (nI 3)) rfl rfl ?_
              refine z_cmpN (by omega) (by omega) rfl (fun h_353 => ?_) (fun h_353 => ?_)
              · replace h_353 : 3 ≤ 3 := h_353
                refine z_ild rfl rfl ?_
                refine z_ico (x := (nI 3)) rfl rfl ?_
                refine z_cmpN (by omega) (by omega) rfl (fun h_354 => ?_) (fun h_354 => ?_)
                · replace h_354 : ¬ 3 = 3 := h_354
                  omega
                · replace h_354 : 3 = 3 := Decidable.of_not_not h_354
                  refine z_ald rfl rfl ?_
                  refine z_call (as := [zR (some p)]) (r := []) (mc' := (2 * n + 1)) (ms' := (4 * n)) rfl rfl rfl (Nat.le_of_ble_eq_true rfl) (by omega) (by omega) (rc0 rfl e_33) (k_X1_words hx hn (a := spn isDg t n (spn isDg t n (spn isDg t n ((sgC n t a).2) + 1) + 1)) (by omega) e_33 k_350 hf x_351.2.1 gp) (by rintro _ _ (⟨_, _, e, _⟩ | ⟨e, _⟩) <;> cases e) ?_
                  rintro g_355 _ (⟨q_357, u_358, e9, x_356, e_359, x_360, t_361⟩ | ⟨e9, x_356, b_362, u_358, l_363, e_359, x_360⟩) <;> cases e9
                  · skip
                    have e_359_a := bwE_le (t := t) (n := n) (a := spn isDg t n (spn isDg t n (spn isDg t n ((sgC n t a).2) + 1) + 1)) (by omega)
                    have k_364 := (x_360.2.2.2.2 pb (some_nn k_350) (zne k_350 e_33 (by nofun))).trans k_350
                    have k_365 := (x_360.2.2.2.2 pn (some_nn e_34) (zne e_34 e_33 (by nofun))).trans e_34
                    have n_366 := x_360.2.2.1 p gp (some_nn e_33)
                    have n_367 := x_360.2.2.1 pn gn (some_nn e_34)
                    have x_368 := ext_call x_351 x_360 (fun y e => by rw [show y = p from e]; exact (Or.inr (Or.inl rfl)))
                    obtain ⟨L_q_357, F_q_357, cw_q_357, _⟩ := wsP_mono x_368.2.1 t_361
                    refine z_go rfl ?_
                    refine z_ast (ls' := [some (zR (some p)), some (zI (nI ((sgC n t a).2))), some (zI (nI ((sgC n t a).1))), some (zI (nI 0)), some (zI (nI 3)), some (zR (some q_357)), none]) rfl (Nat.le_of_ble_eq_true rfl) rfl ?_
                    refine z_ald rfl rfl ?_
                    refine z_nlP rfl ?_
                    refine z_ald rfl rfl ?_
                    refine z_get rfl e_359 rfl ?_
                    refine z_ild rfl rfl ?_
                    refine z_ibi (v := (nI (bwE t n (spn isDg t n (spn isDg t n (spn isDg t n ((sgC n t a).2) + 1) + 1)) - ((sgC n t a).2)))) rfl (pk_sub (by omega)) ?_
                    refine z_ico (x := (nI 24)) rfl rfl ?_
                    refine z_cmpN (by omega) (by omega) rfl (fun h_369 => ?_) (fun h_369 => ?_)
                    · replace h_369 : bwE t n (spn isDg t n (spn isDg t n (spn isDg t n ((sgC n t a).2) + 1) + 1)) - ((sgC n t a).2) ≤ 24 := h_369
                      refine z_new rfl (by omega) (by omega) ?_
                      intro q_370 g_371 h_372 e_373 f_374
                      have k_375 := (f_374 pb (zn0 k_364 h_372)).trans k_364
                      have k_376 := (f_374 pn (zn0 k_365 h_372)).trans k_365
                      have k_377 := (f_374 p (zn0 e_359 h_372)).trans e_359
                      have k_378 := (f_374 q_357 (zn0 cw_q_357 h_372)).trans cw_q_357
                      have n_380 := ext_new x_368 h_372
                      have n_381 := ext_gn x_368 h_372
                      have x_379 := ext_mut x_368 f_374 (Or.inl n_380) n_381 e_373
                      replace e_373 : g_371 q_370 = some (zO 7 [zI (nI 0), zI (nI 0), zI (nI 0), zR none]) := e_373
                      refine z_dup rfl rfl ?_
                      refine z_ald rfl rfl ?_
                      refine z_get rfl k_377 rfl ?_
                      refine z_ico (x := (nI 0)) rfl rfl ?_
                      refine z_iald rfl k_376 (by omega) (by omega) ?_
                      refine z_top (v2 := zI (nI (nmN t n ((sgC n t a).2)))) (congrArg zI v_36.1) ?_
                      refine z_ald rfl rfl ?_
                      refine z_get rfl k_377 rfl ?_
                      refine z_ico (x := (nI 1)) rfl rfl ?_
                      refine z_iald rfl k_376 (by omega) (by omega) ?_
                      refine z_top (v2 := zI (nI (nmN t n (spn isDg t n ((sgC n t a).2) + 1)))) (congrArg zI v_36.2.1) ?_
                      refine z_ald rfl rfl ?_
                      refine z_get rfl k_377 rfl ?_
                      refine z_ico (x := (nI 2)) rfl rfl ?_
                      refine z_iald rfl k_376 (by omega) (by omega) ?_
                      refine z_top (v2 := zI (nI (nmN t n (spn isDg t n (spn isDg t n ((sgC n t a).2) + 1) + 1)))) (congrArg zI v_36.2.2) ?_
                      refine z_ald rfl rfl ?_
                      refine z_call (as := [zR (some q_370), zI (nI (nmN t n ((sgC n t a).2))), zI (nI (nmN t n (spn isDg t n ((sgC n t a).2) + 1))), zI (nI (nmN t n (spn isDg t n (spn isDg t n ((sgC n t a).2) + 1) + 1))), zR (some q_357)]) (r := [zR (some q_370)]) (mc' := 0) (ms' := 0) rfl rfl rfl (Nat.le_of_ble_eq_true rfl) (by omega) (by omega) (rc2 rfl) (k_X7_init e_373) (by rintro _ _ ⟨e, _⟩; cases e) ?_
                      rintro g_382 _ ⟨e9, e_383, f_384⟩; cases e9
                      · skip
                        have k_385 := (f_384 pb (zne k_375 e_373 (by nofun))).trans k_375
                        have k_386 := (f_384 pn (zne k_376 e_373 (by nofun))).trans k_376
                        have k_387 := (f_384 p (zne k_377 e_373 (by nofun))).trans k_377
                        have k_388 := (f_384 q_357 (zne k_378 e_373 (by nofun))).trans k_378
                        have x_389 := ext_mut x_379 f_384 (Or.inl n_380) n_381 e_383
                        refine z_ast (ls' := [some (zR (some p)), some (zI (nI ((sgC n t a).2))), some (zI (nI ((sgC n t a).1))), some (zI (nI 0)), some (zI (nI 3)), some (zR (some q_357)), some (zR (some q_370))]) rfl (Nat.le_of_ble_eq_true rfl) rfl ?_
                        obtain ⟨u_390, x_391, l_392, c_393, o_394⟩ := ext_frzE x_389 (Or.inl n_380) n_381 e_383
                        have n_395 := (o_394 p (zne k_387 e_383 (by nofun))).trans n_366
                        have n_396 := (o_394 pn (zne k_386 e_383 (by nofun))).trans n_367
                        have t_397 := wsP_mono l_392 t_361
                        have t_398 := vr_of c_393 t_397 (by omega) (by omega)
                        refine z_ild rfl rfl ?_
                        refine z_ald rfl rfl ?_
                        refine z_ild rfl rfl ?_
                        refine z_call (as := [zI (nI ((sgC n t a).1)), zR (some q_370), zI (nI 3)]) (r := []) (mc' := 5) (ms' := 13) rfl rfl rfl (Nat.le_of_ble_eq_true rfl) (by omega) (by omega) (rc1 rfl) (k_X6_of (s := (sgC n t a).1) (by omega) t_398 (by omega) x_391.2.1) (by rintro _ _ ⟨_, _, e, _⟩; cases e) ?_
                        rintro g_399 _ ⟨q_400, u_401, e9, x_402, t_403⟩; cases e9
                        · skip
                          have k_404 := (x_402.2.2.2.2 pb (some_nn k_385) (fun e => e)).trans k_385
                          have k_405 := (x_402.2.2.2.2 pn (some_nn k_386) (fun e => e)).trans k_386
                          have k_406 := (x_402.2.2.2.2 p (some_nn k_387) (fun e => e)).trans k_387
                          have k_407 := (x_402.2.2.2.2 q_357 (some_nn k_388) (fun e => e)).trans k_388
                          have k_408 := (x_402.2.2.2.2 q_370 (some_nn e_383) (fun e => e)).trans e_383
                          have n_409 := x_402.2.2.1 p n_395 (some_nn k_387)
                          have n_410 := x_402.2.2.1 pn n_396 (some_nn k_386)
                          have x_411 := ext_call x_391 x_402 (fun y e => e.elim)
                          have c_412 := x_402.1 _ _ c_393
                          have t_413 := wsP_mono x_402.1 t_397
                          have t_414 := vrAt_mono x_402.1 t_398
                          refine z_ret rfl ⟨_, rfl⟩ ?_
                          exact Or.inl ⟨_, _, _, _, _, rfl, Or.inr ⟨x_2, by omega, by omega, Or.inr (Or.inr ⟨x_29, _, rfl, x_356, rfl, rfl⟩)⟩, by omega, by omega, k_406, k_405, x_411, t_403⟩
                    · replace h_369 := Nat.not_le.mp h_369
                      refine z_nul rfl ?_
                      refine z_ret rfl ⟨_, rfl⟩ ?_
                      exact Or.inr ⟨rfl, ⟨x_2, Or.inr (Or.inr (Or.inr ⟨x_29, Or.inr (by omega)⟩))⟩, _, _, _, by omega, e_359, k_365, x_368⟩
                  · skip
                    have k_415 := (x_360.2.2.2.2 pb (some_nn k_350) (zne k_350 e_33 (by nofun))).trans k_350
                    have k_416 := (x_360.2.2.2.2 pn (some_nn e_34) (zne e_34 e_33 (by nofun))).trans e_34
                    have n_417 := x_360.2.2.1 p gp (some_nn e_33)
                    have n_418 := x_360.2.2.1 pn gn (some_nn e_34)
                    have x_419 := ext_call x_351 x_360 (fun y e => by rw [show y = p from e]; exact (Or.inr (Or.inl rfl)))
                    refine z_go rfl ?_
                    refine z_ast (ls' := [some (zR (some p)), some (zI (nI ((sgC n t a).2))), some (zI (nI ((sgC n t a).1))), some (zI (nI 0)), some (zI (nI 3)), some (zR none), none]) rfl (Nat.le_of_ble_eq_true rfl) rfl ?_
                    refine z_ald rfl rfl ?_
                    refine z_nlZ rfl ?_
                    refine z_nul rfl ?_
                    refine z_ret rfl ⟨_, rfl⟩ ?_
                    exact Or.inr ⟨rfl, ⟨x_2, Or.inr (Or.inr (Or.inr ⟨x_29, Or.inl x_356⟩))⟩, _, _, _, by omega, e_359, k_416, x_419⟩
              · replace h_353 := Nat.not_le.mp h_353
                omega
            · replace h_352 : 3 = 0 := Decidable.of_not_not h_352
              omega
        · replace h_27 := Nat.not_le.mp h_27
          refine z_ico (x := (nI 1)) rfl rfl ?_
          refine z_go rfl ?_
          refine z_ist (ls' := [some (zR (some p)), some (zI (nI a)), some (zI (nI ((sgC n t a).1))), some (zI (nI 1)), none, none, none]) rfl (Nat.le_of_ble_eq_true rfl) rfl ?_
          refine z_ald rfl rfl ?_
          refine z_get rfl e_22 rfl ?_
          refine z_ist (ls' := [some (zR (some p)), some (zI (nI ((sgC n t a).2))), some (zI (nI ((sgC n t a).1))), some (zI (nI 1)), none, none, none]) rfl (Nat.le_of_ble_eq_true rfl) rfl ?_
          refine z_ald rfl rfl ?_
          refine z_call (as := [zR (some p)]) (r := []) (mc' := 0) (ms' := 0) rfl rfl rfl (Nat.le_of_ble_eq_true rfl) (by omega) (by omega) (rc0 rfl e_22) (k_X1_numbers hx hn (a := (sgC n t a).2) (by omega) e_22 k_24 k_25) (by rintro _ _ (⟨e, _⟩ | ⟨e, _⟩ | ⟨e, _⟩ | ⟨e, _⟩) <;> cases e) ?_
          rintro g_420 _ (⟨e9, x_421, b_422, F_424, l_423, e_425, e_426, f_427⟩ | ⟨e9, x_421, e_425, F_424, e_426, v_428, f_427⟩ | ⟨e9, x_421, e_425, F_424, e_426, v_428, f_427⟩ | ⟨e9, x_421, e_425, F_424, e_426, v_428, f_427⟩) <;> cases e9
          · skip
            have k_429 := (f_427 pb (zne k_24 e_22 (by nofun)) (zne k_24 k_25 (by nofun))).trans k_24
            have x_430 := ext_mut2 x_26 f_427 (Or.inr (Or.inl rfl)) gp e_425 (Or.inr (Or.inr rfl)) gn e_426
            refine z_ist (ls' := [some (zR (some p)), some (zI (nI ((sgC n t a).2))), some (zI (nI ((sgC n t a).1))), some (zI (nI 1)), some (zI (nI 0)), none, none]) rfl (Nat.le_of_ble_eq_true rfl) rfl ?_
            refine z_ild rfl rfl ?_
            refine z_ifN (by omega) rfl (fun h_431 => ?_) (fun h_431 => ?_)
            · replace h_431 : ¬ 0 = 0 := h_431
              omega
            · replace h_431 : 0 = 0 := Decidable.of_not_not h_431
              refine z_nul rfl ?_
              refine z_ret rfl ⟨_, rfl⟩ ?_
              exact Or.inr ⟨rfl, ⟨x_2, Or.inl x_421⟩, _, _, _, by omega, e_425, e_426, x_430⟩
          · skip
            have e_425_a := nb_le1 (by omega) x_421
            have k_432 := (f_427 pb (zne k_24 e_22 (by nofun)) (zne k_24 k_25 (by nofun))).trans k_24
            have x_433 := ext_mut2 x_26 f_427 (Or.inr (Or.inl rfl)) gp e_425 (Or.inr (Or.inr rfl)) gn e_426
            refine z_ist (ls' := [some (zR (some p)), some (zI (nI ((sgC n t a).2))), some (zI (nI ((sgC n t a).1))), some (zI (nI 1)), some (zI (nI 1)), none, none]) rfl (Nat.le_of_ble_eq_true rfl) rfl ?_
            refine z_ild rfl rfl ?_
            refine z_ifN (by omega) rfl (fun h_434 => ?_) (fun h_434 => ?_)
            · replace h_434 : ¬ 1 = 0 := h_434
              refine z_ild rfl rfl ?_
              refine z_ico (x := (nI 3)) rfl rfl ?_
              refine z_cmpN (by omega) (by omega) rfl (fun h_435 => ?_) (fun h_435 => ?_)
              · replace h_435 : 3 ≤ 1 := h_435
                omega
              · replace h_435 := Nat.not_le.mp h_435
                refine z_ild rfl rfl ?_
                refine z_ifN (by omega) rfl (fun h_436 => ?_) (fun h_436 => ?_)
                · replace h_436 : ¬ 1 = 0 := h_436
                  refine z_ild rfl rfl ?_
                  refine z_ico (x := (nI 3)) rfl rfl ?_
                  refine z_cmpN (by omega) (by omega) rfl (fun h_437 => ?_) (fun h_437 => ?_)
                  · replace h_437 : ¬ 1 = 3 := h_437
                    refine z_ico (x := (nI 0)) rfl rfl ?_
                    refine z_newR rfl (by omega) (by omega) (by omega) ?_
                    intro q_438 g_439 h_440 e_441 f_442
                    have k_443 := (f_442 pb (zn0 k_432 h_440)).trans k_432
                    have k_444 := (f_442 p (zn0 e_425 h_440)).trans e_425
                    have k_445 := (f_442 pn (zn0 e_426 h_440)).trans e_426
                    have n_447 := ext_new x_433 h_440
                    have n_448 := ext_gn x_433 h_440
                    have x_446 := ext_mut x_433 f_442 (Or.inl n_447) n_448 e_441
                    refine z_ast (ls' := [some (zR (some p)), some (zI (nI ((sgC n t a).2))), some (zI (nI ((sgC n t a).1))), some (zI (nI 1)), some (zI (nI 1)), some (zR (some q_438)), none]) rfl (Nat.le_of_ble_eq_true rfl) rfl ?_
                    refine z_ald rfl rfl ?_
                    refine z_nlP rfl ?_
                    refine z_ald rfl rfl ?_
                    refine z_get rfl k_444 rfl ?_
                    refine z_ild rfl rfl ?_
                    refine z_ibi (v := (nI (spn isDg t n ((sgC n t a).2) - ((sgC n t a).2)))) rfl (pk_sub (by omega)) ?_
                    refine z_ico (x := (nI 24)) rfl rfl ?_
                    refine z_cmpN (by omega) (by omega) rfl (fun h_449 => ?_) (fun h_449 => ?_)
                    · replace h_449 : spn isDg t n ((sgC n t a).2) - ((sgC n t a).2) ≤ 24 := h_449
                      refine z_new rfl (by omega) (by omega) ?_
                      intro q_450 g_451 h_452 e_453 f_454
                      have k_455 := (f_454 pb (zn0 k_443 h_452)).trans k_443
                      have k_456 := (f_454 p (zn0 k_444 h_452)).trans k_444
                      have k_457 := (f_454 pn (zn0 k_445 h_452)).trans k_445
                      have k_458 := (f_454 q_438 (zn0 e_441 h_452)).trans e_441
                      have n_460 := ext_new x_446 h_452
                      have n_461 := ext_gn x_446 h_452
                      have x_459 := ext_mut x_446 f_454 (Or.inl n_460) n_461 e_453
                      replace e_453 : g_451 q_450 = some (zO 7 [zI (nI 0), zI (nI 0), zI (nI 0), zR none]) := e_453
                      refine z_dup rfl rfl ?_
                      refine z_ald rfl rfl ?_
                      refine z_get rfl k_456 rfl ?_
                      refine z_ico (x := (nI 0)) rfl rfl ?_
                      refine z_iald rfl k_457 (by omega) (by omega) ?_
                      refine z_top (v2 := zI (nI (nmN t n ((sgC n t a).2)))) (congrArg zI v_428.1) ?_
                      refine z_ald rfl rfl ?_
                      refine z_get rfl k_456 rfl ?_
                      refine z_ico (x := (nI 1)) rfl rfl ?_
                      refine z_iald rfl k_457 (by omega) (by omega) ?_
                      refine z_top (v2 := zI (nI 0)) (congrArg zI v_428.2.1) ?_
                      refine z_ald rfl rfl ?_
                      refine z_get rfl k_456 rfl ?_
                      refine z_ico (x := (nI 2)) rfl rfl ?_
                      refine z_iald rfl k_457 (by omega) (by omega) ?_
                      refine z_top (v2 := zI (nI 0)) (congrArg zI v_428.2.2) ?_
                      refine z_ald rfl rfl ?_
                      refine z_call (as := [zR (some q_450), zI (nI (nmN t n ((sgC n t a).2))), zI (nI 0), zI (nI 0), zR (some q_438)]) (r := [zR (some q_450)]) (mc' := 0) (ms' := 0) rfl rfl rfl (Nat.le_of_ble_eq_true rfl) (by omega) (by omega) (rc2 rfl) (k_X7_init e_453) (by rintro _ _ ⟨e, _⟩; cases e) ?_
                      rintro g_462 _ ⟨e9, e_463, f_464⟩; cases e9
                      · skip
                        have k_465 := (f_464 pb (zne k_455 e_453 (by nofun))).trans k_455
                        have k_466 := (f_464 p (zne k_456 e_453 (by nofun))).trans k_456
                        have k_467 := (f_464 pn (zne k_457 e_453 (by nofun))).trans k_457
                        have k_468 := (f_464 q_438 (zne k_458 e_453 (by nofun))).trans k_458
                        have x_469 := ext_mut x_459 f_464 (Or.inl n_460) n_461 e_463
                        refine z_ast (ls' := [some (zR (some p)), some (zI (nI ((sgC n t a).2))), some (zI (nI ((sgC n t a).1))), some (zI (nI 1)), some (zI (nI 1)), some (zR (some q_438)), some (zR (some q_450))]) rfl (Nat.le_of_ble_eq_true rfl) rfl ?_
                        obtain ⟨u_470, x_471, l_472, c_473, o_474⟩ := ext_frzE x_469 (Or.inl n_447) n_448 k_468
                        have n_475 := (o_474 p (zne k_466 k_468 (by nofun))).trans gp
                        have n_476 := (o_474 pn (zne k_467 k_468 (by nofun))).trans gn
                        have n_477 := (o_474 q_450 (zne e_463 k_468 (by nofun))).trans n_461
                        obtain ⟨u_478, x_479, l_480, c_481, o_482⟩ := ext_frzE x_471 (Or.inl n_460) n_477 e_463
                        have n_483 := (o_482 p (zne k_466 e_463 (by nofun))).trans n_475
                        have n_484 := (o_482 pn (zne k_467 e_463 (by nofun))).trans n_476
                        have c_485 := l_480 _ _ c_473
                        have t_486 := vr_none c_481 c_485
                        refine z_ild rfl rfl ?_
                        refine z_ald rfl rfl ?_
                        refine z_ild rfl rfl ?_
                        refine z_call (as := [zI (nI ((sgC n t a).1)), zR (some q_450), zI (nI 1)]) (r := []) (mc' := 5) (ms' := 13) rfl rfl rfl (Nat.le_of_ble_eq_true rfl) (by omega) (by omega) (rc1 rfl) (k_X6_of (s := (sgC n t a).1) (by omega) t_486 (by omega) x_479.2.1) (by rintro _ _ ⟨_, _, e, _⟩; cases e) ?_
                        rintro g_487 _ ⟨q_488, u_489, e9, x_490, t_491⟩; cases e9
                        · skip
                          have k_492 := (x_490.2.2.2.2 pb (some_nn k_465) (fun e => e)).trans k_465
                          have k_493 := (x_490.2.2.2.2 p (some_nn k_466) (fun e => e)).trans k_466
                          have k_494 := (x_490.2.2.2.2 pn (some_nn k_467) (fun e => e)).trans k_467
                          have k_495 := (x_490.2.2.2.2 q_438 (some_nn k_468) (fun e => e)).trans k_468
                          have k_496 := (x_490.2.2.2.2 q_450 (some_nn e_463) (fun e => e)).trans e_463
                          have n_497 := x_490.2.2.1 p n_483 (some_nn k_466)
                          have n_498 := x_490.2.2.1 pn n_484 (some_nn k_467)
                          have x_499 := ext_call x_479 x_490 (fun y e => e.elim)
                          have c_500 := x_490.1 _ _ c_485
                          have c_501 := x_490.1 _ _ c_481
                          have t_502 := vrAt_mono x_490.1 t_486
                          refine z_ret rfl ⟨_, rfl⟩ ?_
                          have tl := tl_keep (n := n) (t := t) (a := a) (e := spn isDg t n (sgC n t a).2) (Or.inl h_27)
                          exact Or.inl ⟨_, _, _, _, _, rfl, Or.inr ⟨x_2, by omega, by omega, Or.inl ⟨x_421, _, rfl, by rw [tl], by rw [tl]⟩⟩, by omega, by omega, k_493, k_494, x_499, t_491⟩
                    · replace h_449 := Nat.not_le.mp h_449
                      refine z_nul rfl ?_
                      refine z_ret rfl ⟨_, rfl⟩ ?_
                      have tl := tl_keep (n := n) (t := t) (a := a) (e := spn isDg t n (sgC n t a).2) (Or.inl h_27)
                      exact Or.inr ⟨rfl, ⟨x_2, Or.inr (Or.inl ⟨x_421, by rw [tl]; omega⟩)⟩, _, _, _, by omega, k_444, k_445, x_446⟩
                  · replace h_437 : 1 = 3 := Decidable.of_not_not h_437
                    omega
                · replace h_436 : 1 = 0 := Decidable.of_not_not h_436
                  omega
            · replace h_434 : 1 = 0 := Decidable.of_not_not h_434
              omega
          · skip
            have e_425_a := nb_le2 (by omega) x_421
            have k_503 := (f_427 pb (zne k_24 e_22 (by nofun)) (zne k_24 k_25 (by nofun))).trans k_24
            have x_504 := ext_mut2 x_26 f_427 (Or.inr (Or.inl rfl)) gp e_425 (Or.inr (Or.inr rfl)) gn e_426
            refine z_ist (ls' := [some (zR (some p)), some (zI (nI ((sgC n t a).2))), some (zI (nI ((sgC n t a).1))), some (zI (nI 1)), some (zI (nI 2)), none, none]) rfl (Nat.le_of_ble_eq_true rfl) rfl ?_
            refine z_ild rfl rfl ?_
            refine z_ifN (by omega) rfl (fun h_505 => ?_) (fun h_505 => ?_)
            · replace h_505 : ¬ 2 = 0 := h_505
              refine z_ild rfl rfl ?_
              refine z_ico (x := (nI 3)) rfl rfl ?_
              refine z_cmpN (by omega) (by omega) rfl (fun h_506 => ?_) (fun h_506 => ?_)
              · replace h_506 : 3 ≤ 2 := h_506
                omega
              · replace h_506 := Nat.not_le.mp h_506
                refine z_ild rfl rfl ?_
                refine z_ifN (by omega) rfl (fun h_507 => ?_) (fun h_507 => ?_)
                · replace h_507 : ¬ 1 = 0 := h_507
                  refine z_ild rfl rfl ?_
                  refine z_ico (x := (nI 3)) rfl rfl ?_
                  refine z_cmpN (by omega) (by omega) rfl (fun h_508 => ?_) (fun h_508 => ?_)
                  · replace h_508 : ¬ 2 = 3 := h_508
                    refine z_ico (x := (nI 0)) rfl rfl ?_
                    refine z_newR rfl (by omega) (by omega) (by omega) ?_
                    intro q_509 g_510 h_511 e_512 f_513
                    have k_514 := (f_513 pb (zn0 k_503 h_511)).trans k_503
                    have k_515 := (f_513 p (zn0 e_425 h_511)).trans e_425
                    have k_516 := (f_513 pn (zn0 e_426 h_511)).trans e_426
                    have n_518 := ext_new x_504 h_511
                    have n_519 := ext_gn x_504 h_511
                    have x_517 := ext_mut x_504 f_513 (Or.inl n_518) n_519 e_512
                    refine z_ast (ls' := [some (zR (some p)), some (zI (nI ((sgC n t a).2))), some (zI (nI ((sgC n t a).1))), some (zI (nI 1)), some (zI (nI 2)), some (zR (some q_509)), none]) rfl (Nat.le_of_ble_eq_true rfl) rfl ?_
                    refine z_ald rfl rfl ?_
                    refine z_nlP rfl ?_
                    refine z_ald rfl rfl ?_
                    refine z_get rfl k_515 rfl ?_
                    refine z_ild rfl rfl ?_
                    refine z_ibi (v := (nI (spn isDg t n (spn isDg t n ((sgC n t a).2) + 1) - ((sgC n t a).2)))) rfl (pk_sub (by omega)) ?_
                    refine z_ico (x := (nI 24)) rfl rfl ?_
                    refine z_cmpN (by omega) (by omega) rfl (fun h_520 => ?_) (fun h_520 => ?_)
                    · replace h_520 : spn isDg t n (spn isDg t n ((sgC n t a).2) + 1) - ((sgC n t a).2) ≤ 24 := h_520
                      refine z_new rfl (by omega) (by omega) ?_
                      intro q_521 g_522 h_523 e_524 f_525
                      have k_526 := (f_525 pb (zn0 k_514 h_523)).trans k_514
                      have k_527 := (f_525 p (zn0 k_515 h_523)).trans k_515
                      have k_528 := (f_525 pn (zn0 k_516 h_523)).trans k_516
                      have k_529 := (f_525 q_509 (zn0 e_512 h_523)).trans e_512
                      have n_531 := ext_new x_517 h_523
                      have n_532 := ext_gn x_517 h_523
                      have x_530 := ext_mut x_517 f_525 (Or.inl n_531) n_532 e_524
                      replace e_524 : g_522 q_521 = some (zO 7 [zI (nI 0), zI (nI 0), zI (nI 0), zR none]) := e_524
                      refine z_dup rfl rfl ?_
                      refine z_ald rfl rfl ?_
                      refine z_get rfl k_527 rfl ?_
                      refine z_ico (x := (nI 0)) rfl rfl ?_
                      refine z_iald rfl k_528 (by omega) (by omega) ?_
                      refine z_top (v2 := zI (nI (nmN t n ((sgC n t a).2)))) (congrArg zI v_428.1) ?_
                      refine z_ald rfl rfl ?_
                      refine z_get rfl k_527 rfl ?_
                      refine z_ico (x := (nI 1)) rfl rfl ?_
                      refine z_iald rfl k_528 (by omega) (by omega) ?_
                      refine z_top (v2 := zI (nI (nmN t n (spn isDg t n ((sgC n t a).2) + 1)))) (congrArg zI v_428.2.1) ?_
                      refine z_ald rfl rfl ?_
                      refine z_get rfl k_527 rfl ?_
                      refine z_ico (x := (nI 2)) rfl rfl ?_
                      refine z_iald rfl k_528 (by omega) (by omega) ?_
                      refine z_top (v2 := zI (nI 0)) (congrArg zI v_428.2.2) ?_
                      refine z_ald rfl rfl ?_
                      refine z_call (as := [zR (some q_521), zI (nI (nmN t n ((sgC n t a).2))), zI (nI (nmN t n (spn isDg t n ((sgC n t a).2) + 1))), zI (nI 0), zR (some q_509)]) (r := [zR (some q_521)]) (mc' := 0) (ms' := 0) rfl rfl rfl (Nat.le_of_ble_eq_true rfl) (by omega) (by omega) (rc2 rfl) (k_X7_init e_524) (by rintro _ _ ⟨e, _⟩; cases e) ?_
                      rintro g_533 _ ⟨e9, e_534, f_535⟩; cases e9
                      · skip
                        have k_536 := (f_535 pb (zne k_526 e_524 (by nofun))).trans k_526
                        have k_537 := (f_535 p (zne k_527 e_524 (by nofun))).trans k_527
                        have k_538 := (f_535 pn (zne k_528 e_524 (by nofun))).trans k_528
                        have k_539 := (f_535 q_509 (zne k_529 e_524 (by nofun))).trans k_529
                        have x_540 := ext_mut x_530 f_535 (Or.inl n_531) n_532 e_534
                        refine z_ast (ls' := [some (zR (some p)), some (zI (nI ((sgC n t a).2))), some (zI (nI ((sgC n t a).1))), some (zI (nI 1)), some (zI (nI 2)), some (zR (some q_509)), some (zR (some q_521))]) rfl (Nat.le_of_ble_eq_true rfl) rfl ?_
                        obtain ⟨u_541, x_542, l_543, c_544, o_545⟩ := ext_frzE x_540 (Or.inl n_518) n_519 k_539
                        have n_546 := (o_545 p (zne k_537 k_539 (by nofun))).trans gp
                        have n_547 := (o_545 pn (zne k_538 k_539 (by nofun))).trans gn
                        have n_548 := (o_545 q_521 (zne e_534 k_539 (by nofun))).trans n_532
                        obtain ⟨u_549, x_550, l_551, c_552, o_553⟩ := ext_frzE x_542 (Or.inl n_531) n_548 e_534
                        have n_554 := (o_553 p (zne k_537 e_534 (by nofun))).trans n_546
                        have n_555 := (o_553 pn (zne k_538 e_534 (by nofun))).trans n_547
                        have c_556 := l_551 _ _ c_544
                        have t_557 := vr_none c_552 c_556
                        refine z_ild rfl rfl ?_
                        refine z_ald rfl rfl ?_
                        refine z_ild rfl rfl ?_
                        refine z_call (as := [zI (nI ((sgC n t a).1)), zR (some q_521), zI (nI 2)]) (r := []) (mc' := 5) (ms' := 13) rfl rfl rfl (Nat.le_of_ble_eq_true rfl) (by omega) (by omega) (rc1 rfl) (k_X6_of (s := (sgC n t a).1) (by omega) t_557 (by omega) x_550.2.1) (by rintro _ _ ⟨_, _, e, _⟩; cases e) ?_
                        rintro g_558 _ ⟨q_559, u_560, e9, x_561, t_562⟩; cases e9
                        · skip
                          have k_563 := (x_561.2.2.2.2 pb (some_nn k_536) (fun e => e)).trans k_536
                          have k_564 := (x_561.2.2.2.2 p (some_nn k_537) (fun e => e)).trans k_537
                          have k_565 := (x_561.2.2.2.2 pn (some_nn k_538) (fun e => e)).trans k_538
                          have k_566 := (x_561.2.2.2.2 q_509 (some_nn k_539) (fun e => e)).trans k_539
                          have k_567 := (x_561.2.2.2.2 q_521 (some_nn e_534) (fun e => e)).trans e_534
                          have n_568 := x_561.2.2.1 p n_554 (some_nn k_537)
                          have n_569 := x_561.2.2.1 pn n_555 (some_nn k_538)
                          have x_570 := ext_call x_550 x_561 (fun y e => e.elim)
                          have c_571 := x_561.1 _ _ c_556
                          have c_572 := x_561.1 _ _ c_552
                          have t_573 := vrAt_mono x_561.1 t_557
                          refine z_ret rfl ⟨_, rfl⟩ ?_
                          have tl := tl_keep (n := n) (t := t) (a := a) (e := spn isDg t n (spn isDg t n (sgC n t a).2 + 1)) (Or.inl h_27)
                          exact Or.inl ⟨_, _, _, _, _, rfl, Or.inr ⟨x_2, by omega, by omega, Or.inr (Or.inl ⟨x_421, _, rfl, by rw [tl], by rw [tl]⟩)⟩, by omega, by omega, k_564, k_565, x_570, t_562⟩
                    · replace h_520 := Nat.not_le.mp h_520
                      refine z_nul rfl ?_
                      refine z_ret rfl ⟨_, rfl⟩ ?_
                      have tl := tl_keep (n := n) (t := t) (a := a) (e := spn isDg t n (spn isDg t n (sgC n t a).2 + 1)) (Or.inl h_27)
                      exact Or.inr ⟨rfl, ⟨x_2, Or.inr (Or.inr (Or.inl ⟨x_421, by rw [tl]; omega⟩))⟩, _, _, _, by omega, k_515, k_516, x_517⟩
                  · replace h_508 : 2 = 3 := Decidable.of_not_not h_508
                    omega
                · replace h_507 : 1 = 0 := Decidable.of_not_not h_507
                  omega
            · replace h_505 : 2 = 0 := Decidable.of_not_not h_505
              omega
          · skip
            have e_425_a := nb_le3 (by omega) x_421
            have k_574 := (f_427 pb (zne k_24 e_22 (by nofun)) (zne k_24 k_25 (by nofun))).trans k_24
            have x_575 := ext_mut2 x_26 f_427 (Or.inr (Or.inl rfl)) gp e_425 (Or.inr (Or.inr rfl)) gn e_426
            refine z_ist (ls' := [some (zR (some p)), some (zI (nI ((sgC n t a).2))), some (zI (nI ((sgC n t a).1))), some (zI (nI 1)), some (zI (nI 3)), none, none]) rfl (Nat.le_of_ble_eq_true rfl) rfl ?_
            refine z_ild rfl rfl ?_
            refine z_ifN (by omega) rfl (fun h_576 => ?_) (fun h_576 => ?_)
            · replace h_576 : ¬ 3 = 0 := h_576
              refine z_ild rfl rfl ?_
              refine z_ico (x := (nI 3)) rfl rfl ?_
              refine z_cmpN (by omega) (by omega) rfl (fun h_577 => ?_) (fun h_577 => ?_)
              · replace h_577 : 3 ≤ 3 := h_577
                refine z_ild rfl rfl ?_
                refine z_ico (x := (nI 3)) rfl rfl ?_
                refine z_cmpN (by omega) (by omega) rfl (fun h_578 => ?_) (fun h_578 => ?_)
                · replace h_578 : ¬ 3 = 3 := h_578
                  omega
                · replace h_578 : 3 = 3 := Decidable.of_not_not h_578
                  refine z_ald rfl rfl ?_
                  refine z_call (as := [zR (some p)]) (r := []) (mc' := (2 * n + 1)) (ms' := (4 * n)) rfl rfl rfl (Nat.le_of_ble_eq_true rfl) (by omega) (by omega) (rc0 rfl e_425) (k_X1_words hx hn (a := spn isDg t n (spn isDg t n (spn isDg t n ((sgC n t a).2) + 1) + 1)) (by omega) e_425 k_574 hf x_575.2.1 gp) (by rintro _ _ (⟨_, _, e, _⟩ | ⟨e, _⟩) <;> cases e) ?_
                  rintro g_579 _ (⟨q_581, u_582, e9, x_580, e_583, x_584, t_585⟩ | ⟨e9, x_580, b_586, u_582, l_587, e_583, x_584⟩) <;> cases e9
                  · skip
                    have e_583_a := bwE_le (t := t) (n := n) (a := spn isDg t n (spn isDg t n (spn isDg t n ((sgC n t a).2) + 1) + 1)) (by omega)
                    have k_588 := (x_584.2.2.2.2 pb (some_nn k_574) (zne k_574 e_425 (by nofun))).trans k_574
                    have k_589 := (x_584.2.2.2.2 pn (some_nn e_426) (zne e_426 e_425 (by nofun))).trans e_426
                    have n_590 := x_584.2.2.1 p gp (some_nn e_425)
                    have n_591 := x_584.2.2.1 pn gn (some_nn e_426)
                    have x_592 := ext_call x_575 x_584 (fun y e => by rw [show y = p from e]; exact (Or.inr (Or.inl rfl)))
                    obtain ⟨L_q_581, F_q_581, cw_q_581, _⟩ := wsP_mono x_592.2.1 t_585
                    refine z_go rfl ?_
                    refine z_ast (ls' := [some (zR (some p)), some (zI (nI ((sgC n t a).2))), some (zI (nI ((sgC n t a).1))), some (zI (nI 1)), some (zI (nI 3)), some (zR (some q_581)), none]) rfl (Nat.le_of_ble_eq_true rfl) rfl ?_
                    refine z_ald rfl rfl ?_
                    refine z_nlP rfl ?_
                    refine z_ald rfl rfl ?_
                    refine z_get rfl e_583 rfl ?_
                    refine z_ild rfl rfl ?_
                    refine z_ibi (v := (nI (bwE t n (spn isDg t n (spn isDg t n (spn isDg t n ((sgC n t a).2) + 1) + 1)) - ((sgC n t a).2)))) rfl (pk_sub (by omega)) ?_
                    refine z_ico (x := (nI 24)) rfl rfl ?_
                    refine z_cmpN (by omega) (by omega) rfl (fun h_593 => ?_) (fun h_593 => ?_)
                    · replace h_593 : bwE t n (spn isDg t n (spn isDg t n (spn isDg t n ((sgC n t a).2) + 1) + 1)) - ((sgC n t a).2) ≤ 24 := h_593
                      refine z_new rfl (by omega) (by omega) ?_
                      intro q_594 g_595 h_596 e_597 f_598
                      have k_599 := (f_598 pb (zn0 k_588 h_596)).trans k_588
                      have k_600 := (f_598 pn (zn0 k_589 h_596)).trans k_589
                      have k_601 := (f_598 p (zn0 e_583 h_596)).trans e_583
                      have k_602 := (f_598 q_581 (zn0 cw_q_581 h_596)).trans cw_q_581
                      have n_604 := ext_new x_592 h_596
                      have n_605 := ext_gn x_592 h_596
                      have x_603 := ext_mut x_592 f_598 (Or.inl n_604) n_605 e_597
                      replace e_597 : g_595 q_594 = some (zO 7 [zI (nI 0), zI (nI 0), zI (nI 0), zR none]) := e_597
                      refine z_dup rfl rfl ?_
                      refine z_ald rfl rfl ?_
                      refine z_get rfl k_601 rfl ?_
                      refine z_ico (x := (nI 0)) rfl rfl ?_
                      refine z_iald rfl k_600 (by omega) (by omega) ?_
                      refine z_top (v2 := zI (nI (nmN t n ((sgC n t a).2)))) (congrArg zI v_428.1) ?_
                      refine z_ald rfl rfl ?_
                      refine z_get rfl k_601 rfl ?_
                      refine z_ico (x := (nI 1)) rfl rfl ?_
                      refine z_iald rfl k_600 (by omega) (by omega) ?_
                      refine z_top (v2 := zI (nI (nmN t n (spn isDg t n ((sgC n t a).2) + 1)))) (congrArg zI v_428.2.1) ?_
                      refine z_ald rfl rfl ?_
                      refine z_get rfl k_601 rfl ?_
                      refine z_ico (x := (nI 2)) rfl rfl ?_
                      refine z_iald rfl k_600 (by omega) (by omega) ?_
                      refine z_top (v2 := zI (nI (nmN t n (spn isDg t n (spn isDg t n ((sgC n t a).2) + 1) + 1)))) (congrArg zI v_428.2.2) ?_
                      refine z_ald rfl rfl ?_
                      refine z_call (as := [zR (some q_594), zI (nI (nmN t n ((sgC n t a).2))), zI (nI (nmN t n (spn isDg t n ((sgC n t a).2) + 1))), zI (nI (nmN t n (spn isDg t n (spn isDg t n ((sgC n t a).2) + 1) + 1))), zR (some q_581)]) (r := [zR (some q_594)]) (mc' := 0) (ms' := 0) rfl rfl rfl (Nat.le_of_ble_eq_true rfl) (by omega) (by omega) (rc2 rfl) (k_X7_init e_597) (by rintro _ _ ⟨e, _⟩; cases e) ?_
                      rintro g_606 _ ⟨e9, e_607, f_608⟩; cases e9
                      · skip
                        have k_609 := (f_608 pb (zne k_599 e_597 (by nofun))).trans k_599
                        have k_610 := (f_608 pn (zne k_600 e_597 (by nofun))).trans k_600
                        have k_611 := (f_608 p (zne k_601 e_597 (by nofun))).trans k_601
                        have k_612 := (f_608 q_581 (zne k_602 e_597 (by nofun))).trans k_602
                        have x_613 := ext_mut x_603 f_608 (Or.inl n_604) n_605 e_607
                        refine z_ast (ls' := [some (zR (some p)), some (zI (nI ((sgC n t a).2))), some (zI (nI ((sgC n t a).1))), some (zI (nI 1)), some (zI (nI 3)), some (zR (some q_581)), some (zR (some q_594))]) rfl (Nat.le_of_ble_eq_true rfl) rfl ?_
                        obtain ⟨u_614, x_615, l_616, c_617, o_618⟩ := ext_frzE x_613 (Or.inl n_604) n_605 e_607
                        have n_619 := (o_618 p (zne k_611 e_607 (by nofun))).trans n_590
                        have n_620 := (o_618 pn (zne k_610 e_607 (by nofun))).trans n_591
                        have t_621 := wsP_mono l_616 t_585
                        have t_622 := vr_of c_617 t_621 (by omega) (by omega)
                        refine z_ild rfl rfl ?_
                        refine z_ald rfl rfl ?_
                        refine z_ild rfl rfl ?_
                        refine z_call (as := [zI (nI ((sgC n t a).1)), zR (some q_594), zI (nI 3)]) (r := []) (mc' := 5) (ms' := 13) rfl rfl rfl (Nat.le_of_ble_eq_true rfl) (by omega) (by omega) (rc1 rfl) (k_X6_of (s := (sgC n t a).1) (by omega) t_622 (by omega) x_615.2.1) (by rintro _ _ ⟨_, _, e, _⟩; cases e) ?_
                        rintro g_623 _ ⟨q_624, u_625, e9, x_626, t_627⟩; cases e9
                        · skip
                          have k_628 := (x_626.2.2.2.2 pb (some_nn k_609) (fun e => e)).trans k_609
                          have k_629 := (x_626.2.2.2.2 pn (some_nn k_610) (fun e => e)).trans k_610
                          have k_630 := (x_626.2.2.2.2 p (some_nn k_611) (fun e => e)).trans k_611
                          have k_631 := (x_626.2.2.2.2 q_581 (some_nn k_612) (fun e => e)).trans k_612
                          have k_632 := (x_626.2.2.2.2 q_594 (some_nn e_607) (fun e => e)).trans e_607
                          have n_633 := x_626.2.2.1 p n_619 (some_nn k_611)
                          have n_634 := x_626.2.2.1 pn n_620 (some_nn k_610)
                          have x_635 := ext_call x_615 x_626 (fun y e => e.elim)
                          have c_636 := x_626.1 _ _ c_617
                          have t_637 := wsP_mono x_626.1 t_621
                          have t_638 := vrAt_mono x_626.1 t_622
                          refine z_ret rfl ⟨_, rfl⟩ ?_
                          exact Or.inl ⟨_, _, _, _, _, rfl, Or.inr ⟨x_2, by omega, by omega, Or.inr (Or.inr ⟨x_421, _, rfl, x_580, rfl, rfl⟩)⟩, by omega, by omega, k_630, k_629, x_635, t_627⟩
                    · replace h_593 := Nat.not_le.mp h_593
                      refine z_nul rfl ?_
                      refine z_ret rfl ⟨_, rfl⟩ ?_
                      exact Or.inr ⟨rfl, ⟨x_2, Or.inr (Or.inr (Or.inr ⟨x_421, Or.inr (by omega)⟩))⟩, _, _, _, by omega, e_583, k_589, x_592⟩
                  · skip
                    have k_639 := (x_584.2.2.2.2 pb (some_nn k_574) (zne k_574 e_425 (by nofun))).trans k_574
                    have k_640 := (x_584.2.2.2.2 pn (some_nn e_426) (zne e_426 e_425 (by nofun))).trans e_426
                    have n_641 := x_584.2.2.1 p gp (some_nn e_425)
                    have n_642 := x_584.2.2.1 pn gn (some_nn e_426)
                    have x_643 := ext_call x_575 x_584 (fun y e => by rw [show y = p from e]; exact (Or.inr (Or.inl rfl)))
                    refine z_go rfl ?_
                    refine z_ast (ls' := [some (zR (some p)), some (zI (nI ((sgC n t a).2))), some (zI (nI ((sgC n t a).1))), some (zI (nI 1)), some (zI (nI 3)), some (zR none), none]) rfl (Nat.le_of_ble_eq_true rfl) rfl ?_
                    refine z_ald rfl rfl ?_
                    refine z_nlZ rfl ?_
                    refine z_nul rfl ?_
                    refine z_ret rfl ⟨_, rfl⟩ ?_
                    exact Or.inr ⟨rfl, ⟨x_2, Or.inr (Or.inr (Or.inr ⟨x_421, Or.inl x_580⟩))⟩, _, _, _, by omega, e_583, k_640, x_643⟩
              · replace h_577 := Nat.not_le.mp h_577
                omega
            · replace h_576 : 3 = 0 := Decidable.of_not_not h_576
              omega
    · replace h_20 : ¬ (0 = 0) := h_20
      omega
