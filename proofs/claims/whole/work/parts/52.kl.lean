/-- spans laid in an array -/
def spsAt (g : zH) (f : Nat → Option Nat) (D : List sV) : Prop := ∀ i s, D[i]? = some s → ∃ r, f i = some r ∧ spAt g r s
theorem sps_step {g g' : zH} {f : Nat → Option Nat} {D : List sV} {k q : Nat} {s : sV} (w : spsAt g f D) (hk : D.length = k) (l : hle g g') (tq : spAt g' q s) : spsAt g' (va_up f k (some q)) (D ++ [s]) := by
  intro i s' hs
  by_cases e : i = k
  · subst e
    rw [← hk, List.getElem?_append_right (Nat.le_refl _), Nat.sub_self] at hs
    cases hs
    exact ⟨q, va_up_s _ _ _, tq⟩
  · rw [va_up_n _ _ e]
    have hi : i < D.length := by
      have := (List.getElem?_eq_some_iff.mp hs).1
      rw [List.length_append] at this
      have : i < D.length + 1 := this
      omega
    rw [List.getElem?_append_left hi] at hs
    obtain ⟨r, a, b⟩ := w i s' hs
    exact ⟨r, a, spAt_mono l b⟩
def qOf (l : List sV) : qV := (l.length, fun i => (l[i]?).getD (none, none, false, none, false))
theorem rq_mk {g : zH} {q pa : Nat} {f : Nat → Option Nat} {l : List sV} (h1 : g q = some (zO 4 [zR (some pa), zI (nI l.length)])) (h2 : g pa = some (zaR 6 4 f)) (hl : l.length ≤ 4) (w : spsAt g f l) : rqAt g q (qOf l) := by
  refine ⟨pa, f, h1, h2, hl, fun j hj => ?_⟩
  have hj : j < l.length := hj
  obtain ⟨r, a, b⟩ := w j l[j] (List.getElem?_eq_getElem hj)
  refine ⟨r, a, ?_⟩
  show spAt g r ((l[j]?).getD _)
  rw [List.getElem?_eq_getElem hj]
  exact b
/-- a requirement's comparators: how many more there may be, where it begins, the spans, where it ends -/
def rqC (t : Nat → Int32) (n : Nat) : Nat → Nat → List sV → Nat → Prop
  | 0, _, _, _ => False
  | f + 1, a, l, e => ∃ s e1, cmR t n (spn isBl t n a) s e1 ∧ ((¬ atc n t (spn isBl t n e1) 44 ∧ l = [s] ∧ e = spn isBl t n e1) ∨ (atc n t (spn isBl t n e1) 44 ∧ ∃ l', l = s :: l' ∧ rqC t n f (spn isBl t n e1 + 1) l' e))
def rqN (t : Nat → Int32) (n : Nat) : Nat → Nat → Prop
  | 0, _ => True
  | f + 1, a => cmN t n (spn isBl t n a) ∨ ∃ s e1, cmR t n (spn isBl t n a) s e1 ∧ atc n t (spn isBl t n e1) 44 ∧ rqN t n f (spn isBl t n e1 + 1)
theorem rm_step {k M : Nat} (h : k < 4) : (4 - k) * M = M + (4 - (k + 1)) * M := by
  rw [show 4 - k = (4 - (k + 1)) + 1 by omega, Nat.succ_mul, Nat.add_comm]
theorem rq_cell {h : zH} {p : Nat} {q : qV} (k : rqAt h p q) : ∃ fs, h p = some (zO 4 fs) := by
  obtain ⟨pa, f, a, _⟩ := k
  exact ⟨_, a⟩
set_option maxHeartbeats 1000000 in
theorem k_X4_init {d : Nat} {h : zH} {q : Nat} (h1 : h q = some (zO 4 [zR none, zI (nI 0)])) : zCall (d + 1) 40 [zR (some q)] h 1 4 (fun h' o => ∃ pa, o = .inl none ∧ h pa = none ∧ h' q = some (zO 4 [zR (some pa), zI (nI 0)]) ∧ h' pa = some (zaR 6 4 (fun _ => none)) ∧ (∀ y, y ≠ q → y ≠ pa → h' y = h y)) := by
  refine zCall.of (d := d) (T := tb_40) (L := [some (zR (some q))]) (Nat.le_of_ble_eq_true rfl) rfl rfl ?_
  refine z_ald rfl rfl ?_
  refine z_oin rfl (Nat.le_of_ble_eq_true rfl) ?_
  refine z_ald rfl rfl ?_
  refine z_ico (x := (nI 4)) rfl rfl ?_
  refine z_newR rfl (by omega) (by omega) (by omega) ?_
  intro q_1 g_2 h_3 e_4 f_5
  have k_6 := (f_5 q (zn0 h1 h_3)).trans h1
  refine z_put (e := zO 4 [zR (some q_1), zI (nI 0)]) rfl k_6 (Nat.le_of_ble_eq_true rfl) ⟨_, rfl⟩ rfl ?_
  intro g_7 e_8 f_9
  have k_10 := (f_9 q_1 (zne e_4 k_6 (by nofun))).trans e_4
  refine z_rtv rfl ?_
  exact ⟨q_1, rfl, h_3, e_8, k_10, fun y hy hz => (f_9 y hy).trans (f_5 y hz)⟩
set_option maxHeartbeats 1000000 in
theorem k_X4_add {d : Nat} {h : zH} {q pa v k : Nat} {f : Nat → Option Nat} {fsv : List zV} (h1 : h q = some (zO 4 [zR (some pa), zI (nI k)])) (h2 : h pa = some (zaR 6 4 f)) (hk : k < 4) (hv : h v = some (zO 6 fsv)) : zCall (d + 1) 41 [zR (some q), zR (some v)] h 0 0 (fun h' o => o = .inl none ∧ h' q = some (zO 4 [zR (some pa), zI (nI (k + 1))]) ∧ h' pa = some (zaR 6 4 (va_up f k (some v))) ∧ (∀ y, y ≠ q → y ≠ pa → h' y = h y)) := by
  refine zCall.of (d := d) (T := tb_41) (L := [some (zR (some q)), some (zR (some v))]) (Nat.le_of_ble_eq_true rfl) rfl rfl ?_
  refine z_ald rfl rfl ?_
  refine z_get rfl h1 rfl ?_
  refine z_ico (x := (nI 4)) rfl rfl ?_
  refine z_cmpN (by omega) (by omega) rfl (fun h_1 => ?_) (fun h_1 => ?_)
  · replace h_1 : 4 ≤ k := h_1
    omega
  · replace h_1 := Nat.not_le.mp h_1
    refine z_ald rfl rfl ?_
    refine z_get rfl h1 rfl ?_
    refine z_ald rfl rfl ?_
    refine z_get rfl h1 rfl ?_
    refine z_ald rfl rfl ?_
    refine z_aast rfl h2 (by omega) (by omega) (fun q e => by cases e; exact ⟨_, hv⟩) ?_
    intro g_2 e_3 f_4
    have k_5 := (f_4 q (zne h1 h2 (by nofun))).trans h1
    have k_6 := (f_4 v (zne hv h2 (by nofun))).trans hv
    refine z_ald rfl rfl ?_
    refine z_dup rfl rfl ?_
    refine z_get rfl k_5 rfl ?_
    refine z_ico (x := (nI 1)) rfl rfl ?_
    refine z_ibi (v := (nI (k + 1))) rfl (nI_add _ _) ?_
    refine z_put (e := zO 4 [zR (some pa), zI (nI (k + 1))]) rfl k_5 (Nat.le_of_ble_eq_true rfl) ⟨_, rfl⟩ rfl ?_
    intro g_7 e_8 f_9
    have k_10 := (f_9 v (zne k_6 k_5 (by nofun))).trans k_6
    have k_11 := (f_9 pa (zne e_3 k_5 (by nofun))).trans e_3
    refine z_rtv rfl ?_
    exact ⟨rfl, e_8, k_11, fun y hy hz => (f_9 y hy).trans (f_4 y hz)⟩
set_option maxHeartbeats 2000000 in
theorem kl_req {d : Nat} {Q : zQ}  {p pb pn n q pa mc ms : Nat} {t tc : Nat → Int32} {g0 h0 : zH} (hx : txR n t tc) (hn : n ≤ 160) (hf : ∀ j, j < 160 → fits .byte (.int (tc j)) = true) (q0 : h0 q = none) (pa0 : h0 pa = none)  : ∀ k, k ≤ 4 → ∀ (h g : zH) (a : Nat) (D : List sV) (nf : Nat → Int32) (f : Nat → Option Nat) (x3 : Option zV) (c0 s0 : Nat) (h1 : h p = some (rdO pb n a pn)) (h2 : h pb = some (zaI 0 160 tc)) (h3 : h pn = some (zaI 1 3 nf)) (h4 : h q = some (zO 4 [zR (some pa), zI (nI k)])) (h5 : h pa = some (zaR 6 4 f)) (x : ext (fun y => y = p ∨ y = pn) g0 h0 g h) (gp : g p = none) (gn : g pn = none) (gq : g q = none) (ga : g pa = none) (ha : a ≤ n) (hD : D.length = k) (tr : spsAt g f D) (hc : c0 + (4 - k) * (2 * n + 8) ≤ mc) (hs : s0 + (4 - k) * (4 * n + 18) ≤ ms) (hQ1 : ∀ l e h' g' f' F, rqC t n (4 - k) a l e → a ≤ e → e ≤ n → (D ++ l).length ≤ 4 → h' p = some (rdO pb n e pn) → h' pn = some (zaI 1 3 F) → h' q = some (zO 4 [zR (some pa), zI (nI (D ++ l).length)]) → h' pa = some (zaR 6 4 f') → spsAt g' f' (D ++ l) → ext (fun y => y = p ∨ y = pn) g0 h0 g' h' → g' q = none → g' pa = none → Q h' (.inl (some (zR (some q))))) (hQ2 : rqN t n (4 - k) a → ∀ h' g' b F, b ≤ n → h' p = some (rdO pb n b pn) → h' pn = some (zaI 1 3 F) → ext (fun y => y = p ∨ y = pn) g0 h0 g' h' → Q h' (.inl (some (zR none)))), zEv (d + 6) tb_13 mc  ms  Q 10 [some (zR (some p)), some (zR (some q)), some (zI (nI k)), x3] [] h c0 s0 := by
  refine dn 4 (fun k hk ih h g a D nf f x3 c0 s0 h1 h2 h3 h4 h5 x gp gn gq ga ha hD tr hc hs hQ1 hQ2 => ?_)
  refine z_ild rfl rfl ?_
  refine z_ico (x := (nI 4)) rfl rfl ?_
  refine z_cmpN (by omega) (by omega) rfl (fun h_1 => ?_) (fun h_1 => ?_)
  · replace h_1 : 4 ≤ k := h_1
    refine z_nul rfl ?_
    refine z_ret rfl ⟨_, rfl⟩ ?_
    have e4 : k = 4 := by omega
    subst e4
    exact hQ2 trivial _ _ _ _ ha h1 h3 x
  · replace h_1 := Nat.not_le.mp h_1
    refine z_ald rfl rfl ?_
    refine z_call (as := [zR (some p)]) (r := []) (mc' := 0) (ms' := 0) rfl rfl rfl (Nat.le_of_ble_eq_true rfl) (by omega) (by omega) (rc0 rfl h1) (k_X1_skipBlanks hx hn (a := a) (by omega) h1 h2) (by rintro _ _ ⟨e, _⟩; cases e) ?_
    rintro g_2 _ ⟨e9, e_3, f_4⟩; cases e9
    · skip
      have e_3_a : a ≤ spn isBl t n a := spn_ge
      have e_3_b : spn isBl t n a ≤ n := spn_le (by omega)
      have k_5 := (f_4 pb (zne h2 h1 (by nofun))).trans h2
      have k_6 := (f_4 pn (zne h3 h1 (by nofun))).trans h3
      have k_7 := (f_4 q (zne h4 h1 (by nofun))).trans h4
      have k_8 := (f_4 pa (zne h5 h1 (by nofun))).trans h5
      have x_9 := ext_mut x f_4 (Or.inr (Or.inl rfl)) gp e_3
      refine z_ald rfl rfl ?_
      have r1 := rm_step (k := k) (M := 2 * n + 8) (by omega)
      have r2 := rm_step (k := k) (M := 4 * n + 18) (by omega)
      refine z_call (as := [zR (some p)]) (r := []) (mc' := (2 * n + 8)) (ms' := (4 * n + 18)) rfl rfl rfl (Nat.le_of_ble_eq_true rfl) (by omega) (by omega) (rc0 rfl e_3) (k_X1_comparator hx hn (a := spn isBl t n a) (by omega) e_3 k_5 k_6 hf x_9.2.1 gp gn) (by rintro _ _ (⟨_, _, _, _, _, e, _⟩ | ⟨e, _⟩) <;> cases e) ?_
      rintro g_10 _ (⟨q_11, u_12, s_13, b_14, F_15, e9, x_16, l_17, l_18, e_19, e_20, x_21, t_22⟩ | ⟨e9, x_16, b_23, u_12, F_15, l_24, e_19, e_20, x_21⟩) <;> cases e9
      · skip
        have k_25 := (x_21.2.2.2.2 pb (some_nn k_5) (fun e => e.elim (zne k_5 e_3 (by nofun)) (zne k_5 k_6 (by nofun)))).trans k_5
        have k_26 := (x_21.2.2.2.2 q (some_nn k_7) (fun e => e.elim (zne k_7 e_3 (by nofun)) (zne k_7 k_6 (by nofun)))).trans k_7
        have k_27 := (x_21.2.2.2.2 pa (some_nn k_8) (fun e => e.elim (zne k_8 e_3 (by nofun)) (zne k_8 k_6 (by nofun)))).trans k_8
        have n_28 := x_21.2.2.1 p gp (some_nn e_3)
        have n_29 := x_21.2.2.1 pn gn (some_nn k_6)
        have n_30 := x_21.2.2.1 q gq (some_nn k_7)
        have n_31 := x_21.2.2.1 pa ga (some_nn k_8)
        have x_32 := ext_call x_9 x_21 (fun y e => e.elim (fun e => by rw [e]; exact (Or.inr (Or.inl rfl))) (fun e => by rw [e]; exact (Or.inr (Or.inr rfl))))
        obtain ⟨fs_q_11, cw_q_11⟩ := sp_cell (spAt_mono x_32.2.1 t_22)
        refine z_ast (ls' := [some (zR (some p)), some (zR (some q)), some (zI (nI k)), some (zR (some q_11))]) rfl (Nat.le_of_ble_eq_true rfl) rfl ?_
        refine z_ald rfl rfl ?_
        refine z_nnP rfl ?_
        refine z_ald rfl rfl ?_
        refine z_ald rfl rfl ?_
        refine z_call (as := [zR (some q), zR (some q_11)]) (r := []) (mc' := 0) (ms' := 0) rfl rfl rfl (Nat.le_of_ble_eq_true rfl) (by omega) (by omega) (rc0 rfl k_26) (k_X4_add k_26 k_27 (by omega) cw_q_11) (by rintro _ _ ⟨e, _⟩; cases e) ?_
        rintro g_33 _ ⟨e9, e_34, e_35, f_36⟩; cases e9
        · skip
          have k_37 := (f_36 pb (zne k_25 k_26 (by nofun)) (zne k_25 k_27 (by nofun))).trans k_25
          have k_38 := (f_36 p (zne e_19 k_26 (by nofun)) (zne e_19 k_27 (by nofun))).trans e_19
          have k_39 := (f_36 pn (zne e_20 k_26 (by nofun)) (zne e_20 k_27 (by nofun))).trans e_20
          have k_40 := (f_36 q_11 (zne cw_q_11 k_26 (by nofun)) (zne cw_q_11 k_27 (by nofun))).trans cw_q_11
          have x_41 := ext_mut2 x_32 f_36 (Or.inl q0) n_30 e_34 (Or.inl pa0) n_31 e_35
          refine z_ald rfl rfl ?_
          refine z_call (as := [zR (some p)]) (r := []) (mc' := 0) (ms' := 0) rfl rfl rfl (Nat.le_of_ble_eq_true rfl) (by omega) (by omega) (rc0 rfl k_38) (k_X1_skipBlanks hx hn (a := b_14) (by omega) k_38 k_37) (by rintro _ _ ⟨e, _⟩; cases e) ?_
          rintro g_42 _ ⟨e9, e_43, f_44⟩; cases e9
          · skip
            have e_43_a : b_14 ≤ spn isBl t n b_14 := spn_ge
            have e_43_b : spn isBl t n b_14 ≤ n := spn_le (by omega)
            have k_45 := (f_44 pb (zne k_37 k_38 (by nofun))).trans k_37
            have k_46 := (f_44 pn (zne k_39 k_38 (by nofun))).trans k_39
            have k_47 := (f_44 q_11 (zne k_40 k_38 (by nofun))).trans k_40
            have k_48 := (f_44 q (zne e_34 k_38 (by nofun))).trans e_34
            have k_49 := (f_44 pa (zne e_35 k_38 (by nofun))).trans e_35
            have x_50 := ext_mut x_41 f_44 (Or.inr (Or.inl rfl)) n_28 e_43
            refine z_ald rfl rfl ?_
            refine z_ico (x := (nI 44)) rfl rfl ?_
            refine z_call (as := [zR (some p), zI (nI 44)]) (r := []) (mc' := 0) (ms' := 0) rfl rfl rfl (Nat.le_of_ble_eq_true rfl) (by omega) (by omega) (rc0 rfl e_43) (k_X1_take hx hn (a := spn isBl t n b_14) (c := 44) (by omega) e_43 k_45 (by omega)) (by rintro _ _ (⟨e, _⟩ | ⟨e, _⟩) <;> cases e) ?_
            rintro g_51 _ (⟨e9, x_52, e_53, f_54⟩ | ⟨e9, x_52, e8⟩) <;> cases e9
            · skip
              have k_55 := (f_54 pb (zne k_45 e_43 (by nofun))).trans k_45
              have k_56 := (f_54 pn (zne k_46 e_43 (by nofun))).trans k_46
              have k_57 := (f_54 q_11 (zne k_47 e_43 (by nofun))).trans k_47
              have k_58 := (f_54 q (zne k_48 e_43 (by nofun))).trans k_48
              have k_59 := (f_54 pa (zne k_49 e_43 (by nofun))).trans k_49
              have x_60 := ext_mut x_50 f_54 (Or.inr (Or.inl rfl)) n_28 e_53
              have l_x_52 := x_52.1
              refine z_ifN (by omega) rfl (fun h_61 => ?_) (fun h_61 => ?_)
              · replace h_61 : ¬ 1 = 0 := h_61
                refine z_inc (x' := (nI (k + 1))) (ls' := [some (zR (some p)), some (zR (some q)), some (zI (nI (k + 1))), some (zR (some q_11))]) rfl rfl (nI_1 _) rfl ?_
                refine z_go rfl ?_
                have r1 := rm_step (k := k) (M := 2 * n + 8) (by omega)
                have r2 := rm_step (k := k) (M := 4 * n + 18) (by omega)
                refine ih (by omega) _ _ _ (D ++ [s_13]) _ _ _ _ _ e_53 k_55 k_56 k_58 k_59 x_60 n_28 n_29 n_30 n_31 (by omega) (by rw [List.length_append, hD]; rfl) (sps_step tr hD x_21.1 t_22) (by omega) (by omega) ?_ ?_
                · intro l e h' g' f' F z1 z2 z3 z4 z5 z6 z7 z8 z9
                  rw [List.append_assoc] at z4 z7 z9
                  refine hQ1 (s_13 :: l) e h' g' f' F ?_ (by omega) z3 z4 z5 z6 z7 z8 z9
                  rw [show 4 - k = (4 - (k + 1)) + 1 by omega]
                  exact ⟨_, _, x_16, Or.inr ⟨x_52, _, rfl, z1⟩⟩
                · intro z1
                  refine hQ2 ?_
                  rw [show 4 - k = (4 - (k + 1)) + 1 by omega]
                  exact Or.inr ⟨_, _, x_16, x_52, z1⟩
              · replace h_61 : 1 = 0 := Decidable.of_not_not h_61
                omega
            · skip
              cases e8
              refine z_ifN (by omega) rfl (fun h_62 => ?_) (fun h_62 => ?_)
              · replace h_62 : ¬ 0 = 0 := h_62
                omega
              · replace h_62 : 0 = 0 := Decidable.of_not_not h_62
                refine z_ald rfl rfl ?_
                refine z_ret rfl ⟨_, rfl⟩ ?_
                rw [show 4 - k = (4 - (k + 1)) + 1 by omega] at hQ1
                have h8 : (D ++ [s_13]).length = k + 1 := by rw [List.length_append, hD]; rfl
                exact hQ1 [s_13] _ _ _ _ _ ⟨_, _, x_16, Or.inl ⟨x_52, rfl, rfl⟩⟩ (by omega) (by omega) (by omega) e_43 k_46 (by rw [h8]; exact k_48) k_49 (sps_step tr hD x_21.1 t_22) x_50 n_30 n_31
      · skip
        have k_63 := (x_21.2.2.2.2 pb (some_nn k_5) (fun e => e.elim (zne k_5 e_3 (by nofun)) (zne k_5 k_6 (by nofun)))).trans k_5
        have k_64 := (x_21.2.2.2.2 q (some_nn k_7) (fun e => e.elim (zne k_7 e_3 (by nofun)) (zne k_7 k_6 (by nofun)))).trans k_7
        have k_65 := (x_21.2.2.2.2 pa (some_nn k_8) (fun e => e.elim (zne k_8 e_3 (by nofun)) (zne k_8 k_6 (by nofun)))).trans k_8
        have n_66 := x_21.2.2.1 p gp (some_nn e_3)
        have n_67 := x_21.2.2.1 pn gn (some_nn k_6)
        have n_68 := x_21.2.2.1 q gq (some_nn k_7)
        have n_69 := x_21.2.2.1 pa ga (some_nn k_8)
        have x_70 := ext_call x_9 x_21 (fun y e => e.elim (fun e => by rw [e]; exact (Or.inr (Or.inl rfl))) (fun e => by rw [e]; exact (Or.inr (Or.inr rfl))))
        refine z_ast (ls' := [some (zR (some p)), some (zR (some q)), some (zI (nI k)), some (zR none)]) rfl (Nat.le_of_ble_eq_true rfl) rfl ?_
        refine z_ald rfl rfl ?_
        refine z_nnZ rfl ?_
        refine z_nul rfl ?_
        refine z_ret rfl ⟨_, rfl⟩ ?_
        rw [show 4 - k = (4 - (k + 1)) + 1 by omega] at hQ2
        exact hQ2 (Or.inl x_16) _ _ _ _ (by omega) e_19 e_20 x_70
set_option maxHeartbeats 1000000 in
theorem k_X1_requirement {d : Nat} {h : zH} {p pb pn n a : Nat} {t tc : Nat → Int32} {nf : Nat → Int32} {g : zH} (hx : txR n t tc) (hn : n ≤ 160) (ha : a ≤ n) (h1 : h p = some (rdO pb n a pn)) (h2 : h pb = some (zaI 0 160 tc)) (h3 : h pn = some (zaI 1 3 nf)) (hf : ∀ j, j < 160 → fits .byte (.int (tc j)) = true) (hg : hle g h) (gp : g p = none) (gn : g pn = none) : zCall (d + 7) 13 [zR (some p)] h (8 * n + 34) (16 * n + 78) (fun h' o => (∃ q g' l e F, o = .inl (some (zR (some q))) ∧ rqC t n 4 a l e ∧ a ≤ e ∧ e ≤ n ∧ h' p = some (rdO pb n e pn) ∧ h' pn = some (zaI 1 3 F) ∧ ext (fun y => y = p ∨ y = pn) g h g' h' ∧ rqAt g' q (qOf l)) ∨ (o = .inl (some (zR none)) ∧ rqN t n 4 a ∧ ∃ b g' F, b ≤ n ∧ h' p = some (rdO pb n b pn) ∧ h' pn = some (zaI 1 3 F) ∧ ext (fun y => y = p ∨ y = pn) g h g' h')) := by
  refine zCall.of (d := d + 6) (T := tb_13) (L := [some (zR (some p)), none, none, none]) (Nat.le_of_ble_eq_true rfl) rfl rfl ?_
  have x0 : ext (fun y => y = p ∨ y = pn) g h g h := ext_refl hg
  refine z_new rfl (by omega) (by omega) ?_
  intro q_1 g_2 h_3 e_4 f_5
  have k_6 := (f_5 p (zn0 h1 h_3)).trans h1
  have k_7 := (f_5 pb (zn0 h2 h_3)).trans h2
  have k_8 := (f_5 pn (zn0 h3 h_3)).trans h3
  have n_10 := ext_new x0 h_3
  have n_11 := ext_gn x0 h_3
  have x_9 := ext_mut x0 f_5 (Or.inl n_10) n_11 e_4
  replace e_4 : g_2 q_1 = some (zO 4 [zR none, zI (nI 0)]) := e_4
  refine z_dup rfl rfl ?_
  refine z_call (as := [zR (some q_1)]) (r := [zR (some q_1)]) (mc' := 1) (ms' := 4) rfl rfl rfl (Nat.le_of_ble_eq_true rfl) (by omega) (by omega) (rc2 rfl) (k_X4_init e_4) (by rintro _ _ ⟨_, e, _⟩; cases e) ?_
  rintro g_12 _ ⟨q_13, e9, h_14, e_15, e_16, f_17⟩; cases e9
  · skip
    have k_18 := (f_17 p (zne k_6 e_4 (by nofun)) (zn0 k_6 h_14)).trans k_6
    have k_19 := (f_17 pb (zne k_7 e_4 (by nofun)) (zn0 k_7 h_14)).trans k_7
    have k_20 := (f_17 pn (zne k_8 e_4 (by nofun)) (zn0 k_8 h_14)).trans k_8
    have n_21 := ext_new x_9 h_14
    have n_22 := ext_gn x_9 h_14
    have x_23 := ext_mut2 x_9 f_17 (Or.inl n_10) n_11 e_15 (Or.inl n_21) n_22 e_16
    refine z_ast (ls' := [some (zR (some p)), some (zR (some q_1)), none, none]) rfl (Nat.le_of_ble_eq_true rfl) rfl ?_
    refine z_ico (x := (nI 0)) rfl rfl ?_
    refine z_ist (ls' := [some (zR (some p)), some (zR (some q_1)), some (zI (nI 0)), none]) rfl (Nat.le_of_ble_eq_true rfl) rfl ?_
    refine kl_req (d := d) (g0 := g) (h0 := h) hx hn hf n_10 n_21 0 (by omega) _ _ a [] _ _ _ _ _ k_18 k_19 k_20 e_15 e_16 x_23 gp gn n_11 n_22 ha rfl (fun i s hs => by cases hs) (by omega) (by omega) ?_ ?_
    · intro l e h' g' f' F z1 z2 z3 z4 z5 z6 z7 z8 z9 z10 z11 z12
      obtain ⟨u, u1, u2, u3, u4⟩ := ext_frzE z10 (Or.inl n_10) z11 z7
      have u5 := (u4 q_13 (zne z8 z7 (by nofun))).trans z12
      obtain ⟨v, v1, v2, v3, v4⟩ := ext_frzE u1 (Or.inl n_21) u5 z8
      exact Or.inl ⟨_, v, l, e, F, rfl, z1, z2, z3, z5, z6, v1, rq_mk (v2 _ _ u3) v3 z4 (fun i s hs => by obtain ⟨r, a, b⟩ := z9 i s hs; exact ⟨r, a, spAt_mono (hle_trans u2 v2) b⟩)⟩
    · intro z1 h' g' b F z2 z3 z4 z5
      exact Or.inr ⟨rfl, z1, b, g', F, z2, z3, z4, z5⟩
set_option maxHeartbeats 1000000 in
theorem k_X1_onlyRequirement {d : Nat} {h : zH} {p pb pn n a : Nat} {t tc : Nat → Int32} {nf : Nat → Int32} {g : zH} (hx : txR n t tc) (hn : n ≤ 160) (ha : a ≤ n) (h1 : h p = some (rdO pb n a pn)) (h2 : h pb = some (zaI 0 160 tc)) (h3 : h pn = some (zaI 1 3 nf)) (hf : ∀ j, j < 160 → fits .byte (.int (tc j)) = true) (hg : hle g h) (gp : g p = none) (gn : g pn = none) : zCall (d + 8) 11 [zR (some p)] h (8 * n + 34) (16 * n + 78) (fun h' o => ∃ g', ext (fun y => y = p ∨ y = pn) g h g' h' ∧ ((∃ q l, o = .inl (some (zR (some q))) ∧ rqC t n 4 a l n ∧ rqAt g' q (qOf l)) ∨ (o = .inl (some (zR none)) ∧ (rqN t n 4 a ∨ ∃ l e, rqC t n 4 a l e ∧ ¬ e = n)))) := by
  refine zCall.of (d := d + 7) (T := tb_11) (L := [some (zR (some p)), none]) (Nat.le_of_ble_eq_true rfl) rfl rfl ?_
  have x0 : ext (fun y => y = p ∨ y = pn) g h g h := ext_refl hg
  refine z_ald rfl rfl ?_
  refine z_call (as := [zR (some p)]) (r := []) (mc' := (8 * n + 34)) (ms' := (16 * n + 78)) rfl rfl rfl (Nat.le_of_ble_eq_true rfl) (by omega) (by omega) (rc0 rfl h1) (k_X1_requirement hx hn (a := a) (by omega) h1 h2 h3 hf x0.2.1 gp gn) (by rintro _ _ (⟨_, _, _, _, _, e, _⟩ | ⟨e, _⟩) <;> cases e) ?_
  rintro g_1 _ (⟨q_2, u_3, r_4, b_5, F_6, e9, x_7, l_8, l_9, e_10, e_11, x_12, t_13⟩ | ⟨e9, x_7, b_14, u_3, F_6, l_15, e_10, e_11, x_12⟩) <;> cases e9
  · skip
    have k_16 := (x_12.2.2.2.2 pb (some_nn h2) (fun e => e.elim (zne h2 h1 (by nofun)) (zne h2 h3 (by nofun)))).trans h2
    have n_17 := x_12.2.2.1 p gp (some_nn h1)
    have n_18 := x_12.2.2.1 pn gn (some_nn h3)
    have x_19 := ext_call x0 x_12 (fun y e => e.elim (fun e => by rw [e]; exact (Or.inr (Or.inl rfl))) (fun e => by rw [e]; exact (Or.inr (Or.inr rfl))))
    obtain ⟨fs_q_2, cw_q_2⟩ := rq_cell (rqAt_mono x_19.2.1 t_13)
    refine z_ast (ls' := [some (zR (some p)), some (zR (some q_2))]) rfl (Nat.le_of_ble_eq_true rfl) rfl ?_
    refine z_ald rfl rfl ?_
    refine z_get rfl e_10 rfl ?_
    refine z_ald rfl rfl ?_
    refine z_get rfl e_10 rfl ?_
    refine z_cmpN (by omega) (by omega) rfl (fun h_20 => ?_) (fun h_20 => ?_)
    · replace h_20 : ¬ b_5 = n := h_20
      refine z_nul rfl ?_
      refine z_ret rfl ⟨_, rfl⟩ ?_
      exact ⟨_, x_19, Or.inr ⟨rfl, Or.inr ⟨_, _, x_7, h_20⟩⟩⟩
    · replace h_20 : b_5 = n := Decidable.of_not_not h_20
      refine z_ald rfl rfl ?_
      refine z_go rfl ?_
      refine z_ret rfl ⟨_, rfl⟩ ?_
      rw [h_20] at x_7
      exact ⟨_, x_19, Or.inl ⟨_, _, rfl, x_7, t_13⟩⟩
  · skip
    have k_21 := (x_12.2.2.2.2 pb (some_nn h2) (fun e => e.elim (zne h2 h1 (by nofun)) (zne h2 h3 (by nofun)))).trans h2
    have n_22 := x_12.2.2.1 p gp (some_nn h1)
    have n_23 := x_12.2.2.1 pn gn (some_nn h3)
    have x_24 := ext_call x0 x_12 (fun y e => e.elim (fun e => by rw [e]; exact (Or.inr (Or.inl rfl))) (fun e => by rw [e]; exact (Or.inr (Or.inr rfl))))
    refine z_ast (ls' := [some (zR (some p)), some (zR none)]) rfl (Nat.le_of_ble_eq_true rfl) rfl ?_
    refine z_ald rfl rfl ?_
    refine z_get rfl e_10 rfl ?_
    refine z_ald rfl rfl ?_
    refine z_get rfl e_10 rfl ?_
    refine z_cmpN (by omega) (by omega) rfl (fun h_25 => ?_) (fun h_25 => ?_)
    · replace h_25 : ¬ b_14 = n := h_25
      refine z_nul rfl ?_
      refine z_ret rfl ⟨_, rfl⟩ ?_
      exact ⟨_, x_24, Or.inr ⟨rfl, Or.inl x_7⟩⟩
    · replace h_25 : b_14 = n := Decidable.of_not_not h_25
      refine z_ald rfl rfl ?_
      refine z_go rfl ?_
      refine z_ret rfl ⟨_, rfl⟩ ?_
      exact ⟨_, x_24, Or.inr ⟨rfl, Or.inl x_7⟩⟩
