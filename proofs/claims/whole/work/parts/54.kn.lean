/-- the requirements behind a version: how many more there may be, where they begin, those before, all -/
def pdC (t : Nat → Int32) (n : Nat) : Nat → Nat → List (Nat × List sV) → List (Nat × List sV) → Prop
  | 0, a, D, L => a = n ∧ L = D
  | f + 1, a, D, L => (¬ atc n t a 59 ∧ a = n ∧ L = D) ∨ (atc n t a 59 ∧ ∃ q l e, dpk n t (a + 1) q ∧ atc n t (a + 1 + 1) 32 ∧ rqC t n 4 (a + 1 + 1 + 1) l e ∧ D.lookup q = none ∧ pdC t n f e (D ++ [(q, l)]) L)
def pdN (t : Nat → Int32) (n : Nat) : Nat → Nat → List (Nat × List sV) → Prop
  | 0, a, _ => ¬ a = n
  | f + 1, a, D => (¬ atc n t a 59 ∧ ¬ a = n) ∨ (atc n t a 59 ∧ ((∀ q, ¬ dpk n t (a + 1) q) ∨ ∃ q, dpk n t (a + 1) q ∧ (¬ atc n t (a + 1 + 1) 32 ∨ (atc n t (a + 1 + 1) 32 ∧ (rqN t n 4 (a + 1 + 1 + 1) ∨ ∃ l e, rqC t n 4 (a + 1 + 1 + 1) l e ∧ (¬ D.lookup q = none ∨ pdN t n f e (D ++ [(q, l)])))))))
theorem rm5 {k M : Nat} (h : k < 5) : (5 - k) * M = M + (5 - (k + 1)) * M := by
  rw [show 5 - k = (5 - (k + 1)) + 1 by omega, Nat.succ_mul, Nat.add_comm]
theorem look_no {g : zH} {f : Nat → Option Nat} {D : List (Nat × List sV)} (h : ndA g f D) {k : Nat} (hk : k < 8) (e : f k = none) : D.lookup k = none := by
  cases a : D.lookup k with
  | none => rfl
  | some l =>
    obtain ⟨r, b, _⟩ := (h k hk).2 l a
    rw [e] at b
    cases b
theorem look_yes {g : zH} {f : Nat → Option Nat} {D : List (Nat × List sV)} (h : ndA g f D) {k : Nat} (hk : k < 8) (e : ¬ f k = none) : ¬ D.lookup k = none := fun a => e ((h k hk).1 a)
/-- a release, but its own cell -/
def rlB (g : zH) (pv pw pr pd : Nat) (V : vV) (m : Nat) (wb : Nat → Int32) (L : List (Nat × List sV)) : Prop := rl0 g pv pw V m wb ∧ (∃ f, g pr = some (zaR 5 8 f) ∧ ndA g f L) ∧ (∃ fd, g pd = some (zaI 1 5 fd) ∧ ndO fd L) ∧ L.length ≤ 5
theorem rlB_mono {g h : zH} (l : hle g h) {pv pw pr pd m : Nat} {V : vV} {wb : Nat → Int32} {L : List (Nat × List sV)} (k : rlB g pv pw pr pd V m wb L) : rlB h pv pw pr pd V m wb L := by
  obtain ⟨a, ⟨f, b, c⟩, ⟨fd, d, e⟩, z⟩ := k
  exact ⟨rl0_mono l a, ⟨f, l _ _ b, ndA_mono l c⟩, ⟨fd, l _ _ d, e⟩, z⟩
abbrev rlO (pk pv pw pr pd k : Nat) (y : Bool) : zE := zO 3 [zI (nI pk), zR (some pv), zR (some pw), zR (some pr), zR (some pd), zI (nI k), zI (bI y)]
set_option maxHeartbeats 4000000 in
theorem kl_pub {d : Nat} {Q : zQ}  {p pb pn n q pr pd pv pw pk m mc ms : Nat} {V : vV} {t tc wb : Nat → Int32} {g0 h0 : zH} (hx : txR n t tc) (hn : n ≤ 160) (hf : ∀ j, j < 160 → fits .byte (.int (tc j)) = true) (q0 : h0 q = none) (pr0 : h0 pr = none) (pd0 : h0 pd = none)  : ∀ k, k ≤ 5 → ∀ (h g : zH) (a : Nat) (D : List (Nat × List sV)) (nf fd : Nat → Int32) (f : Nat → Option Nat) (x4 x5 : Option zV) (c0 s0 : Nat) (h1 : h p = some (rdO pb n a pn)) (h2 : h pb = some (zaI 0 160 tc)) (h3 : h pn = some (zaI 1 3 nf)) (h4 : h q = some (zO 3 [zI (nI pk), zR (some pv), zR (some pw), zR (some pr), zR (some pd), zI (nI k), zI (bI false)])) (h5 : h pr = some (zaR 5 8 f)) (h6 : h pd = some (zaI 1 5 fd)) (x : ext (fun y => y = p ∨ y = pn) g0 h0 g h) (gp : g p = none) (gn : g pn = none) (gq : g q = none) (gr : g pr = none) (gd : g pd = none) (ha : a ≤ n) (hD : D.length = k) (tA : ndA g f D) (tO : ndO fd D) (t0 : rl0 g pv pw V m wb) (hc : c0 + (5 - k) * (8 * n + 34) ≤ mc) (hs : s0 + (5 - k) * (16 * n + 78) ≤ ms) (hQ1 : ∀ L h' g' f' fd', pdC t n (5 - k) a D L → L.length ≤ 5 → h' q = some (zO 3 [zI (nI pk), zR (some pv), zR (some pw), zR (some pr), zR (some pd), zI (nI L.length), zI (bI false)]) → h' pr = some (zaR 5 8 f') → h' pd = some (zaI 1 5 fd') → ndA g' f' L → ndO fd' L → rl0 g' pv pw V m wb → ext (fun y => y = p ∨ y = pn) g0 h0 g' h' → g' q = none → g' pr = none → g' pd = none → Q h' (.inl (some (zR (some q))))) (hQ2 : pdN t n (5 - k) a D → ∀ h', (∃ g', ext (fun y => y = p ∨ y = pn) g0 h0 g' h') → Q h' (.inl (some (zR none)))), zEv (d + 7) tb_10 mc  ms  Q 14 [some (zR (some p)), some (zI (nI pk)), some (zR (some q)), some (zI (nI k)), x4, x5] [] h c0 s0 := by
  refine dn 5 (fun k hk ih h g a D nf fd f x4 x5 c0 s0 h1 h2 h3 h4 h5 h6 x gp gn gq gr gd ha hD tA tO t0 hc hs hQ1 hQ2 => ?_)
  refine z_ild rfl rfl ?_
  refine z_ico (x := (nI 5)) rfl rfl ?_
  refine z_cmpN (by omega) (by omega) rfl (fun h_1 => ?_) (fun h_1 => ?_)
  · replace h_1 : 5 ≤ k := h_1
    have e5 : 5 - k = 0 := by omega
    rw [e5] at hQ1 hQ2
    have y1 : a = n → pdC t n 0 a D D := fun e => ⟨e, rfl⟩
    have y2 : ¬ a = n → pdN t n 0 a D := fun e => e
    refine z_ald rfl rfl ?_
    refine z_get rfl h1 rfl ?_
    refine z_ald rfl rfl ?_
    refine z_get rfl h1 rfl ?_
    refine z_cmpN (by omega) (by omega) rfl (fun h_2 => ?_) (fun h_2 => ?_)
    · replace h_2 : ¬ a = n := h_2
      refine z_nul rfl ?_
      refine z_ret rfl ⟨_, rfl⟩ ?_
      exact hQ2 (y2 h_2) _ ⟨_, x⟩
    · replace h_2 : a = n := Decidable.of_not_not h_2
      refine z_ald rfl rfl ?_
      refine z_go rfl ?_
      refine z_ret rfl ⟨_, rfl⟩ ?_
      exact hQ1 D _ _ _ _ (y1 h_2) (by omega) (by rw [hD]; exact h4) h5 h6 tA tO t0 x gq gr gd
  · replace h_1 := Nat.not_le.mp h_1
    refine z_ald rfl rfl ?_
    refine z_ico (x := (nI 59)) rfl rfl ?_
    have r1 := rm5 (k := k) (M := 8 * n + 34) (by omega)
    have r2 := rm5 (k := k) (M := 16 * n + 78) (by omega)
    refine z_call (as := [zR (some p), zI (nI 59)]) (r := []) (mc' := 0) (ms' := 0) rfl rfl rfl (Nat.le_of_ble_eq_true rfl) (by omega) (by omega) (rc0 rfl h1) (k_X1_take hx hn (a := a) (c := 59) (by omega) h1 h2 (by omega)) (by rintro _ _ (⟨e, _⟩ | ⟨e, _⟩) <;> cases e) ?_
    rintro g_3 _ (⟨e9, x_4, e_5, f_6⟩ | ⟨e9, x_4, e8⟩) <;> cases e9
    · skip
      have k_7 := (f_6 pb (zne h2 h1 (by nofun))).trans h2
      have k_8 := (f_6 pn (zne h3 h1 (by nofun))).trans h3
      have k_9 := (f_6 q (zne h4 h1 (by nofun))).trans h4
      have k_10 := (f_6 pr (zne h5 h1 (by nofun))).trans h5
      have k_11 := (f_6 pd (zne h6 h1 (by nofun))).trans h6
      have x_12 := ext_mut x f_6 (Or.inr (Or.inl rfl)) gp e_5
      have l_x_4 := x_4.1
      refine z_ifN (by omega) rfl (fun h_13 => ?_) (fun h_13 => ?_)
      · replace h_13 : 1 = 0 := h_13
        omega
      · replace h_13 : ¬ (1 = 0) := h_13
        refine z_ald rfl rfl ?_
        refine z_call (as := [zR (some p)]) (r := []) (mc' := 0) (ms' := 0) rfl rfl rfl (Nat.le_of_ble_eq_true rfl) (by omega) (by omega) (rc0 rfl e_5) (k_X1_digitOfPack hx hn (a := a + 1) (by omega) e_5 k_7) (by rintro _ _ (⟨_, e, _⟩ | ⟨e, _⟩) <;> cases e) ?_
        rintro g_14 _ (⟨j_16, e9, x_15, e_17, f_18⟩ | ⟨e9, x_15, e8⟩) <;> cases e9
        · skip
          have e_17_a := x_15.1
          have e_17_b := x_15.2.1
          have k_19 := (f_18 pb (zne k_7 e_5 (by nofun))).trans k_7
          have k_20 := (f_18 pn (zne k_8 e_5 (by nofun))).trans k_8
          have k_21 := (f_18 q (zne k_9 e_5 (by nofun))).trans k_9
          have k_22 := (f_18 pr (zne k_10 e_5 (by nofun))).trans k_10
          have k_23 := (f_18 pd (zne k_11 e_5 (by nofun))).trans k_11
          have x_24 := ext_mut x_12 f_18 (Or.inr (Or.inl rfl)) gp e_17
          refine z_ist (ls' := [some (zR (some p)), some (zI (nI pk)), some (zR (some q)), some (zI (nI k)), some (zI (nI j_16)), x5]) rfl (Nat.le_of_ble_eq_true rfl) rfl ?_
          refine z_ald rfl rfl ?_
          refine z_ico (x := (nI 32)) rfl rfl ?_
          refine z_call (as := [zR (some p), zI (nI 32)]) (r := []) (mc' := 0) (ms' := 0) rfl rfl rfl (Nat.le_of_ble_eq_true rfl) (by omega) (by omega) (rc0 rfl e_17) (k_X1_take hx hn (a := a + 1 + 1) (c := 32) (by omega) e_17 k_19 (by omega)) (by rintro _ _ (⟨e, _⟩ | ⟨e, _⟩) <;> cases e) ?_
          rintro g_25 _ (⟨e9, x_26, e_27, f_28⟩ | ⟨e9, x_26, e8⟩) <;> cases e9
          · skip
            have k_29 := (f_28 pb (zne k_19 e_17 (by nofun))).trans k_19
            have k_30 := (f_28 pn (zne k_20 e_17 (by nofun))).trans k_20
            have k_31 := (f_28 q (zne k_21 e_17 (by nofun))).trans k_21
            have k_32 := (f_28 pr (zne k_22 e_17 (by nofun))).trans k_22
            have k_33 := (f_28 pd (zne k_23 e_17 (by nofun))).trans k_23
            have x_34 := ext_mut x_24 f_28 (Or.inr (Or.inl rfl)) gp e_27
            have l_x_26 := x_26.1
            refine z_ifN (by omega) rfl (fun h_35 => ?_) (fun h_35 => ?_)
            · replace h_35 : ¬ 1 = 0 := h_35
              refine z_ald rfl rfl ?_
              refine z_call (as := [zR (some p)]) (r := []) (mc' := (8 * n + 34)) (ms' := (16 * n + 78)) rfl rfl rfl (Nat.le_of_ble_eq_true rfl) (by omega) (by omega) (rc0 rfl e_27) (k_X1_requirement hx hn (a := a + 1 + 1 + 1) (by omega) e_27 k_29 k_30 hf x_34.2.1 gp gn) (by rintro _ _ (⟨_, _, _, _, _, e, _⟩ | ⟨e, _⟩) <;> cases e) ?_
              rintro g_36 _ (⟨q_37, u_38, r_39, b_40, F_41, e9, x_42, l_43, l_44, e_45, e_46, x_47, t_48⟩ | ⟨e9, x_42, b_49, u_38, F_41, l_50, e_45, e_46, x_47⟩) <;> cases e9
              · skip
                have k_51 := (x_47.2.2.2.2 pb (some_nn k_29) (fun e => e.elim (zne k_29 e_27 (by nofun)) (zne k_29 k_30 (by nofun)))).trans k_29
                have k_52 := (x_47.2.2.2.2 q (some_nn k_31) (fun e => e.elim (zne k_31 e_27 (by nofun)) (zne k_31 k_30 (by nofun)))).trans k_31
                have k_53 := (x_47.2.2.2.2 pr (some_nn k_32) (fun e => e.elim (zne k_32 e_27 (by nofun)) (zne k_32 k_30 (by nofun)))).trans k_32
                have k_54 := (x_47.2.2.2.2 pd (some_nn k_33) (fun e => e.elim (zne k_33 e_27 (by nofun)) (zne k_33 k_30 (by nofun)))).trans k_33
                have n_55 := x_47.2.2.1 p gp (some_nn e_27)
                have n_56 := x_47.2.2.1 pn gn (some_nn k_30)
                have n_57 := x_47.2.2.1 q gq (some_nn k_31)
                have n_58 := x_47.2.2.1 pr gr (some_nn k_32)
                have n_59 := x_47.2.2.1 pd gd (some_nn k_33)
                have x_60 := ext_call x_34 x_47 (fun y e => e.elim (fun e => by rw [e]; exact (Or.inr (Or.inl rfl))) (fun e => by rw [e]; exact (Or.inr (Or.inr rfl))))
                obtain ⟨fs_q_37, cw_q_37⟩ := rq_cell (rqAt_mono x_60.2.1 t_48)
                refine z_ast (ls' := [some (zR (some p)), some (zI (nI pk)), some (zR (some q)), some (zI (nI k)), some (zI (nI j_16)), some (zR (some q_37))]) rfl (Nat.le_of_ble_eq_true rfl) rfl ?_
                refine z_ald rfl rfl ?_
                refine z_nlP rfl ?_
                refine z_ald rfl rfl ?_
                refine z_ild rfl rfl ?_
                refine z_ald rfl rfl ?_
                refine z_call (as := [zR (some q), zI (nI j_16), zR (some q_37)]) (r := []) (mc' := 0) (ms' := 0) rfl rfl rfl (Nat.le_of_ble_eq_true rfl) (by omega) (by omega) (rc0 rfl k_52) (k_X3_add k_52 k_53 k_54 cw_q_37 (by omega) (by omega)) (by rintro _ _ (⟨e, _⟩ | ⟨e, _⟩) <;> cases e) ?_
                rintro g_61 _ (⟨e9, x_62, e_63, e_64, e_65, f_66⟩ | ⟨e9, x_62, e8⟩) <;> cases e9
                · skip
                  have k_67 := (f_66 pb (zne k_51 k_52 (by nofun)) (zne k_51 k_53 (by nofun)) (zne k_51 k_54 (by nofun))).trans k_51
                  have k_68 := (f_66 p (zne e_45 k_52 (by nofun)) (zne e_45 k_53 (by nofun)) (zne e_45 k_54 (by nofun))).trans e_45
                  have k_69 := (f_66 pn (zne e_46 k_52 (by nofun)) (zne e_46 k_53 (by nofun)) (zne e_46 k_54 (by nofun))).trans e_46
                  have k_70 := (f_66 q_37 (zne cw_q_37 k_52 (by nofun)) (zne cw_q_37 k_53 (by nofun)) (zne cw_q_37 k_54 (by nofun))).trans cw_q_37
                  have x_71 := ext_mut3 x_60 f_66 (Or.inl q0) n_57 e_63 (Or.inl pr0) n_58 e_64 (Or.inl pd0) n_59 e_65
                  refine z_ifN (by omega) rfl (fun h_72 => ?_) (fun h_72 => ?_)
                  · replace h_72 : ¬ 1 = 0 := h_72
                    refine z_inc (x' := (nI (k + 1))) (ls' := [some (zR (some p)), some (zI (nI pk)), some (zR (some q)), some (zI (nI (k + 1))), some (zI (nI j_16)), some (zR (some q_37))]) rfl rfl (nI_1 _) rfl ?_
                    refine z_go rfl ?_
                    have z0 := look_no tA (by omega) x_62
                    refine ih (by omega) _ _ _ (D ++ [(j_16, r_39)]) _ _ _ _ _ _ _ k_68 k_67 k_69 e_63 e_64 e_65 x_71 n_55 n_56 n_57 n_58 n_59 (by omega) (by rw [List.length_append, hD]; rfl) (nd_step tA x_47.1 z0 t_48) (no_step tO hD) (rl0_mono x_47.1 t0) (by omega) (by omega) ?_ ?_
                    · intro L h' g' f' fd' z1
                      refine hQ1 L h' g' f' fd' ?_
                      rw [show 5 - k = (5 - (k + 1)) + 1 by omega]
                      exact Or.inr ⟨x_4, _, _, _, x_15, x_26, x_42, z0, z1⟩
                    · intro z1
                      refine hQ2 ?_
                      rw [show 5 - k = (5 - (k + 1)) + 1 by omega]
                      exact Or.inr ⟨x_4, Or.inr ⟨_, x_15, Or.inr ⟨x_26, Or.inr ⟨_, _, x_42, Or.inr z1⟩⟩⟩⟩
                  · replace h_72 : 1 = 0 := Decidable.of_not_not h_72
                    omega
                · skip
                  cases e8
                  refine z_ifN (by omega) rfl (fun h_73 => ?_) (fun h_73 => ?_)
                  · replace h_73 : ¬ 0 = 0 := h_73
                    omega
                  · replace h_73 : 0 = 0 := Decidable.of_not_not h_73
                    refine z_nul rfl ?_
                    refine z_ret rfl ⟨_, rfl⟩ ?_
                    rw [show 5 - k = (5 - (k + 1)) + 1 by omega] at hQ2
                    exact hQ2 (Or.inr ⟨x_4, Or.inr ⟨_, x_15, Or.inr ⟨x_26, Or.inr ⟨_, _, x_42, Or.inl (look_yes tA (by omega) x_62)⟩⟩⟩⟩) _ ⟨_, x_60⟩
              · skip
                have k_74 := (x_47.2.2.2.2 pb (some_nn k_29) (fun e => e.elim (zne k_29 e_27 (by nofun)) (zne k_29 k_30 (by nofun)))).trans k_29
                have k_75 := (x_47.2.2.2.2 q (some_nn k_31) (fun e => e.elim (zne k_31 e_27 (by nofun)) (zne k_31 k_30 (by nofun)))).trans k_31
                have k_76 := (x_47.2.2.2.2 pr (some_nn k_32) (fun e => e.elim (zne k_32 e_27 (by nofun)) (zne k_32 k_30 (by nofun)))).trans k_32
                have k_77 := (x_47.2.2.2.2 pd (some_nn k_33) (fun e => e.elim (zne k_33 e_27 (by nofun)) (zne k_33 k_30 (by nofun)))).trans k_33
                have n_78 := x_47.2.2.1 p gp (some_nn e_27)
                have n_79 := x_47.2.2.1 pn gn (some_nn k_30)
                have n_80 := x_47.2.2.1 q gq (some_nn k_31)
                have n_81 := x_47.2.2.1 pr gr (some_nn k_32)
                have n_82 := x_47.2.2.1 pd gd (some_nn k_33)
                have x_83 := ext_call x_34 x_47 (fun y e => e.elim (fun e => by rw [e]; exact (Or.inr (Or.inl rfl))) (fun e => by rw [e]; exact (Or.inr (Or.inr rfl))))
                refine z_ast (ls' := [some (zR (some p)), some (zI (nI pk)), some (zR (some q)), some (zI (nI k)), some (zI (nI j_16)), some (zR none)]) rfl (Nat.le_of_ble_eq_true rfl) rfl ?_
                refine z_ald rfl rfl ?_
                refine z_nlZ rfl ?_
                refine z_nul rfl ?_
                refine z_ret rfl ⟨_, rfl⟩ ?_
                rw [show 5 - k = (5 - (k + 1)) + 1 by omega] at hQ2
                exact hQ2 (Or.inr ⟨x_4, Or.inr ⟨_, x_15, Or.inr ⟨x_26, Or.inl x_42⟩⟩⟩) _ ⟨_, x_83⟩
            · replace h_35 : 1 = 0 := Decidable.of_not_not h_35
              omega
          · skip
            cases e8
            refine z_ifN (by omega) rfl (fun h_84 => ?_) (fun h_84 => ?_)
            · replace h_84 : ¬ 0 = 0 := h_84
              omega
            · replace h_84 : 0 = 0 := Decidable.of_not_not h_84
              refine z_nul rfl ?_
              refine z_ret rfl ⟨_, rfl⟩ ?_
              rw [show 5 - k = (5 - (k + 1)) + 1 by omega] at hQ2
              exact hQ2 (Or.inr ⟨x_4, Or.inr ⟨_, x_15, Or.inl x_26⟩⟩) _ ⟨_, x_24⟩
        · skip
          cases e8
          refine z_ist (ls' := [some (zR (some p)), some (zI (nI pk)), some (zR (some q)), some (zI (nI k)), some (zI (-1)), x5]) rfl (Nat.le_of_ble_eq_true rfl) rfl ?_
          refine z_ald rfl rfl ?_
          refine z_ico (x := (nI 32)) rfl rfl ?_
          refine z_call (as := [zR (some p), zI (nI 32)]) (r := []) (mc' := 0) (ms' := 0) rfl rfl rfl (Nat.le_of_ble_eq_true rfl) (by omega) (by omega) (rc0 rfl e_5) (k_X1_take hx hn (a := a + 1) (c := 32) (by omega) e_5 k_7 (by omega)) (by rintro _ _ (⟨e, _⟩ | ⟨e, _⟩) <;> cases e) ?_
          rintro g_85 _ (⟨e9, x_86, e_87, f_88⟩ | ⟨e9, x_86, e8⟩) <;> cases e9
          · skip
            have k_89 := (f_88 pb (zne k_7 e_5 (by nofun))).trans k_7
            have k_90 := (f_88 pn (zne k_8 e_5 (by nofun))).trans k_8
            have k_91 := (f_88 q (zne k_9 e_5 (by nofun))).trans k_9
            have k_92 := (f_88 pr (zne k_10 e_5 (by nofun))).trans k_10
            have k_93 := (f_88 pd (zne k_11 e_5 (by nofun))).trans k_11
            have x_94 := ext_mut x_12 f_88 (Or.inr (Or.inl rfl)) gp e_87
            have l_x_86 := x_86.1
            refine z_ifN (by omega) rfl (fun h_95 => ?_) (fun h_95 => ?_)
            · replace h_95 : ¬ 1 = 0 := h_95
              refine z_ald rfl rfl ?_
              refine z_call (as := [zR (some p)]) (r := []) (mc' := (8 * n + 34)) (ms' := (16 * n + 78)) rfl rfl rfl (Nat.le_of_ble_eq_true rfl) (by omega) (by omega) (rc0 rfl e_87) (k_X1_requirement hx hn (a := a + 1 + 1) (by omega) e_87 k_89 k_90 hf x_94.2.1 gp gn) (by rintro _ _ (⟨_, _, _, _, _, e, _⟩ | ⟨e, _⟩) <;> cases e) ?_
              rintro g_96 _ (⟨q_97, u_98, r_99, b_100, F_101, e9, x_102, l_103, l_104, e_105, e_106, x_107, t_108⟩ | ⟨e9, x_102, b_109, u_98, F_101, l_110, e_105, e_106, x_107⟩) <;> cases e9
              · skip
                have k_111 := (x_107.2.2.2.2 pb (some_nn k_89) (fun e => e.elim (zne k_89 e_87 (by nofun)) (zne k_89 k_90 (by nofun)))).trans k_89
                have k_112 := (x_107.2.2.2.2 q (some_nn k_91) (fun e => e.elim (zne k_91 e_87 (by nofun)) (zne k_91 k_90 (by nofun)))).trans k_91
                have k_113 := (x_107.2.2.2.2 pr (some_nn k_92) (fun e => e.elim (zne k_92 e_87 (by nofun)) (zne k_92 k_90 (by nofun)))).trans k_92
                have k_114 := (x_107.2.2.2.2 pd (some_nn k_93) (fun e => e.elim (zne k_93 e_87 (by nofun)) (zne k_93 k_90 (by nofun)))).trans k_93
                have n_115 := x_107.2.2.1 p gp (some_nn e_87)
                have n_116 := x_107.2.2.1 pn gn (some_nn k_90)
                have n_117 := x_107.2.2.1 q gq (some_nn k_91)
                have n_118 := x_107.2.2.1 pr gr (some_nn k_92)
                have n_119 := x_107.2.2.1 pd gd (some_nn k_93)
                have x_120 := ext_call x_94 x_107 (fun y e => e.elim (fun e => by rw [e]; exact (Or.inr (Or.inl rfl))) (fun e => by rw [e]; exact (Or.inr (Or.inr rfl))))
                obtain ⟨fs_q_97, cw_q_97⟩ := rq_cell (rqAt_mono x_120.2.1 t_108)
                refine z_ast (ls' := [some (zR (some p)), some (zI (nI pk)), some (zR (some q)), some (zI (nI k)), some (zI (-1)), some (zR (some q_97))]) rfl (Nat.le_of_ble_eq_true rfl) rfl ?_
                refine z_ald rfl rfl ?_
                refine z_nlP rfl ?_
                refine z_ald rfl rfl ?_
                refine z_ild rfl rfl ?_
                refine z_ald rfl rfl ?_
                refine z_callF (as := [zR (some q), zI (-1), zR (some q_97)]) (r := []) (v := some (zI (nI 0))) rfl rfl rfl (Nat.le_of_ble_eq_true rfl) (by omega) (by omega) (rc0 rfl k_112) (k_add_n k_112 k_113 k_114 cw_q_97) ?_
                refine z_ifN (by omega) rfl (fun h_121 => ?_) (fun h_121 => ?_)
                · replace h_121 : ¬ 0 = 0 := h_121
                  omega
                · replace h_121 : 0 = 0 := Decidable.of_not_not h_121
                  refine z_nul rfl ?_
                  refine z_ret rfl ⟨_, rfl⟩ ?_
                  rw [show 5 - k = (5 - (k + 1)) + 1 by omega] at hQ2
                  exact hQ2 (Or.inr ⟨x_4, Or.inl x_15⟩) _ ⟨_, x_120⟩
              · skip
                have k_122 := (x_107.2.2.2.2 pb (some_nn k_89) (fun e => e.elim (zne k_89 e_87 (by nofun)) (zne k_89 k_90 (by nofun)))).trans k_89
                have k_123 := (x_107.2.2.2.2 q (some_nn k_91) (fun e => e.elim (zne k_91 e_87 (by nofun)) (zne k_91 k_90 (by nofun)))).trans k_91
                have k_124 := (x_107.2.2.2.2 pr (some_nn k_92) (fun e => e.elim (zne k_92 e_87 (by nofun)) (zne k_92 k_90 (by nofun)))).trans k_92
                have k_125 := (x_107.2.2.2.2 pd (some_nn k_93) (fun e => e.elim (zne k_93 e_87 (by nofun)) (zne k_93 k_90 (by nofun)))).trans k_93
                have n_126 := x_107.2.2.1 p gp (some_nn e_87)
                have n_127 := x_107.2.2.1 pn gn (some_nn k_90)
                have n_128 := x_107.2.2.1 q gq (some_nn k_91)
                have n_129 := x_107.2.2.1 pr gr (some_nn k_92)
                have n_130 := x_107.2.2.1 pd gd (some_nn k_93)
                have x_131 := ext_call x_94 x_107 (fun y e => e.elim (fun e => by rw [e]; exact (Or.inr (Or.inl rfl))) (fun e => by rw [e]; exact (Or.inr (Or.inr rfl))))
                refine z_ast (ls' := [some (zR (some p)), some (zI (nI pk)), some (zR (some q)), some (zI (nI k)), some (zI (-1)), some (zR none)]) rfl (Nat.le_of_ble_eq_true rfl) rfl ?_
                refine z_ald rfl rfl ?_
                refine z_nlZ rfl ?_
                refine z_nul rfl ?_
                refine z_ret rfl ⟨_, rfl⟩ ?_
                rw [show 5 - k = (5 - (k + 1)) + 1 by omega] at hQ2
                exact hQ2 (Or.inr ⟨x_4, Or.inl x_15⟩) _ ⟨_, x_131⟩
            · replace h_95 : 1 = 0 := Decidable.of_not_not h_95
              omega
          · skip
            cases e8
            refine z_ifN (by omega) rfl (fun h_132 => ?_) (fun h_132 => ?_)
            · replace h_132 : ¬ 0 = 0 := h_132
              omega
            · replace h_132 : 0 = 0 := Decidable.of_not_not h_132
              refine z_nul rfl ?_
              refine z_ret rfl ⟨_, rfl⟩ ?_
              rw [show 5 - k = (5 - (k + 1)) + 1 by omega] at hQ2
              exact hQ2 (Or.inr ⟨x_4, Or.inl x_15⟩) _ ⟨_, x_12⟩
    · skip
      cases e8
      refine z_ifN (by omega) rfl (fun h_133 => ?_) (fun h_133 => ?_)
      · replace h_133 : 0 = 0 := h_133
        rw [show 5 - k = (5 - (k + 1)) + 1 by omega] at hQ1 hQ2
        have y1 : a = n → pdC t n ((5 - (k + 1)) + 1) a D D := fun e => Or.inl ⟨x_4, e, rfl⟩
        have y2 : ¬ a = n → pdN t n ((5 - (k + 1)) + 1) a D := fun e => Or.inl ⟨x_4, e⟩
        refine z_ald rfl rfl ?_
        refine z_get rfl h1 rfl ?_
        refine z_ald rfl rfl ?_
        refine z_get rfl h1 rfl ?_
        refine z_cmpN (by omega) (by omega) rfl (fun h_134 => ?_) (fun h_134 => ?_)
        · replace h_134 : ¬ a = n := h_134
          refine z_nul rfl ?_
          refine z_ret rfl ⟨_, rfl⟩ ?_
          exact hQ2 (y2 h_134) _ ⟨_, x⟩
        · replace h_134 : a = n := Decidable.of_not_not h_134
          refine z_ald rfl rfl ?_
          refine z_go rfl ?_
          refine z_ret rfl ⟨_, rfl⟩ ?_
          exact hQ1 D _ _ _ _ (y1 h_134) (by omega) (by rw [hD]; exact h4) h5 h6 tA tO t0 x gq gr gd
      · replace h_133 : ¬ (0 = 0) := h_133
        omega
set_option maxHeartbeats 1000000 in
theorem k_X1_publication {d : Nat} {h : zH} {p pb pn n a : Nat} {t tc : Nat → Int32} {pk : Nat} {nf : Nat → Int32} {g : zH} (hx : txR n t tc) (hn : n ≤ 160) (ha : a ≤ n) (h1 : h p = some (rdO pb n a pn)) (h2 : h pb = some (zaI 0 160 tc)) (h3 : h pn = some (zaI 1 3 nf)) (hf : ∀ j, j < 160 → fits .byte (.int (tc j)) = true) (hg : hle g h) (gp : g p = none) (gn : g pn = none) : zCall (d + 8) 10 [zR (some p), zI (nI pk)] h (42 * n + 176) (84 * n + 438) (fun h' o => (∃ q pv pw pr pd g' L, o = .inl (some (zR (some q))) ∧ veR t n a ∧ pdC t n 5 (veE t n a) [] L ∧ ext (fun y => y = p ∨ y = pn) g h g' h' ∧ h q = none ∧ g' q = none ∧ h' q = some (rlO pk pv pw pr pd L.length false) ∧ rlB g' pv pw pr pd (veV t n a) (veE t n a - a) (fun j => t (a + j)) L) ∨ (o = .inl (some (zR none)) ∧ (veN t n a ∨ (veR t n a ∧ pdN t n 5 (veE t n a) [])) ∧ (∃ g', ext (fun y => y = p ∨ y = pn) g h g' h'))) := by
  refine zCall.of (d := d + 7) (T := tb_10) (L := [some (zR (some p)), some (zI (nI pk)), none, none, none, none]) (Nat.le_of_ble_eq_true rfl) rfl rfl ?_
  have x0 : ext (fun y => y = p ∨ y = pn) g h g h := ext_refl hg
  refine z_ald rfl rfl ?_
  refine z_ild rfl rfl ?_
  refine z_call (as := [zR (some p), zI (nI pk)]) (r := []) (mc' := (2 * n + 6)) (ms' := (4 * n + 48)) rfl rfl rfl (Nat.le_of_ble_eq_true rfl) (by omega) (by omega) (rc0 rfl h1) (k_X1_release hx hn (a := a) (by omega) h1 h2 h3 hf x0.2.1 gp gn) (by rintro _ _ (⟨_, _, _, _, _, _, _, e, _⟩ | ⟨e, _⟩) <;> cases e) ?_
  rintro g_1 _ (⟨q_2, v_3, w_4, r_5, d_6, u_7, F_8, e9, x_9, l_10, l_11, e_12, e_13, x_14, z_15, z_16, z_17, t_18⟩ | ⟨e9, x_9, u_7, x_14⟩) <;> cases e9
  · skip
    have k_19 := (x_14.2.2.2.2 pb (some_nn h2) (fun e => e.elim (zne h2 h1 (by nofun)) (zne h2 h3 (by nofun)))).trans h2
    have n_20 := x_14.2.2.1 p gp (some_nn h1)
    have n_21 := x_14.2.2.1 pn gn (some_nn h3)
    have x_22 := ext_call x0 x_14 (fun y e => e.elim (fun e => by rw [e]; exact (Or.inr (Or.inl rfl))) (fun e => by rw [e]; exact (Or.inr (Or.inr rfl))))
    refine z_ast (ls' := [some (zR (some p)), some (zI (nI pk)), some (zR (some q_2)), none, none, none]) rfl (Nat.le_of_ble_eq_true rfl) rfl ?_
    refine z_ald rfl rfl ?_
    refine z_nnP rfl ?_
    refine z_ico (x := (nI 0)) rfl rfl ?_
    refine z_ist (ls' := [some (zR (some p)), some (zI (nI pk)), some (zR (some q_2)), some (zI (nI 0)), none, none]) rfl (Nat.le_of_ble_eq_true rfl) rfl ?_
    refine kl_pub (d := d) (g0 := g) (h0 := h) hx hn hf z_15.1 z_16.1 z_17.1 0 (by omega) _ _ (veE t n a) [] _ _ _ _ _ _ _ e_12 k_19 e_13 z_15.2.2 z_16.2.2 z_17.2.2 x_22 n_20 n_21 z_15.2.1 z_16.2.1 z_17.2.1 l_11 rfl (fun k hk => ⟨fun _ => rfl, fun l hl => by cases hl⟩) (fun i q hq => by cases hq) t_18 (by omega) (by omega) ?_ ?_
    · intro L h' g' f' fd' y1 y2 y3 y4 y5 y6 y7 y8 y9 y10 y11 y12
      obtain ⟨u, u1, u2, u3, u4⟩ := ext_frzE y9 (Or.inl z_16.1) y11 y4
      have u5 := (u4 d_6 (zne y5 y4 (by nofun))).trans y12
      have u6 := (u4 q_2 (zne y3 y4 (by nofun))).trans y10
      obtain ⟨v, v1, v2, v3, v4⟩ := ext_frzE u1 (Or.inl z_17.1) u5 y5
      have v5 := (v4 q_2 (zne y3 y5 (by nofun))).trans u6
      have l := hle_trans u2 v2
      exact Or.inl ⟨_, _, _, _, _, v, L, rfl, x_9, y1, v1, z_15.1, v5, y3, rl0_mono l y8, ⟨_, v2 _ _ u3, ndA_mono l y6⟩, ⟨_, v3, y7⟩, y2⟩
    · intro y1 h' y2
      exact Or.inr ⟨rfl, Or.inr ⟨x_9, y1⟩, y2⟩
  · skip
    refine z_ast (ls' := [some (zR (some p)), some (zI (nI pk)), some (zR none), none, none, none]) rfl (Nat.le_of_ble_eq_true rfl) rfl ?_
    refine z_ald rfl rfl ?_
    refine z_nnZ rfl ?_
    refine z_nul rfl ?_
    refine z_ret rfl ⟨_, rfl⟩ ?_
    exact Or.inr ⟨rfl, Or.inl x_9, _, x_14⟩
