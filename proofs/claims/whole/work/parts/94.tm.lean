/-! want -/
theorem st_wt {h h1 h' g g' : zH} {K A : Nat → Nat} {n v f p rq : Nat} {r : rA} {fR : Nat → Option Nat} (st : stC h g K A n v f r) (hI : rVs r v) (hp : p < 8) (x : ext (fun y => y = K 1) g h g' h1) (c1 : h1 (K 1) = some (zO 0 [zR (some (K 2)), zI (nI 0)])) (fr : ∀ y, y ≠ K 12 → h' y = h1 y) (c12 : h' (K 12) = some (zaR 5 8 (va_up fR p (some rq)))) (hR1 : h (K 12) = some (zaR 5 8 fR)) (hrt : rtI g r fR) (tq : rqAt g' rq (qR (rqR 213 n 0 r).2.2 213)) (hK : rqK (rqR 213 n 0 r).2.2 213) : poC h g K A v h' 0 v f (wtF (rqR 213 n 0 r).2.2 p) := by
  have hv := hI.1.1
  have hx := st.1
  have pR : pF r (rqR 213 n 0 r).2.2 := rqR_pF (Nat.zero_le _) ⟨by omega, by omega⟩
  generalize (rqR 213 n 0 r).2.2 = R at *
  have sm : rSm v (fun y => y ≠ p ∧ y < 208) r (wtF R p) := rSm_tr (rSm_mono (pF_sm pR) hv (fun y hy => hy.2)) (rSm_mono (wt_sm hp) hv (fun y hy => hy.1))
  have sm8 : rSm v (fun y => 8 ≤ y ∧ y < 208) r (wtF R p) := rSm_mono sm (Nat.le_refl _) (fun y hy => ⟨by omega, hy.2⟩)
  have eR : ∀ j, j < 5 ∨ j = 15 ∨ j = 16 ∨ j = 17 ∨ 20 < j → wtF R p j = r j := fun j hj => by
    rw [wt_n (by omega) (by omega)]
    exact pR.2.1 j (by omega)
  have e : ∀ i, i < 15 → i ≠ 1 → i ≠ 12 → h' (K i) = h (K i) := fun i hi a b => (fr _ (Kne hx hi (by omega) b)).trans (x_K st x hi (Kne hx hi (by omega) a))
  have gK : ∀ i, i < 15 → g' (K i) = none := fun i hi => x_gK st x hi
  have eA : ∀ i, i < v → h' (A i) = h (A i) := fun i hi => (fr _ (Ne.symm (stC_KA st (by omega) hi))).trans (x_A st x (fun y z => ⟨1, by omega, z⟩) hi)
  have X : ext (cM K A v) g h g' h' := ext_mut (ext_mo x (fun y z => Or.inl ⟨1, by omega, z⟩)) fr (Or.inr (Or.inl ⟨12, by omega, rfl⟩)) (gK 12 (by omega)) c12
  refine ⟨g', A, X, ?_, fun i hi => ⟨fun _ => rfl, fun z => absurd hi (by omega)⟩⟩
  have gA : ∀ i, i < v → g' (A i) = none := fun i hi => x_gA st x hi
  obtain ⟨a, ⟨tc, b1, b2, b3, b4, b5⟩, cc, d, s, _, yy, z⟩ := st
  refine ⟨cX_fr a gK (e 0 (by omega) (by omega) (by omega)), ⟨tc, (fr _ (Kne hx (by omega) (by omega) (by omega))).trans c1, (e 2 (by omega) (by omega) (by omega)).trans b2, by omega, fun j hj => absurd hj (Nat.not_lt_zero _), b5⟩, cF_r (cF_fr cc (e 3 (by omega) (by omega) (by omega)) (e 4 (by omega) (by omega) (by omega))) (fun j _ => by rw [eR 24 (by omega)]), rg_r (rg_ex d X.1 X.2.1 gA (e 5 (by omega) (by omega) (by omega)) (e 6 (by omega) (by omega) (by omega)) eA) sm8 hI.1 hI.2.1.1 (fun i _ => by rw [eR 17 (by omega)]), cS_r (cS_fr s (e 7 (by omega) (by omega) (by omega)) (e 8 (by omega) (by omega) (by omega)) (e 9 (by omega) (by omega) (by omega)) (e 10 (by omega) (by omega) (by omega)) (e 11 (by omega) (by omega) (by omega))) sm8 hI.1 hI.2.1.1, ⟨_, c12, fun q hq => ?_⟩, cP_r (cP_fr yy (e 13 (by omega) (by omega) (by omega))) (fun i _ => by rw [eR 21 (by omega)]), cC_r (cC_fr z (e 14 (by omega) (by omega) (by omega))) (fun i _ => by rw [eR 22 (by omega)])⟩
  by_cases q9 : q = p
  · subst q9
    rw [va_up_s]
    refine ⟨fun w => ?_, fun _ => ⟨rq, rfl, (wt_rq hp hK).1 _ _ tq⟩⟩
    rw [w0, wt_20.1] at w
    exact absurd w (by decide +kernel)
  · rw [va_up_n _ _ q9]
    have ew : w0 (wtF R p) q = w0 r q := by rw [w0, w0, wt_20.2 q q9, pR.2.1 20 (by omega)]
    rw [ew]
    refine ⟨(hrt q hq).1, fun w => ?_⟩
    obtain ⟨u, u1, u2⟩ := (hrt q hq).2 w
    exact ⟨u, u1, rqAt_mono X.1 ((sm_rqK sm ⟨q9, by omega⟩ (hI.2.1.1 q (by omega))).1 _ _ u2)⟩
set_option maxHeartbeats 1000000 in
theorem k_X9_want {d : Nat} {h : zH} {g : zH} {K A : Nat → Nat} {n v f : Nat} {r : rA} {p : Nat} (st : stC h g K A n v f r) (hI : rVs r v) (hp : p < 8) : zCall (d + 9) 77 [zR (some (K 0)), zI (nI p)] h (8 * n + 37) (16 * n + 91) (fun h' o => (askB n r = true ∧ rqK (rqR 213 n 0 r).2.2 213 ∧ o = .inl none ∧ poC h g K A v h' 0 v f (wtF (rqR 213 n 0 r).2.2 p)) ∨ (askB n r = false ∧ o = .inr 0 ∧ poC h g K A v h' 0 v f r)) := by
  have st0 := st
  obtain ⟨hx, ⟨tc, hT1, hT2, hn, htx, htf⟩, ⟨fc, hF1, hF2, hf6, hfc⟩, hr, ⟨Kf, O, C, T, fo, hS1, hS2, hS3, hS4, hS5, hsr, hcs⟩, ⟨fR, hR1, hrt⟩, ⟨fP, hP1, hpp⟩, ⟨fC, hC1, hcc⟩⟩ := st
  have hX := hx.2.2
  have hr0 := hr
  obtain ⟨hG1, ⟨fl, hG2, hfl⟩, hv, hrel, hg⟩ := hr
  refine zCall.of (d := d + 8) (T := tb_77) (L := [some (zR (some (K 0))), some (zI (nI p)), none, none]) (Nat.le_of_ble_eq_true rfl) rfl rfl ?_
  have x0 : ext (fun y => y = K 1) g h g h := ext_refl hg
  refine z_ald rfl rfl ?_
  refine z_call (as := [zR (some (K 0))]) (r := []) (mc' := 2) (ms' := 7) rfl rfl rfl (Nat.le_of_ble_eq_true rfl) (by omega) (by omega) (rc0 rfl hX) (k_X9_useUpText hx hT1 hT2 hn) (by rintro _ _ ⟨_, _, e, _⟩; cases e) ?_
  rintro g_1 _ ⟨q_2, q_3, e9, h_4, h_5, e_6, e_7, e_8, f_9⟩; cases e9
  · skip
    have k_10 := (f_9 (K 0) (Kne hx (i := 0) (j := 1) (by omega) (by omega) (by omega)) (zn0 hX h_4) (zn0 hX h_5)).trans hX
    have k_11 := (f_9 (K 2) (Ne.symm (Kne hx (i := 1) (j := 2) (by omega) (by omega) (by omega))) (zn0 hT2 h_4) (zn0 hT2 h_5)).trans hT2
    have k_12 := (f_9 (K 5) (Ne.symm (Kne hx (i := 1) (j := 5) (by omega) (by omega) (by omega))) (zn0 hG1 h_4) (zn0 hG1 h_5)).trans hG1
    have k_13 := (f_9 (K 12) (Ne.symm (Kne hx (i := 1) (j := 12) (by omega) (by omega) (by omega))) (zn0 hR1 h_4) (zn0 hR1 h_5)).trans hR1
    have n_14 := ext_new x0 h_4
    have n_15 := ext_gn x0 h_4
    have n_16 := ext_new x0 h_5
    have n_17 := ext_gn x0 h_5
    have x_18 := ext_mut3 x0 f_9 (Or.inr rfl) (hx.1 1 (by omega)) e_8 (Or.inl n_14) n_15 e_6 (Or.inl n_16) n_17 e_7
    have hr1 : rgI g_1 g r v (K 5) (K 6) A := x_rg st0 x_18 (fun y z => ⟨1, by omega, by omega, by omega, z⟩)
    have hg1 : hle g g_1 := x_18.2.1
    have hrel1 := hr1.2.2.2.1
    refine z_ast (ls' := [some (zR (some (K 0))), some (zI (nI p)), some (zR (some q_2)), none]) rfl (Nat.le_of_ble_eq_true rfl) rfl ?_
    refine z_ild rfl rfl ?_
    refine z_callF (as := [zI (nI p)]) (r := []) (v := some (zI (bI (isPk (nI p))))) rfl rfl rfl (Nat.le_of_ble_eq_true rfl) (by omega) (by omega) (rc1 rfl) k_X9_isPack ?_
    refine z_ifB1 rfl (fun b_19 => ?_) (fun b_19 => ?_)
    · refine z_ald rfl rfl ?_
      refine z_call (as := [zR (some q_2)]) (r := []) (mc' := (8 * n + 34)) (ms' := (16 * n + 78)) rfl rfl rfl (Nat.le_of_ble_eq_true rfl) (by omega) (by omega) (rc0 rfl e_6) (k_X1_onlyRequirement htx hn (Nat.zero_le _) e_6 k_11 e_7 htf hg1 n_15 n_17) (by rintro _ _ ⟨_, _, ⟨_, _, e, _⟩ | ⟨e, _⟩⟩ <;> cases e) ?_
      rintro g_20 o ⟨u_21, x_22, ⟨q_23, l_24, e9, w_25, w_26⟩ | ⟨e9, w_27⟩⟩
      · skip
        cases e9
        have k_28 := (x_22.2.2.2.2 (K 0) (some_nn k_10) (fun e => e.elim (zne k_10 e_6 (by nofun)) (zne k_10 e_7 (by nofun)))).trans k_10
        have k_29 := (x_22.2.2.2.2 (K 2) (some_nn k_11) (fun e => e.elim (zne k_11 e_6 (by nofun)) (zne k_11 e_7 (by nofun)))).trans k_11
        have k_30 := (x_22.2.2.2.2 (K 5) (some_nn k_12) (fun e => e.elim (zne k_12 e_6 (by nofun)) (zne k_12 e_7 (by nofun)))).trans k_12
        have k_31 := (x_22.2.2.2.2 (K 12) (some_nn k_13) (fun e => e.elim (zne k_13 e_6 (by nofun)) (zne k_13 e_7 (by nofun)))).trans k_13
        have k_32 := (x_22.2.2.2.2 (K 1) (some_nn e_8) (fun e => e.elim (zne e_8 e_6 (by nofun)) (zne e_8 e_7 (by nofun)))).trans e_8
        have x_33 := ext_call x_18 x_22 (fun y e => e.elim (fun e => by rw [e]; exact (Or.inl n_14)) (fun e => by rw [e]; exact (Or.inl n_16)))
        have n_34 := x_22.2.2.1 (K 1) (hx.1 1 (by omega)) (some_nn e_8)
        obtain ⟨y1, y2, y3⟩ := ask_ok w_25
        have tq := rqAt_mono x_33.2.1 (y2 _ _ w_26)
        have tqg := y2 _ _ w_26
        obtain ⟨fsq, cq⟩ := rq_cell tq
        have hr2 : rgI g_20 u_21 r v (K 5) (K 6) A := x_rg st0 x_33 (fun y z => ⟨1, by omega, by omega, by omega, z⟩)
        refine z_ast (ls' := [some (zR (some (K 0))), some (zI (nI p)), some (zR (some q_2)), some (zR (some q_23))]) rfl (Nat.le_of_ble_eq_true rfl) rfl ?_
        refine z_ald rfl rfl ?_
        refine z_nnP rfl ?_
        refine z_ald rfl rfl ?_
        refine z_get rfl k_28 rfl ?_
        refine z_ild rfl rfl ?_
        refine z_ald rfl rfl ?_
        refine z_aast rfl k_31 (by omega) (by omega) (fun q e => by cases e; exact ⟨_, cq⟩) ?_
        intro g_35 e_36 f_37
        have k_38 := (f_37 (K 0) (Kne hx (i := 0) (j := 12) (by omega) (by omega) (by omega))).trans k_28
        have k_39 := (f_37 (K 2) (Kne hx (i := 2) (j := 12) (by omega) (by omega) (by omega))).trans k_29
        have k_40 := (f_37 (K 5) (Kne hx (i := 5) (j := 12) (by omega) (by omega) (by omega))).trans k_30
        have k_41 := (f_37 (K 1) (Kne hx (i := 1) (j := 12) (by omega) (by omega) (by omega))).trans k_32
        have k_42 := (f_37 q_23 (zne cq k_31 (by nofun))).trans cq
        refine z_rtv rfl ?_
        exact Or.inl ⟨y1, y3, rfl, st_wt st0 hI hp x_33 k_32 f_37 e_36 hR1 hrt tqg y3⟩
      · skip
        cases e9
        have k_43 := (x_22.2.2.2.2 (K 0) (some_nn k_10) (fun e => e.elim (zne k_10 e_6 (by nofun)) (zne k_10 e_7 (by nofun)))).trans k_10
        have k_44 := (x_22.2.2.2.2 (K 2) (some_nn k_11) (fun e => e.elim (zne k_11 e_6 (by nofun)) (zne k_11 e_7 (by nofun)))).trans k_11
        have k_45 := (x_22.2.2.2.2 (K 5) (some_nn k_12) (fun e => e.elim (zne k_12 e_6 (by nofun)) (zne k_12 e_7 (by nofun)))).trans k_12
        have k_46 := (x_22.2.2.2.2 (K 12) (some_nn k_13) (fun e => e.elim (zne k_13 e_6 (by nofun)) (zne k_13 e_7 (by nofun)))).trans k_13
        have k_47 := (x_22.2.2.2.2 (K 1) (some_nn e_8) (fun e => e.elim (zne e_8 e_6 (by nofun)) (zne e_8 e_7 (by nofun)))).trans e_8
        have x_48 := ext_call x_18 x_22 (fun y e => e.elim (fun e => by rw [e]; exact (Or.inl n_14)) (fun e => by rw [e]; exact (Or.inl n_16)))
        have n_49 := x_22.2.2.1 (K 1) (hx.1 1 (by omega)) (some_nn e_8)
        have y1 := ask_no w_27
        refine z_ast (ls' := [some (zR (some (K 0))), some (zI (nI p)), some (zR (some q_2)), some (zR none)]) rfl (Nat.le_of_ble_eq_true rfl) rfl ?_
        refine z_ald rfl rfl ?_
        refine z_nnZ rfl ?_
        refine z_thr rfl (by omega) (by omega) (Nat.le_of_ble_eq_true rfl) ?_
        exact Or.inr ⟨y1, rfl, st_rd st0 x_48 k_47⟩
    · rw [isPk_n hp] at b_19; cases b_19
set_option maxHeartbeats 1000000 in
theorem k_wantX {d : Nat} {h : zH} {g : zH} {K A : Nat → Nat} {n v f : Nat} {r : rA} {x : Int32} (st : stC h g K A n v f r) (hpx : isPk x = false) : zCall (d + 9) 77 [zR (some (K 0)), zI (x)] h (8 * n + 37) (16 * n + 91) (fun h' o => o = .inr 2 ∧ poC h g K A v h' 0 v f r) := by
  have st0 := st
  obtain ⟨hx, ⟨tc, hT1, hT2, hn, htx, htf⟩, ⟨fc, hF1, hF2, hf6, hfc⟩, hr, ⟨Kf, O, C, T, fo, hS1, hS2, hS3, hS4, hS5, hsr, hcs⟩, ⟨fR, hR1, hrt⟩, ⟨fP, hP1, hpp⟩, ⟨fC, hC1, hcc⟩⟩ := st
  have hX := hx.2.2
  have hr0 := hr
  obtain ⟨hG1, ⟨fl, hG2, hfl⟩, hv, hrel, hg⟩ := hr
  refine zCall.of (d := d + 8) (T := tb_77) (L := [some (zR (some (K 0))), some (zI (x)), none, none]) (Nat.le_of_ble_eq_true rfl) rfl rfl ?_
  have x0 : ext (fun y => y = K 1) g h g h := ext_refl hg
  refine z_ald rfl rfl ?_
  refine z_call (as := [zR (some (K 0))]) (r := []) (mc' := 2) (ms' := 7) rfl rfl rfl (Nat.le_of_ble_eq_true rfl) (by omega) (by omega) (rc0 rfl hX) (k_X9_useUpText hx hT1 hT2 hn) (by rintro _ _ ⟨_, _, e, _⟩; cases e) ?_
  rintro g_1 _ ⟨q_2, q_3, e9, h_4, h_5, e_6, e_7, e_8, f_9⟩; cases e9
  · skip
    have k_10 := (f_9 (K 0) (Kne hx (i := 0) (j := 1) (by omega) (by omega) (by omega)) (zn0 hX h_4) (zn0 hX h_5)).trans hX
    have k_11 := (f_9 (K 2) (Ne.symm (Kne hx (i := 1) (j := 2) (by omega) (by omega) (by omega))) (zn0 hT2 h_4) (zn0 hT2 h_5)).trans hT2
    have k_12 := (f_9 (K 5) (Ne.symm (Kne hx (i := 1) (j := 5) (by omega) (by omega) (by omega))) (zn0 hG1 h_4) (zn0 hG1 h_5)).trans hG1
    have n_13 := ext_new x0 h_4
    have n_14 := ext_gn x0 h_4
    have n_15 := ext_new x0 h_5
    have n_16 := ext_gn x0 h_5
    have x_17 := ext_mut3 x0 f_9 (Or.inr rfl) (hx.1 1 (by omega)) e_8 (Or.inl n_13) n_14 e_6 (Or.inl n_15) n_16 e_7
    have hr1 : rgI g_1 g r v (K 5) (K 6) A := x_rg st0 x_17 (fun y z => ⟨1, by omega, by omega, by omega, z⟩)
    have hg1 : hle g g_1 := x_17.2.1
    have hrel1 := hr1.2.2.2.1
    refine z_ast (ls' := [some (zR (some (K 0))), some (zI (x)), some (zR (some q_2)), none]) rfl (Nat.le_of_ble_eq_true rfl) rfl ?_
    refine z_ild rfl rfl ?_
    refine z_callF (as := [zI (x)]) (r := []) (v := some (zI (bI (isPk (x))))) rfl rfl rfl (Nat.le_of_ble_eq_true rfl) (by omega) (by omega) (rc1 rfl) k_X9_isPack ?_
    refine z_ifB1 rfl (fun b_18 => ?_) (fun b_18 => ?_)
    · rw [hpx] at b_18; cases b_18
    · refine z_thr rfl (by omega) (by omega) (Nat.le_of_ble_eq_true rfl) ?_
      exact ⟨rfl, st_rd st0 x_17 e_8⟩
