/-! Calls that read the text. -/
theorem mn_hi {n m : Nat} (h : n ≤ m) (hm : m < 2 ^ 31) : (if nI m < nI n then nI m else nI n) = nI n := if_neg (fun g => by have := (nI_ltI (by omega) (by omega)).mp g; omega)
theorem ext_mo {M M' : Nat → Prop} {g h g' h' : zH} (x : ext M g h g' h') (hm : ∀ y, M y → M' y) : ext M' g h g' h' := ⟨x.1, x.2.1, x.2.2.1, x.2.2.2.1, fun y a b => x.2.2.2.2 y a (fun z => b (hm y z))⟩
section
variable {h h' g g' : zH} {K A : Nat → Nat} {n v f : Nat} {r r' : rA} {M : Nat → Prop}
theorem x_K (st : stC h g K A n v f r) (x : ext M g h g' h') {i : Nat} (hi : i < 15) (hM : ¬ M (K i)) : h' (K i) = h (K i) := x.2.2.2.2 _ (stC_K st hi) hM
theorem x_A (st : stC h g K A n v f r) (x : ext M g h g' h') (hM : ∀ y, M y → ∃ j, j < 15 ∧ y = K j) {i : Nat} (hi : i < v) : h' (A i) = h (A i) := by
  obtain ⟨fs, q⟩ := stC_A st hi
  refine x.2.2.2.2 _ (some_nn q) (fun z => ?_)
  obtain ⟨j, a, b⟩ := hM _ z
  exact stC_KA st a hi b.symm
theorem x_gA (st : stC h g K A n v f r) (x : ext M g h g' h') {i : Nat} (hi : i < v) : g' (A i) = none := by
  obtain ⟨fs, q⟩ := stC_A st hi
  exact x.2.2.1 _ (stC_gA st hi) (some_nn q)
theorem x_gK (st : stC h g K A n v f r) (x : ext M g h g' h') {i : Nat} (hi : i < 15) : g' (K i) = none := x.2.2.1 _ (st.1.1 i hi) (stC_K st hi)
theorem x_rg (st : stC h g K A n v f r) (x : ext M g h g' h') (hM : ∀ y, M y → ∃ j, j < 15 ∧ j ≠ 5 ∧ j ≠ 6 ∧ y = K j) : rgI h' g' r v (K 5) (K 6) A := by
  have hx := st.1
  refine rg_ex st.2.2.2.1 x.1 x.2.1 (fun i hi => x_gA st x hi) (x_K st x (by omega) (fun z => ?_)) (x_K st x (by omega) (fun z => ?_)) (fun i hi => x_A st x (fun y z => ?_) hi)
  · obtain ⟨j, a, b, c, e⟩ := hM _ z
    exact b (hx.2.1 _ _ (by omega) a e).symm
  · obtain ⟨j, a, b, c, e⟩ := hM _ z
    exact c (hx.2.1 _ _ (by omega) a e).symm
  · obtain ⟨j, a, b, c, e⟩ := hM _ z
    exact ⟨j, a, e⟩
/-- a reading call leaves an empty text and nothing else -/
theorem st_rd (st : stC h g K A n v f r) (x : ext (fun y => y = K 1) g h g' h') (c : h' (K 1) = some (zO 0 [zR (some (K 2)), zI (nI 0)])) : poC h g K A v h' 0 v f r := by
  have hx := st.1
  have e : ∀ i, i < 15 → i ≠ 1 → h' (K i) = h (K i) := fun i hi hn => x_K st x hi (Kne hx hi (by omega) hn)
  refine ⟨g', A, ext_mo x (fun y z => Or.inl ⟨1, by omega, z⟩), ?_, fun i hi => ⟨fun _ => rfl, fun z => absurd hi (by omega)⟩⟩
  have rg := x_rg st x (fun y z => ⟨1, by omega, by omega, by omega, z⟩)
  have gK : ∀ i, i < 15 → g' (K i) = none := fun i hi => x_gK st x hi
  obtain ⟨a, ⟨tc, b1, b2, b3, b4, b5⟩, cc, d, s, xx, yy, z⟩ := st
  exact ⟨cX_fr a gK (e 0 (by omega) (by omega)), ⟨tc, c, (e 2 (by omega) (by omega)).trans b2, by omega, fun j hj => absurd hj (Nat.not_lt_zero _), b5⟩, cF_fr cc (e 3 (by omega) (by omega)) (e 4 (by omega) (by omega)), rg, cS_fr s (e 7 (by omega) (by omega)) (e 8 (by omega) (by omega)) (e 9 (by omega) (by omega)) (e 10 (by omega) (by omega)) (e 11 (by omega) (by omega)), cR_fr xx x.1 (e 12 (by omega) (by omega)), cP_fr yy (e 13 (by omega) (by omega)), cC_fr z (e 14 (by omega) (by omega))⟩
end
/-- what the reference says of a requirement that the class has read -/
abbrev askB (n : Nat) (r : rA) : Bool := !(rqR 213 n 0 r).2.1 && decide ((rqR 213 n 0 r).1 = n)
theorem ask_ok {n : Nat} {r : rA} {l : List sV} (h : rqC (r 2) n 4 0 l n) : askB n r = true ∧ (∀ g q, rqAt g q (qOf l) → rqAt g q (qR (rqR 213 n 0 r).2.2 213)) ∧ rqK (rqR 213 n 0 r).2.2 213 := by
  rcases rqR_ok2 (r0 := 213) (Nat.zero_le n) h with ⟨r', e, a1, a2, a3, a4, a5, _⟩ | ⟨z, _⟩
  · rw [askB, e]
    refine ⟨by simp, a4, ?_⟩
    have ec : cnt r' 213 = l.length := by
      show (r' 12 213).toNatClampNeg = l.length
      rw [a3, nI_clamp (by omega)]
    show rqK r' 213
    exact ⟨by rw [ec]; exact a3, by rw [ec]; omega, fun m hm => a5 m (by rw [← ec]; exact hm)⟩
  · exact absurd z.1 (Nat.lt_irrefl _)
theorem ask_no {n : Nat} {r : rA} (h : rqN (r 2) n 4 0 ∨ ∃ l e, rqC (r 2) n 4 0 l e ∧ ¬ e = n) : askB n r = false := by
  have dd : ded n (r 2) (rqR 213 n 0 r).1 (rqR 213 n 0 r).2.1 → askB n r = false := fun z => by
    rcases z with z | z
    · rw [askB, z]; rfl
    · rw [askB, decide_eq_false (fun q => by have := z.1; omega), Bool.and_false]
  rcases h with h | ⟨l, e, h, hn⟩
  · exact dd (rqR_no2 (Nat.zero_le n) h)
  · rcases rqR_ok2 (r0 := 213) (Nat.zero_le n) h with ⟨r', q, _⟩ | ⟨_, z⟩
    · rw [askB, q]
      simp [hn]
    · exact dd z
theorem rl_pv {a b c d e f a' b' c' d' e' f' : Nat} {y y' : Bool} (h : rlO a b c d e f y = rlO a' b' c' d' e' f' y') : b = b' := by
  have := congrArg (fun e : zE => match e with
    | .inr (.inr (.inr (_, [_, .inr (.inr (some q)), _, _, _, _, _]))) => q
    | _ => 0) h
  exact this
set_option maxHeartbeats 1000000 in
theorem k_X1_init {d : Nat} {h : zH} {q pb n : Nat} {tc : Nat → Int32} (h1 : h q = some (zO 1 [zR none, zI (nI 0), zI (nI 0), zR none])) (h2 : h pb = some (zaI 0 160 tc)) (hn : n ≤ 160) : zCall (d + 1) 9 [zR (some q), zR (some pb), zI (nI n)] h 1 3 (fun h' o => ∃ pn, o = .inl none ∧ h pn = none ∧ h' q = some (rdO pb n 0 pn) ∧ h' pn = some (zaI 1 3 (fun _ => 0)) ∧ (∀ y, y ≠ q → y ≠ pn → h' y = h y)) := by
  refine zCall.of (d := d) (T := tb_9) (L := [some (zR (some q)), some (zR (some pb)), some (zI (nI n))]) (Nat.le_of_ble_eq_true rfl) rfl rfl ?_
  refine z_ald rfl rfl ?_
  refine z_oin rfl (Nat.le_of_ble_eq_true rfl) ?_
  refine z_ald rfl rfl ?_
  refine z_ico (x := (nI 3)) rfl rfl ?_
  refine z_newI (e := zaI 1 3 ((fun _ => 0))) rfl (by omega) (by omega) (by omega) rfl ?_
  intro q_1 g_2 h_3 e_4 f_5
  have k_6 := (f_5 q (zn0 h1 h_3)).trans h1
  have k_7 := (f_5 pb (zn0 h2 h_3)).trans h2
  refine z_put (e := zO 1 [zR none, zI (nI 0), zI (nI 0), zR (some q_1)]) rfl k_6 (Nat.le_of_ble_eq_true rfl) ⟨_, rfl⟩ rfl ?_
  intro g_8 e_9 f_10
  have k_11 := (f_10 pb (zne k_7 k_6 (by nofun))).trans k_7
  have k_12 := (f_10 q_1 (zne e_4 k_6 (by nofun))).trans e_4
  refine z_ald rfl rfl ?_
  refine z_ald rfl rfl ?_
  refine z_put (e := zO 1 [zR (some pb), zI (nI 0), zI (nI 0), zR (some q_1)]) rfl e_9 (Nat.le_of_ble_eq_true rfl) ⟨_, rfl⟩ rfl ?_
  intro g_13 e_14 f_15
  have k_16 := (f_15 pb (zne k_11 e_9 (by nofun))).trans k_11
  have k_17 := (f_15 q_1 (zne k_12 e_9 (by nofun))).trans k_12
  refine z_ald rfl rfl ?_
  refine z_ild rfl rfl ?_
  refine z_ald rfl rfl ?_
  refine z_len (m := 160) rfl (by rw [k_16]; rfl) ?_
  refine z_min (v := (nI n)) rfl (Nat.le_of_ble_eq_true rfl) (mn_hi hn (by omega)) ?_
  refine z_put (e := zO 1 [zR (some pb), zI (nI n), zI (nI 0), zR (some q_1)]) rfl e_14 (Nat.le_of_ble_eq_true rfl) ⟨_, rfl⟩ rfl ?_
  intro g_18 e_19 f_20
  have k_21 := (f_20 pb (zne k_16 e_14 (by nofun))).trans k_16
  have k_22 := (f_20 q_1 (zne k_17 e_14 (by nofun))).trans k_17
  refine z_rtv rfl ?_
  exact ⟨q_1, rfl, h_3, e_19, k_22, fun y hy hz => (f_20 y hy).trans ((f_15 y hy).trans ((f_10 y hy).trans (f_5 y hz)))⟩
set_option maxHeartbeats 1000000 in
theorem k_X9_useUpText {d : Nat} {h : zH} {K : Nat → Nat} {g : zH} {n : Nat} {tc : Nat → Int32} (hx : cX h g K) (hT1 : h (K 1) = some (zO 0 [zR (some (K 2)), zI (nI n)])) (hT2 : h (K 2) = some (zaI 0 160 tc)) (hn : n ≤ 160) : zCall (d + 2) 91 [zR (some (K 0))] h 2 7 (fun h' o => ∃ q pn, o = .inl (some (zR (some q))) ∧ h q = none ∧ h pn = none ∧ h' q = some (rdO (K 2) n 0 pn) ∧ h' pn = some (zaI 1 3 (fun _ => 0)) ∧ h' (K 1) = some (zO 0 [zR (some (K 2)), zI (nI 0)]) ∧ (∀ y, y ≠ K 1 → y ≠ q → y ≠ pn → h' y = h y)) := by
  have hX := hx.2.2
  refine zCall.of (d := d + 1) (T := tb_91) (L := [some (zR (some (K 0))), none]) (Nat.le_of_ble_eq_true rfl) rfl rfl ?_
  refine z_new rfl (by omega) (by omega) ?_
  intro q_1 g_2 h_3 e_4 f_5
  have k_6 := (f_5 (K 0) (zn0 hX h_3)).trans hX
  have k_7 := (f_5 (K 1) (zn0 hT1 h_3)).trans hT1
  have k_8 := (f_5 (K 2) (zn0 hT2 h_3)).trans hT2
  replace e_4 : g_2 q_1 = some (zO 1 [zR none, zI (nI 0), zI (nI 0), zR none]) := e_4
  refine z_dup rfl rfl ?_
  refine z_ald rfl rfl ?_
  refine z_get rfl k_6 rfl ?_
  refine z_get rfl k_7 rfl ?_
  refine z_ald rfl rfl ?_
  refine z_get rfl k_6 rfl ?_
  refine z_get rfl k_7 rfl ?_
  refine z_call (as := [zR (some q_1), zR (some (K 2)), zI (nI n)]) (r := [zR (some q_1)]) (mc' := 1) (ms' := 3) rfl rfl rfl (Nat.le_of_ble_eq_true rfl) (by omega) (by omega) (rc2 rfl) (k_X1_init e_4 k_8 hn) (by rintro _ _ ⟨_, e, _⟩; cases e) ?_
  rintro g_9 _ ⟨q_10, e9, h_11, e_12, e_13, f_14⟩; cases e9
  · skip
    have k_15 := (f_14 (K 0) (zne k_6 e_4 (by nofun)) (zn0 k_6 h_11)).trans k_6
    have k_16 := (f_14 (K 1) (zne k_7 e_4 (by nofun)) (zn0 k_7 h_11)).trans k_7
    have k_17 := (f_14 (K 2) (zne k_8 e_4 (by nofun)) (zn0 k_8 h_11)).trans k_8
    refine z_ast (ls' := [some (zR (some (K 0))), some (zR (some q_1))]) rfl (Nat.le_of_ble_eq_true rfl) rfl ?_
    refine z_ald rfl rfl ?_
    refine z_get rfl k_15 rfl ?_
    refine z_ico (x := (nI 0)) rfl rfl ?_
    refine z_put (e := zO 0 [zR (some (K 2)), zI (nI 0)]) rfl k_16 (Nat.le_of_ble_eq_true rfl) ⟨_, rfl⟩ rfl ?_
    intro g_18 e_19 f_20
    have k_21 := (f_20 (K 0) (Kne hx (i := 0) (j := 1) (by omega) (by omega) (by omega))).trans k_15
    have k_22 := (f_20 (K 2) (Ne.symm (Kne hx (i := 1) (j := 2) (by omega) (by omega) (by omega)))).trans k_17
    have k_23 := (f_20 q_1 (zne e_12 k_16 (by nofun))).trans e_12
    have k_24 := (f_20 q_10 (zne e_13 k_16 (by nofun))).trans e_13
    refine z_ald rfl rfl ?_
    refine z_ret rfl ⟨_, rfl⟩ ?_
    have n_25 : h q_10 = none := (f_5 q_10 (fun z => by rw [z, e_4] at h_11; cases h_11)).symm.trans h_11
    exact ⟨q_1, q_10, rfl, h_3, n_25, k_23, k_24, e_19, fun y hy hz hw => (f_20 y hy).trans ((f_14 y hz hw).trans (f_5 y hz))⟩
set_option maxHeartbeats 1000000 in
theorem k_X9_meets {d : Nat} {h : zH} {g : zH} {K A : Nat → Nat} {n v f : Nat} {r : rA} {i : Nat} (st : stC h g K A n v f r) (hi : i < v) : zCall (d + 9) 84 [zR (some (K 0)), zI (nI i)] h (8 * n + 37) (16 * n + 91) (fun h' o => (askB n r = true ∧ rqK (rqR 213 n 0 r).2.2 213 ∧ o = .inl (some (zI (bI (imF (qR (rqR 213 n 0 r).2.2 213) (rowV r i))))) ∧ poC h g K A v h' 0 v f r) ∨ (askB n r = false ∧ o = .inr 0 ∧ poC h g K A v h' 0 v f r)) := by
  have st0 := st
  obtain ⟨hx, ⟨tc, hT1, hT2, hn, htx, htf⟩, ⟨fc, hF1, hF2, hf6, hfc⟩, hr, ⟨Kf, O, C, T, fo, hS1, hS2, hS3, hS4, hS5, hsr, hcs⟩, ⟨fR, hR1, hrt⟩, ⟨fP, hP1, hpp⟩, ⟨fC, hC1, hcc⟩⟩ := st
  have hX := hx.2.2
  have hr0 := hr
  obtain ⟨hG1, ⟨fl, hG2, hfl⟩, hv, hrel, hg⟩ := hr
  refine zCall.of (d := d + 8) (T := tb_84) (L := [some (zR (some (K 0))), some (zI (nI i)), none, none, none]) (Nat.le_of_ble_eq_true rfl) rfl rfl ?_
  have x0 : ext (fun y => y = K 1) g h g h := ext_refl hg
  refine z_ald rfl rfl ?_
  refine z_call (as := [zR (some (K 0))]) (r := []) (mc' := 2) (ms' := 7) rfl rfl rfl (Nat.le_of_ble_eq_true rfl) (by omega) (by omega) (rc0 rfl hX) (k_X9_useUpText hx hT1 hT2 hn) (by rintro _ _ ⟨_, _, e, _⟩; cases e) ?_
  rintro g_1 _ ⟨q_2, q_3, e9, h_4, h_5, e_6, e_7, e_8, f_9⟩; cases e9
  · skip
    have k_10 := (f_9 (K 0) (Kne hx (i := 0) (j := 1) (by omega) (by omega) (by omega)) (zn0 hX h_4) (zn0 hX h_5)).trans hX
    have k_11 := (f_9 (K 2) (Ne.symm (Kne hx (i := 1) (j := 2) (by omega) (by omega) (by omega))) (zn0 hT2 h_4) (zn0 hT2 h_5)).trans hT2
    have k_12 := (f_9 (K 5) (Ne.symm (Kne hx (i := 1) (j := 5) (by omega) (by omega) (by omega))) (zn0 hG1 h_4) (zn0 hG1 h_5)).trans hG1
    have n_13 := ext_new x0 h_4
    have n_14 := ext_gn x0 h_4
    have n_15 := ext_new x0 h_5
    have n_16 := ext_gn x0 h_5
    have x_17 := ext_mut3 x0 f_9 (Or.inr rfl) (hx.1 1 (by omega)) e_8 (Or.inl n_13) n_14 e_6 (Or.inl n_15) n_16 e_7
    have hr1 : rgI g_1 g r v (K 5) (K 6) A := x_rg st0 x_17 (fun y z => ⟨1, by omega, by omega, by omega, z⟩)
    have hg1 : hle g g_1 := x_17.2.1
    have hrel1 := hr1.2.2.2.1
    refine z_ast (ls' := [some (zR (some (K 0))), some (zI (nI i)), some (zR (some q_2)), none, none]) rfl (Nat.le_of_ble_eq_true rfl) rfl ?_
    refine z_ald rfl rfl ?_
    refine z_get rfl k_10 rfl ?_
    refine z_ild rfl rfl ?_
    refine z_callF (as := [zR (some (K 5)), zI (nI i)]) (r := []) (v := some (zR (some ((A i))))) rfl rfl rfl (Nat.le_of_ble_eq_true rfl) (by omega) (by omega) (rc0 rfl k_12) (k_X2_at hr1 hi) ?_
    obtain ⟨pv_i, pw_i, pr_i, pd_i, pk_i, m_i, y_i, c_i, _, ⟨e16_i, pk8_i⟩, e17_i, ⟨e14_i, m5_i⟩, ⟨tv_i, _, ⟨fd_i, cd_i, td_i⟩, ⟨fr_i, cr_i, tr_i⟩⟩⟩ := relI_h hg1 (hrel1 i hi)
    obtain ⟨fsv_i, cv_i⟩ := vr_cell tv_i
    refine z_ast (ls' := [some (zR (some (K 0))), some (zI (nI i)), some (zR (some q_2)), some (zR (some ((A i)))), none]) rfl (Nat.le_of_ble_eq_true rfl) rfl ?_
    refine z_ald rfl rfl ?_
    refine z_nnP rfl ?_
    refine z_ald rfl rfl ?_
    refine z_call (as := [zR (some q_2)]) (r := []) (mc' := (8 * n + 34)) (ms' := (16 * n + 78)) rfl rfl rfl (Nat.le_of_ble_eq_true rfl) (by omega) (by omega) (rc0 rfl e_6) (k_X1_onlyRequirement htx hn (Nat.zero_le _) e_6 k_11 e_7 htf hg1 n_14 n_16) (by rintro _ _ ⟨_, _, ⟨_, _, e, _⟩ | ⟨e, _⟩⟩ <;> cases e) ?_
    rintro g_18 o ⟨u_19, x_20, ⟨q_21, l_22, e9, w_23, w_24⟩ | ⟨e9, w_25⟩⟩
    · skip
      cases e9
      have k_26 := (x_20.2.2.2.2 (K 0) (some_nn k_10) (fun e => e.elim (zne k_10 e_6 (by nofun)) (zne k_10 e_7 (by nofun)))).trans k_10
      have k_27 := (x_20.2.2.2.2 (K 2) (some_nn k_11) (fun e => e.elim (zne k_11 e_6 (by nofun)) (zne k_11 e_7 (by nofun)))).trans k_11
      have k_28 := (x_20.2.2.2.2 (K 5) (some_nn k_12) (fun e => e.elim (zne k_12 e_6 (by nofun)) (zne k_12 e_7 (by nofun)))).trans k_12
      have k_29 := (x_20.2.2.2.2 (K 1) (some_nn e_8) (fun e => e.elim (zne e_8 e_6 (by nofun)) (zne e_8 e_7 (by nofun)))).trans e_8
      have k_30 := (x_20.2.2.2.2 ((A i)) (some_nn c_i) (fun e => e.elim (zne c_i e_6 (by nofun)) (zne c_i e_7 (by nofun)))).trans c_i
      have k_31 := (x_20.2.2.2.2 pv_i (some_nn cv_i) (fun e => e.elim (zne cv_i e_6 (by nofun)) (zne cv_i e_7 (by nofun)))).trans cv_i
      have x_32 := ext_call x_17 x_20 (fun y e => e.elim (fun e => by rw [e]; exact (Or.inl n_13)) (fun e => by rw [e]; exact (Or.inl n_15)))
      have n_33 := x_20.2.2.1 (K 1) (hx.1 1 (by omega)) (some_nn e_8)
      obtain ⟨y1, y2, y3⟩ := ask_ok w_23
      have tq := rqAt_mono x_32.2.1 (y2 _ _ w_24)
      have tqg := y2 _ _ w_24
      obtain ⟨fsq, cq⟩ := rq_cell tq
      have hr2 : rgI g_18 u_19 r v (K 5) (K 6) A := x_rg st0 x_32 (fun y z => ⟨1, by omega, by omega, by omega, z⟩)
      refine z_ast (ls' := [some (zR (some (K 0))), some (zI (nI i)), some (zR (some q_2)), some (zR (some ((A i)))), some (zR (some q_21))]) rfl (Nat.le_of_ble_eq_true rfl) rfl ?_
      refine z_ald rfl rfl ?_
      refine z_nnP rfl ?_
      refine z_ald rfl rfl ?_
      refine z_ald rfl rfl ?_
      refine z_get rfl k_30 rfl ?_
      obtain ⟨pv_j, pw_j, pr_j, pd_j, pk_j, m_j, y_j, c_j, _, _, _, _, tb_j⟩ := relI_h hr2.2.2.2.2 (hr2.2.2.2.1 i hi)
      have ev : pv_j = pv_i := by
        have e9 := Option.some.inj (c_j.symm.trans k_30)
        exact rl_pv e9
      rw [ev] at tb_j
      refine z_callF (as := [zR (some q_21), zR (some pv_i)]) (r := []) (v := some (zI (bI (imF (qR (rqR 213 n 0 r).2.2 213) (rowV r i))))) rfl rfl rfl (Nat.le_of_ble_eq_true rfl) (by omega) (by omega) (rc0 rfl cq) (k_X4_isMetBy tq tb_j.1) ?_
      refine z_ret rfl ⟨_, rfl, bI_01 _⟩ ?_
      exact Or.inl ⟨y1, y3, rfl, st_rd st0 x_32 k_29⟩
    · skip
      cases e9
      have k_34 := (x_20.2.2.2.2 (K 0) (some_nn k_10) (fun e => e.elim (zne k_10 e_6 (by nofun)) (zne k_10 e_7 (by nofun)))).trans k_10
      have k_35 := (x_20.2.2.2.2 (K 2) (some_nn k_11) (fun e => e.elim (zne k_11 e_6 (by nofun)) (zne k_11 e_7 (by nofun)))).trans k_11
      have k_36 := (x_20.2.2.2.2 (K 5) (some_nn k_12) (fun e => e.elim (zne k_12 e_6 (by nofun)) (zne k_12 e_7 (by nofun)))).trans k_12
      have k_37 := (x_20.2.2.2.2 (K 1) (some_nn e_8) (fun e => e.elim (zne e_8 e_6 (by nofun)) (zne e_8 e_7 (by nofun)))).trans e_8
      have k_38 := (x_20.2.2.2.2 ((A i)) (some_nn c_i) (fun e => e.elim (zne c_i e_6 (by nofun)) (zne c_i e_7 (by nofun)))).trans c_i
      have k_39 := (x_20.2.2.2.2 pv_i (some_nn cv_i) (fun e => e.elim (zne cv_i e_6 (by nofun)) (zne cv_i e_7 (by nofun)))).trans cv_i
      have x_40 := ext_call x_17 x_20 (fun y e => e.elim (fun e => by rw [e]; exact (Or.inl n_13)) (fun e => by rw [e]; exact (Or.inl n_15)))
      have n_41 := x_20.2.2.1 (K 1) (hx.1 1 (by omega)) (some_nn e_8)
      have y1 := ask_no w_25
      refine z_ast (ls' := [some (zR (some (K 0))), some (zI (nI i)), some (zR (some q_2)), some (zR (some ((A i)))), some (zR none)]) rfl (Nat.le_of_ble_eq_true rfl) rfl ?_
      refine z_ald rfl rfl ?_
      refine z_nnZ rfl ?_
      refine z_thr rfl (by omega) (by omega) (Nat.le_of_ble_eq_true rfl) ?_
      exact Or.inr ⟨y1, rfl, st_rd st0 x_40 k_37⟩
set_option maxHeartbeats 1000000 in
theorem k_meetsX {d : Nat} {h : zH} {g : zH} {K A : Nat → Nat} {n v f : Nat} {r : rA} {x : Int32} (st : stC h g K A n v f r) (hxx : ∀ i, i < v → ¬ x = nI i) : zCall (d + 9) 84 [zR (some (K 0)), zI (x)] h (8 * n + 37) (16 * n + 91) (fun h' o => o = .inr 2 ∧ poC h g K A v h' 0 v f r) := by
  have st0 := st
  obtain ⟨hx, ⟨tc, hT1, hT2, hn, htx, htf⟩, ⟨fc, hF1, hF2, hf6, hfc⟩, hr, ⟨Kf, O, C, T, fo, hS1, hS2, hS3, hS4, hS5, hsr, hcs⟩, ⟨fR, hR1, hrt⟩, ⟨fP, hP1, hpp⟩, ⟨fC, hC1, hcc⟩⟩ := st
  have hX := hx.2.2
  have hr0 := hr
  obtain ⟨hG1, ⟨fl, hG2, hfl⟩, hv, hrel, hg⟩ := hr
  refine zCall.of (d := d + 8) (T := tb_84) (L := [some (zR (some (K 0))), some (zI (x)), none, none, none]) (Nat.le_of_ble_eq_true rfl) rfl rfl ?_
  have x0 : ext (fun y => y = K 1) g h g h := ext_refl hg
  refine z_ald rfl rfl ?_
  refine z_call (as := [zR (some (K 0))]) (r := []) (mc' := 2) (ms' := 7) rfl rfl rfl (Nat.le_of_ble_eq_true rfl) (by omega) (by omega) (rc0 rfl hX) (k_X9_useUpText hx hT1 hT2 hn) (by rintro _ _ ⟨_, _, e, _⟩; cases e) ?_
  rintro g_1 _ ⟨q_2, q_3, e9, h_4, h_5, e_6, e_7, e_8, f_9⟩; cases e9
  · skip
    have k_10 := (f_9 (K 0) (Kne hx (i := 0) (j := 1) (by omega) (by omega) (by omega)) (zn0 hX h_4) (zn0 hX h_5)).trans hX
    have k_11 := (f_9 (K 2) (Ne.symm (Kne hx (i := 1) (j := 2) (by omega) (by omega) (by omega))) (zn0 hT2 h_4) (zn0 hT2 h_5)).trans hT2
    have k_12 := (f_9 (K 5) (Ne.symm (Kne hx (i := 1) (j := 5) (by omega) (by omega) (by omega))) (zn0 hG1 h_4) (zn0 hG1 h_5)).trans hG1
    have n_13 := ext_new x0 h_4
    have n_14 := ext_gn x0 h_4
    have n_15 := ext_new x0 h_5
    have n_16 := ext_gn x0 h_5
    have x_17 := ext_mut3 x0 f_9 (Or.inr rfl) (hx.1 1 (by omega)) e_8 (Or.inl n_13) n_14 e_6 (Or.inl n_15) n_16 e_7
    have hr1 : rgI g_1 g r v (K 5) (K 6) A := x_rg st0 x_17 (fun y z => ⟨1, by omega, by omega, by omega, z⟩)
    have hg1 : hle g g_1 := x_17.2.1
    have hrel1 := hr1.2.2.2.1
    refine z_ast (ls' := [some (zR (some (K 0))), some (zI (x)), some (zR (some q_2)), none, none]) rfl (Nat.le_of_ble_eq_true rfl) rfl ?_
    refine z_ald rfl rfl ?_
    refine z_get rfl k_10 rfl ?_
    refine z_ild rfl rfl ?_
    refine z_callF (as := [zR (some (K 5)), zI (x)]) (r := []) (v := some (zR none)) rfl rfl rfl (Nat.le_of_ble_eq_true rfl) (by omega) (by omega) (rc0 rfl k_12) (k_atN hr1 hxx) ?_
    refine z_ast (ls' := [some (zR (some (K 0))), some (zI (x)), some (zR (some q_2)), some (zR none), none]) rfl (Nat.le_of_ble_eq_true rfl) rfl ?_
    refine z_ald rfl rfl ?_
    refine z_nnZ rfl ?_
    refine z_thr rfl (by omega) (by omega) (Nat.le_of_ble_eq_true rfl) ?_
    exact ⟨rfl, st_rd st0 x_17 e_8⟩
set_option maxHeartbeats 1000000 in
theorem k_X9_best {d : Nat} {h : zH} {g : zH} {K A : Nat → Nat} {n v f : Nat} {r : rA} {p : Nat} (st : stC h g K A n v f r) (hp : p < 8) : zCall (d + 9) 85 [zR (some (K 0)), zI (nI p)] h (8 * n + 37) (16 * n + 91) (fun h' o => (askB n r = true ∧ rqK (rqR 213 n 0 r).2.2 213 ∧ o = .inl (some (zI (oI (hgF r p (qR (rqR 213 n 0 r).2.2 213) v)))) ∧ poC h g K A v h' 0 v f r) ∨ (askB n r = false ∧ o = .inr 0 ∧ poC h g K A v h' 0 v f r)) := by
  have st0 := st
  obtain ⟨hx, ⟨tc, hT1, hT2, hn, htx, htf⟩, ⟨fc, hF1, hF2, hf6, hfc⟩, hr, ⟨Kf, O, C, T, fo, hS1, hS2, hS3, hS4, hS5, hsr, hcs⟩, ⟨fR, hR1, hrt⟩, ⟨fP, hP1, hpp⟩, ⟨fC, hC1, hcc⟩⟩ := st
  have hX := hx.2.2
  have hr0 := hr
  obtain ⟨hG1, ⟨fl, hG2, hfl⟩, hv, hrel, hg⟩ := hr
  refine zCall.of (d := d + 8) (T := tb_85) (L := [some (zR (some (K 0))), some (zI (nI p)), none, none]) (Nat.le_of_ble_eq_true rfl) rfl rfl ?_
  have x0 : ext (fun y => y = K 1) g h g h := ext_refl hg
  refine z_ald rfl rfl ?_
  refine z_call (as := [zR (some (K 0))]) (r := []) (mc' := 2) (ms' := 7) rfl rfl rfl (Nat.le_of_ble_eq_true rfl) (by omega) (by omega) (rc0 rfl hX) (k_X9_useUpText hx hT1 hT2 hn) (by rintro _ _ ⟨_, _, e, _⟩; cases e) ?_
  rintro g_1 _ ⟨q_2, q_3, e9, h_4, h_5, e_6, e_7, e_8, f_9⟩; cases e9
  · skip
    have k_10 := (f_9 (K 0) (Kne hx (i := 0) (j := 1) (by omega) (by omega) (by omega)) (zn0 hX h_4) (zn0 hX h_5)).trans hX
    have k_11 := (f_9 (K 2) (Ne.symm (Kne hx (i := 1) (j := 2) (by omega) (by omega) (by omega))) (zn0 hT2 h_4) (zn0 hT2 h_5)).trans hT2
    have k_12 := (f_9 (K 5) (Ne.symm (Kne hx (i := 1) (j := 5) (by omega) (by omega) (by omega))) (zn0 hG1 h_4) (zn0 hG1 h_5)).trans hG1
    have n_13 := ext_new x0 h_4
    have n_14 := ext_gn x0 h_4
    have n_15 := ext_new x0 h_5
    have n_16 := ext_gn x0 h_5
    have x_17 := ext_mut3 x0 f_9 (Or.inr rfl) (hx.1 1 (by omega)) e_8 (Or.inl n_13) n_14 e_6 (Or.inl n_15) n_16 e_7
    have hr1 : rgI g_1 g r v (K 5) (K 6) A := x_rg st0 x_17 (fun y z => ⟨1, by omega, by omega, by omega, z⟩)
    have hg1 : hle g g_1 := x_17.2.1
    have hrel1 := hr1.2.2.2.1
    refine z_ast (ls' := [some (zR (some (K 0))), some (zI (nI p)), some (zR (some q_2)), none]) rfl (Nat.le_of_ble_eq_true rfl) rfl ?_
    refine z_ild rfl rfl ?_
    refine z_callF (as := [zI (nI p)]) (r := []) (v := some (zI (bI (isPk (nI p))))) rfl rfl rfl (Nat.le_of_ble_eq_true rfl) (by omega) (by omega) (rc1 rfl) k_X9_isPack ?_
    refine z_ifB1 rfl (fun b_18 => ?_) (fun b_18 => ?_)
    · refine z_ald rfl rfl ?_
      refine z_call (as := [zR (some q_2)]) (r := []) (mc' := (8 * n + 34)) (ms' := (16 * n + 78)) rfl rfl rfl (Nat.le_of_ble_eq_true rfl) (by omega) (by omega) (rc0 rfl e_6) (k_X1_onlyRequirement htx hn (Nat.zero_le _) e_6 k_11 e_7 htf hg1 n_14 n_16) (by rintro _ _ ⟨_, _, ⟨_, _, e, _⟩ | ⟨e, _⟩⟩ <;> cases e) ?_
      rintro g_19 o ⟨u_20, x_21, ⟨q_22, l_23, e9, w_24, w_25⟩ | ⟨e9, w_26⟩⟩
      · skip
        cases e9
        have k_27 := (x_21.2.2.2.2 (K 0) (some_nn k_10) (fun e => e.elim (zne k_10 e_6 (by nofun)) (zne k_10 e_7 (by nofun)))).trans k_10
        have k_28 := (x_21.2.2.2.2 (K 2) (some_nn k_11) (fun e => e.elim (zne k_11 e_6 (by nofun)) (zne k_11 e_7 (by nofun)))).trans k_11
        have k_29 := (x_21.2.2.2.2 (K 5) (some_nn k_12) (fun e => e.elim (zne k_12 e_6 (by nofun)) (zne k_12 e_7 (by nofun)))).trans k_12
        have k_30 := (x_21.2.2.2.2 (K 1) (some_nn e_8) (fun e => e.elim (zne e_8 e_6 (by nofun)) (zne e_8 e_7 (by nofun)))).trans e_8
        have x_31 := ext_call x_17 x_21 (fun y e => e.elim (fun e => by rw [e]; exact (Or.inl n_13)) (fun e => by rw [e]; exact (Or.inl n_15)))
        have n_32 := x_21.2.2.1 (K 1) (hx.1 1 (by omega)) (some_nn e_8)
        obtain ⟨y1, y2, y3⟩ := ask_ok w_24
        have tq := rqAt_mono x_31.2.1 (y2 _ _ w_25)
        have tqg := y2 _ _ w_25
        obtain ⟨fsq, cq⟩ := rq_cell tq
        have hr2 : rgI g_19 u_20 r v (K 5) (K 6) A := x_rg st0 x_31 (fun y z => ⟨1, by omega, by omega, by omega, z⟩)
        refine z_ast (ls' := [some (zR (some (K 0))), some (zI (nI p)), some (zR (some q_2)), some (zR (some q_22))]) rfl (Nat.le_of_ble_eq_true rfl) rfl ?_
        refine z_ald rfl rfl ?_
        refine z_nnP rfl ?_
        refine z_ald rfl rfl ?_
        refine z_get rfl k_27 rfl ?_
        refine z_ild rfl rfl ?_
        refine z_ald rfl rfl ?_
        refine z_callF (as := [zR (some (K 5)), zI (nI p), zR (some q_22)]) (r := []) (v := some (zI (oI (hgF r p (qR (rqR 213 n 0 r).2.2 213) v)))) rfl rfl rfl (Nat.le_of_ble_eq_true rfl) (by omega) (by omega) (rc0 rfl k_29) (k_X2_highest hr2 hp tq) ?_
        refine z_ret rfl ⟨_, rfl⟩ ?_
        exact Or.inl ⟨y1, y3, rfl, st_rd st0 x_31 k_30⟩
      · skip
        cases e9
        have k_33 := (x_21.2.2.2.2 (K 0) (some_nn k_10) (fun e => e.elim (zne k_10 e_6 (by nofun)) (zne k_10 e_7 (by nofun)))).trans k_10
        have k_34 := (x_21.2.2.2.2 (K 2) (some_nn k_11) (fun e => e.elim (zne k_11 e_6 (by nofun)) (zne k_11 e_7 (by nofun)))).trans k_11
        have k_35 := (x_21.2.2.2.2 (K 5) (some_nn k_12) (fun e => e.elim (zne k_12 e_6 (by nofun)) (zne k_12 e_7 (by nofun)))).trans k_12
        have k_36 := (x_21.2.2.2.2 (K 1) (some_nn e_8) (fun e => e.elim (zne e_8 e_6 (by nofun)) (zne e_8 e_7 (by nofun)))).trans e_8
        have x_37 := ext_call x_17 x_21 (fun y e => e.elim (fun e => by rw [e]; exact (Or.inl n_13)) (fun e => by rw [e]; exact (Or.inl n_15)))
        have n_38 := x_21.2.2.1 (K 1) (hx.1 1 (by omega)) (some_nn e_8)
        have y1 := ask_no w_26
        refine z_ast (ls' := [some (zR (some (K 0))), some (zI (nI p)), some (zR (some q_2)), some (zR none)]) rfl (Nat.le_of_ble_eq_true rfl) rfl ?_
        refine z_ald rfl rfl ?_
        refine z_nnZ rfl ?_
        refine z_thr rfl (by omega) (by omega) (Nat.le_of_ble_eq_true rfl) ?_
        exact Or.inr ⟨y1, rfl, st_rd st0 x_37 k_36⟩
    · rw [isPk_n hp] at b_18; cases b_18
set_option maxHeartbeats 1000000 in
theorem k_bestX {d : Nat} {h : zH} {g : zH} {K A : Nat → Nat} {n v f : Nat} {r : rA} {x : Int32} (st : stC h g K A n v f r) (hpx : isPk x = false) : zCall (d + 9) 85 [zR (some (K 0)), zI (x)] h (8 * n + 37) (16 * n + 91) (fun h' o => o = .inr 2 ∧ poC h g K A v h' 0 v f r) := by
  have st0 := st
  obtain ⟨hx, ⟨tc, hT1, hT2, hn, htx, htf⟩, ⟨fc, hF1, hF2, hf6, hfc⟩, hr, ⟨Kf, O, C, T, fo, hS1, hS2, hS3, hS4, hS5, hsr, hcs⟩, ⟨fR, hR1, hrt⟩, ⟨fP, hP1, hpp⟩, ⟨fC, hC1, hcc⟩⟩ := st
  have hX := hx.2.2
  have hr0 := hr
  obtain ⟨hG1, ⟨fl, hG2, hfl⟩, hv, hrel, hg⟩ := hr
  refine zCall.of (d := d + 8) (T := tb_85) (L := [some (zR (some (K 0))), some (zI (x)), none, none]) (Nat.le_of_ble_eq_true rfl) rfl rfl ?_
  have x0 : ext (fun y => y = K 1) g h g h := ext_refl hg
  refine z_ald rfl rfl ?_
  refine z_call (as := [zR (some (K 0))]) (r := []) (mc' := 2) (ms' := 7) rfl rfl rfl (Nat.le_of_ble_eq_true rfl) (by omega) (by omega) (rc0 rfl hX) (k_X9_useUpText hx hT1 hT2 hn) (by rintro _ _ ⟨_, _, e, _⟩; cases e) ?_
  rintro g_1 _ ⟨q_2, q_3, e9, h_4, h_5, e_6, e_7, e_8, f_9⟩; cases e9
  · skip
    have k_10 := (f_9 (K 0) (Kne hx (i := 0) (j := 1) (by omega) (by omega) (by omega)) (zn0 hX h_4) (zn0 hX h_5)).trans hX
    have k_11 := (f_9 (K 2) (Ne.symm (Kne hx (i := 1) (j := 2) (by omega) (by omega) (by omega))) (zn0 hT2 h_4) (zn0 hT2 h_5)).trans hT2
    have k_12 := (f_9 (K 5) (Ne.symm (Kne hx (i := 1) (j := 5) (by omega) (by omega) (by omega))) (zn0 hG1 h_4) (zn0 hG1 h_5)).trans hG1
    have n_13 := ext_new x0 h_4
    have n_14 := ext_gn x0 h_4
    have n_15 := ext_new x0 h_5
    have n_16 := ext_gn x0 h_5
    have x_17 := ext_mut3 x0 f_9 (Or.inr rfl) (hx.1 1 (by omega)) e_8 (Or.inl n_13) n_14 e_6 (Or.inl n_15) n_16 e_7
    have hr1 : rgI g_1 g r v (K 5) (K 6) A := x_rg st0 x_17 (fun y z => ⟨1, by omega, by omega, by omega, z⟩)
    have hg1 : hle g g_1 := x_17.2.1
    have hrel1 := hr1.2.2.2.1
    refine z_ast (ls' := [some (zR (some (K 0))), some (zI (x)), some (zR (some q_2)), none]) rfl (Nat.le_of_ble_eq_true rfl) rfl ?_
    refine z_ild rfl rfl ?_
    refine z_callF (as := [zI (x)]) (r := []) (v := some (zI (bI (isPk (x))))) rfl rfl rfl (Nat.le_of_ble_eq_true rfl) (by omega) (by omega) (rc1 rfl) k_X9_isPack ?_
    refine z_ifB1 rfl (fun b_18 => ?_) (fun b_18 => ?_)
    · rw [hpx] at b_18; cases b_18
    · refine z_thr rfl (by omega) (by omega) (Nat.le_of_ble_eq_true rfl) ?_
      exact ⟨rfl, st_rd st0 x_17 e_8⟩
