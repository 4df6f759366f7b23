theorem pk_cs (x : Int32) : (∃ p, p < 8 ∧ x = nI p) ∨ (isIn x (nI 0) (nI 7) = false ∧ isPk x = false) := by
  cases e : isPk x with
  | true => exact Or.inl (isPk_of e)
  | false =>
    refine Or.inr ⟨?_, rfl⟩
    cases e2 : isIn x (nI 0) (nI 7) with
    | false => rfl
    | true =>
      obtain ⟨p, hp, q⟩ := isIn_ex (by omega) e2
      rw [q, isPk_n (by omega)] at e
      cases e
theorem ve_cs (x : Int32) {v : Nat} (hv : v ≤ 40) : (∃ i, i < v ∧ x = nI i) ∨ (isIn x (nI 0) (nI v - nI 1) = false ∧ ∀ i, i < v → ¬ x = nI i) := by
  cases e : isIn x (nI 0) (nI v - nI 1) with
  | true => exact Or.inl (isIn_vx (by omega) e)
  | false => exact Or.inr ⟨rfl, fun i hi q => by
      rw [q, isIn_v hi (by omega)] at e
      cases e⟩
theorem rt_w {g : zH} {r : rA} {fR : Nat → Option Nat} (h : rtI g r fR) {p : Nat} (hp : p < 8) : fR p = none ↔ r 20 p = 0 := by
  constructor
  · intro e
    cases c : w0 r p with
    | false => exact w0_f.mp c
    | true =>
      obtain ⟨q, a, _⟩ := (h p hp).2 c
      rw [e] at a; cases a
  · exact fun e => (h p hp).1 (w0_f.mpr e)
theorem cntF_c {s t : Nat → Int32} : ∀ n, (∀ p, p < n → s p = t p) → cntF s n = cntF t n
  | 0, _ => rfl
  | n + 1, h => by rw [cntF, cntF, cntF_c n (fun p hp => h p (by omega)), h n (by omega)]
theorem told_sw {x : Int32} (h0 : ¬ x = nI 0) (h1 : ¬ x = nI 1) (h2 : ¬ x = nI 2) (h3 : ¬ x = nI 3) (h4 : ¬ x = nI 4) : zswt 1 73 x = 73 := by
  show (if x.toInt < 0 ∨ 4 < x.toInt then 73 else _) = 73
  refine if_pos (Classical.byContradiction (fun g => ?_))
  have e : ∀ k : Nat, k < 5 → x.toInt = (k : Int) → x = nI k := fun k hk q => Int32.toInt_inj.mp (by rw [q, nI_toInt (by omega)])
  have : x.toInt = 0 ∨ x.toInt = 1 ∨ x.toInt = 2 ∨ x.toInt = 3 ∨ x.toInt = 4 := by omega
  rcases this with q | q | q | q | q
  · exact h0 (e 0 (by omega) q)
  · exact h1 (e 1 (by omega) q)
  · exact h2 (e 2 (by omega) q)
  · exact h3 (e 3 (by omega) q)
  · exact h4 (e 4 (by omega) q)
set_option maxHeartbeats 1000000 in
theorem k_X0_append {d : Nat} {h : zH} {p pb n m : Nat} {x x2 : Int32} {f : Nat → Int32} (h1 : h p = some (zO 0 [zR (some pb), zI (nI n)])) (h2 : h pb = some (zaI 0 m f)) (hn : n < m) (hm : m < 2 ^ 31) (hx : x.toInt8.toInt32 = x2) : zCall (d + 1) 8 [zR (some p), zI (x)] h 0 0 (fun h' o => o = .inl none ∧ h' p = some (zO 0 [zR (some pb), zI (nI (n + 1))]) ∧ h' pb = some (zaI 0 m (upd f n x2)) ∧ (∀ y, y ≠ p → y ≠ pb → h' y = h y)) := by
  refine zCall.of (d := d) (T := tb_8) (L := [some (zR (some p)), some (zI (x))]) (Nat.le_of_ble_eq_true rfl) rfl rfl ?_
  refine z_ald rfl rfl ?_
  refine z_get rfl h1 rfl ?_
  refine z_ald rfl rfl ?_
  refine z_get rfl h1 rfl ?_
  refine z_len (m := m) rfl (by rw [h2]; rfl) ?_
  refine z_cmpN (by omega) (by omega) rfl (fun h_1 => ?_) (fun h_1 => ?_)
  · replace h_1 : m ≤ n := h_1
    omega
  · replace h_1 := Nat.not_le.mp h_1
    refine z_ald rfl rfl ?_
    refine z_get rfl h1 rfl ?_
    refine z_ald rfl rfl ?_
    refine z_get rfl h1 rfl ?_
    refine z_ild rfl rfl ?_
    refine z_iast (x' := x2) rfl h2 (by omega) (by omega) hx ?_
    intro g_2 e_3 f_4
    have k_5 := (f_4 p (zne h1 h2 (by nofun))).trans h1
    refine z_ald rfl rfl ?_
    refine z_dup rfl rfl ?_
    refine z_get rfl k_5 rfl ?_
    refine z_ico (x := (nI 1)) rfl rfl ?_
    refine z_ibi (v := (nI (n + 1))) rfl (nI_add _ _) ?_
    refine z_put (e := zO 0 [zR (some pb), zI (nI (n + 1))]) rfl k_5 (Nat.le_of_ble_eq_true rfl) ⟨_, rfl⟩ rfl ?_
    intro g_6 e_7 f_8
    have k_9 := (f_8 pb (zne e_3 k_5 (by nofun))).trans e_3
    refine z_rtv rfl ?_
    exact ⟨rfl, e_7, k_9, fun y hy hz => (f_8 y hy).trans (f_4 y hz)⟩
set_option maxHeartbeats 1000000 in
theorem kl_cg {d : Nat} {Q : zQ} {h : zH} {p : Nat} {f : Nat → Int32} (h1 : h p = some (zaI 1 8 f)) (hQ : Q h (.inl (some (zI (nI (cntF f 8)))))) : ∀ k, k ≤ 8 → zEv d tb_94 0 0 Q 4 [some (zR (some p)), some (zI (nI (cntF f k))), some (zI (nI k))] [] h 0 0 := by
  refine dn 8 (fun k hk ih  => ?_)
  refine z_ild rfl rfl ?_
  refine z_ald rfl rfl ?_
  refine z_len (m := 8) rfl (by rw [h1]; rfl) ?_
  refine z_cmpN (by omega) (by omega) rfl (fun h_1 => ?_) (fun h_1 => ?_)
  · replace h_1 : 8 ≤ k := h_1
    refine z_ild rfl rfl ?_
    refine z_ret rfl ⟨_, rfl⟩ ?_
    have e : k = 8 := by omega
    subst e
    exact hQ
  · replace h_1 := Nat.not_le.mp h_1
    refine z_ald rfl rfl ?_
    refine z_ild rfl rfl ?_
    refine z_iald rfl h1 (by omega) (by omega) ?_
    refine z_ico (x := (-1)) rfl rfl ?_
    refine z_cmp rfl (fun h_2 => ?_) (fun h_2 => ?_)
    · replace h_2 : (f k) = (-1) := h_2
      refine z_inc (x' := (nI (k + 1))) (ls' := [some (zR (some p)), some (zI (nI (cntF f k))), some (zI (nI (k + 1)))]) rfl rfl (nI_1 _) rfl ?_
      refine z_go rfl ?_
      have h9 : cntF f (k + 1) = cntF f k := by rw [cntF, if_pos h_2, Nat.add_zero]
      rw [h9] at ih
      exact ih (by omega)
    · replace h_2 : ¬ ((f k) = (-1)) := h_2
      refine z_inc (x' := (nI (cntF f k + 1))) (ls' := [some (zR (some p)), some (zI (nI (cntF f k + 1))), some (zI (nI k))]) rfl rfl (nI_1 _) rfl ?_
      refine z_inc (x' := (nI (k + 1))) (ls' := [some (zR (some p)), some (zI (nI (cntF f k + 1))), some (zI (nI (k + 1)))]) rfl rfl (nI_1 _) rfl ?_
      refine z_go rfl ?_
      have h9 : cntF f (k + 1) = cntF f k + 1 := by rw [cntF, if_neg h_2]
      rw [h9] at ih
      exact ih (by omega)
set_option maxHeartbeats 1000000 in
theorem k_X9_countGiven {d : Nat} {h : zH} {p : Nat} {f : Nat → Int32} (h1 : h p = some (zaI 1 8 f)) : zPure (d + 1) 94 [zR (some p)] h (some (zI (nI (cntF f 8)))) := by
  refine zCall.of (d := d) (T := tb_94) (L := [some (zR (some p)), none, none]) (Nat.le_of_ble_eq_true rfl) rfl rfl ?_
  refine z_ico (x := (nI 0)) rfl rfl ?_
  refine z_ist (ls' := [some (zR (some p)), some (zI (nI 0)), none]) rfl (Nat.le_of_ble_eq_true rfl) rfl ?_
  refine z_ico (x := (nI 0)) rfl rfl ?_
  refine z_ist (ls' := [some (zR (some p)), some (zI (nI 0)), some (zI (nI 0))]) rfl (Nat.le_of_ble_eq_true rfl) rfl ?_
  exact kl_cg h1 ⟨rfl, rfl⟩ 0 (by omega)
set_option maxHeartbeats 1000000 in
theorem kl_cwn {d : Nat} {Q : zQ} {h : zH} {K : Nat → Nat} {g : zH} {r : rA} {fR : Nat → Option Nat} (hX : h (K 0) = some (zO 9 [zR (some (K 1)), zR (some (K 3)), zR (some (K 5)), zR (some (K 7)), zR (some (K 12)), zR (some (K 13)), zR (some (K 14))])) (hR1 : h (K 12) = some (zaR 5 8 fR)) (hrt : rtI g r fR) (hQ : Q h (.inl (some (zI (nI (cntB (r 20) 8)))))) : ∀ k, k ≤ 8 → zEv d tb_93 0 0 Q 4 [some (zR (some (K 0))), some (zI (nI (cntB (r 20) k))), some (zI (nI k))] [] h 0 0 := by
  refine dn 8 (fun k hk ih  => ?_)
  refine z_ild rfl rfl ?_
  refine z_ico (x := (nI 8)) rfl rfl ?_
  refine z_cmpN (by omega) (by omega) rfl (fun h_1 => ?_) (fun h_1 => ?_)
  · replace h_1 : 8 ≤ k := h_1
    refine z_ild rfl rfl ?_
    refine z_ret rfl ⟨_, rfl⟩ ?_
    have e : k = 8 := by omega
    subst e
    exact hQ
  · replace h_1 := Nat.not_le.mp h_1
    refine z_ald rfl rfl ?_
    refine z_get rfl hX rfl ?_
    refine z_ild rfl rfl ?_
    refine z_aald rfl hR1 (by omega) (by omega) ?_
    refine z_nl rfl (fun h_2 => ?_) (fun h_2 => ?_)
    · skip
      refine z_inc (x' := (nI (k + 1))) (ls' := [some (zR (some (K 0))), some (zI (nI (cntB (r 20) k))), some (zI (nI (k + 1)))]) rfl rfl (nI_1 _) rfl ?_
      refine z_go rfl ?_
      have h9 : cntB (r 20) (k + 1) = cntB (r 20) k := by rw [cntB, if_pos ((rt_w hrt (by omega)).mp h_2), Nat.add_zero]
      rw [h9] at ih
      exact ih (by omega)
    · skip
      refine z_inc (x' := (nI (cntB (r 20) k + 1))) (ls' := [some (zR (some (K 0))), some (zI (nI (cntB (r 20) k + 1))), some (zI (nI k))]) rfl rfl (nI_1 _) rfl ?_
      refine z_inc (x' := (nI (k + 1))) (ls' := [some (zR (some (K 0))), some (zI (nI (cntB (r 20) k + 1))), some (zI (nI (k + 1)))]) rfl rfl (nI_1 _) rfl ?_
      refine z_go rfl ?_
      have h9 : cntB (r 20) (k + 1) = cntB (r 20) k + 1 := by rw [cntB, if_neg (fun z => h_2 ((rt_w hrt (by omega)).mpr z))]
      rw [h9] at ih
      exact ih (by omega)
set_option maxHeartbeats 1000000 in
theorem k_X9_countWanted {d : Nat} {h : zH} {g : zH} {K A : Nat → Nat} {n v f : Nat} {r : rA} (st : stC h g K A n v f r) : zPure (d + 1) 93 [zR (some (K 0))] h (some (zI (nI (cntB (r 20) 8)))) := by
  have st0 := st
  obtain ⟨hx, ⟨tc, hT1, hT2, hn, htx, htf⟩, ⟨fc, hF1, hF2, hf6, hfc⟩, hr, ⟨Kf, O, C, T, fo, hS1, hS2, hS3, hS4, hS5, hsr, hcs⟩, ⟨fR, hR1, hrt⟩, ⟨fP, hP1, hpp⟩, ⟨fC, hC1, hcc⟩⟩ := st
  have hX := hx.2.2
  have hr0 := hr
  obtain ⟨hG1, ⟨fl, hG2, hfl⟩, hv, hrel, hg⟩ := hr
  refine zCall.of (d := d) (T := tb_93) (L := [some (zR (some (K 0))), none, none]) (Nat.le_of_ble_eq_true rfl) rfl rfl ?_
  refine z_ico (x := (nI 0)) rfl rfl ?_
  refine z_ist (ls' := [some (zR (some (K 0))), some (zI (nI 0)), none]) rfl (Nat.le_of_ble_eq_true rfl) rfl ?_
  refine z_ico (x := (nI 0)) rfl rfl ?_
  refine z_ist (ls' := [some (zR (some (K 0))), some (zI (nI 0)), some (zI (nI 0))]) rfl (Nat.le_of_ble_eq_true rfl) rfl ?_
  exact kl_cwn hX hR1 hrt ⟨rfl, rfl⟩ 0 (by omega)
set_option maxHeartbeats 1000000 in
theorem k_X9_chosen {d : Nat} {h : zH} {g : zH} {K A : Nat → Nat} {n v f : Nat} {r : rA} {p : Nat} (st : stC h g K A n v f r) (hp : p < 8) : zPure (d + 2) 80 [zR (some (K 0)), zI (nI p)] h (some (zI (r 22 p))) := by
  have st0 := st
  obtain ⟨hx, ⟨tc, hT1, hT2, hn, htx, htf⟩, ⟨fc, hF1, hF2, hf6, hfc⟩, hr, ⟨Kf, O, C, T, fo, hS1, hS2, hS3, hS4, hS5, hsr, hcs⟩, ⟨fR, hR1, hrt⟩, ⟨fP, hP1, hpp⟩, ⟨fC, hC1, hcc⟩⟩ := st
  have hX := hx.2.2
  have hr0 := hr
  obtain ⟨hG1, ⟨fl, hG2, hfl⟩, hv, hrel, hg⟩ := hr
  refine zCall.of (d := d + 1) (T := tb_80) (L := [some (zR (some (K 0))), some (zI (nI p))]) (Nat.le_of_ble_eq_true rfl) rfl rfl ?_
  refine z_ild rfl rfl ?_
  refine z_callF (as := [zI (nI p)]) (r := []) (v := some (zI (bI (isPk (nI p))))) rfl rfl rfl (Nat.le_of_ble_eq_true rfl) (by omega) (by omega) (rc1 rfl) k_X9_isPack ?_
  refine z_ifB1 rfl (fun b_1 => ?_) (fun b_1 => ?_)
  · refine z_ald rfl rfl ?_
    refine z_get rfl hX rfl ?_
    refine z_ild rfl rfl ?_
    refine z_iald rfl hC1 (by omega) (by omega) ?_
    refine z_top (v2 := zI (r 22 p)) (congrArg zI (hcc p hp)) ?_
    refine z_ret rfl ⟨_, rfl⟩ ?_
    exact ⟨rfl, rfl⟩
  · rw [isPk_n hp] at b_1; cases b_1
set_option maxHeartbeats 1000000 in
theorem k_chosenX {d : Nat} {h : zH} {g : zH} {K A : Nat → Nat} {n v f : Nat} {r : rA} {x : Int32} (st : stC h g K A n v f r) (hpx : isPk x = false) : zCall (d + 2) 80 [zR (some (K 0)), zI (x)] h 1 6 (fun h' o => h' = h ∧ o = .inr 2) := by
  have st0 := st
  obtain ⟨hx, ⟨tc, hT1, hT2, hn, htx, htf⟩, ⟨fc, hF1, hF2, hf6, hfc⟩, hr, ⟨Kf, O, C, T, fo, hS1, hS2, hS3, hS4, hS5, hsr, hcs⟩, ⟨fR, hR1, hrt⟩, ⟨fP, hP1, hpp⟩, ⟨fC, hC1, hcc⟩⟩ := st
  have hX := hx.2.2
  have hr0 := hr
  obtain ⟨hG1, ⟨fl, hG2, hfl⟩, hv, hrel, hg⟩ := hr
  refine zCall.of (d := d + 1) (T := tb_80) (L := [some (zR (some (K 0))), some (zI (x))]) (Nat.le_of_ble_eq_true rfl) rfl rfl ?_
  refine z_ild rfl rfl ?_
  refine z_callF (as := [zI (x)]) (r := []) (v := some (zI (bI (isPk (x))))) rfl rfl rfl (Nat.le_of_ble_eq_true rfl) (by omega) (by omega) (rc1 rfl) k_X9_isPack ?_
  refine z_ifB1 rfl (fun b_1 => ?_) (fun b_1 => ?_)
  · rw [hpx] at b_1; cases b_1
  · refine z_thr rfl (by omega) (by omega) (Nat.le_of_ble_eq_true rfl) ?_
    exact ⟨rfl, rfl⟩
set_option maxHeartbeats 1000000 in
theorem k_X9_compare {d : Nat} {h : zH} {g : zH} {K A : Nat → Nat} {n v f : Nat} {r : rA} {i j : Nat} (st : stC h g K A n v f r) (hi : i < v) (hj : j < v) : zPure (d + 4) 86 [zR (some (K 0)), zI (nI i), zI (nI j)] h (some (zI (ordV (rowV r i) (rowV r j)))) := by
  have st0 := st
  obtain ⟨hx, ⟨tc, hT1, hT2, hn, htx, htf⟩, ⟨fc, hF1, hF2, hf6, hfc⟩, hr, ⟨Kf, O, C, T, fo, hS1, hS2, hS3, hS4, hS5, hsr, hcs⟩, ⟨fR, hR1, hrt⟩, ⟨fP, hP1, hpp⟩, ⟨fC, hC1, hcc⟩⟩ := st
  have hX := hx.2.2
  have hr0 := hr
  obtain ⟨hG1, ⟨fl, hG2, hfl⟩, hv, hrel, hg⟩ := hr
  refine zCall.of (d := d + 3) (T := tb_86) (L := [some (zR (some (K 0))), some (zI (nI i)), some (zI (nI j)), none, none]) (Nat.le_of_ble_eq_true rfl) rfl rfl ?_
  refine z_ald rfl rfl ?_
  refine z_get rfl hX rfl ?_
  refine z_ild rfl rfl ?_
  refine z_callF (as := [zR (some (K 5)), zI (nI i)]) (r := []) (v := some (zR (some ((A i))))) rfl rfl rfl (Nat.le_of_ble_eq_true rfl) (by omega) (by omega) (rc0 rfl hG1) (k_X2_at hr0 hi) ?_
  obtain ⟨pv_i, pw_i, pr_i, pd_i, pk_i, m_i, y_i, c_i, _, ⟨e16_i, pk8_i⟩, e17_i, ⟨e14_i, m5_i⟩, ⟨tv_i, _, ⟨fd_i, cd_i, td_i⟩, ⟨fr_i, cr_i, tr_i⟩⟩⟩ := relI_h hg (hrel i hi)
  obtain ⟨fsv_i, cv_i⟩ := vr_cell tv_i
  refine z_ast (ls' := [some (zR (some (K 0))), some (zI (nI i)), some (zI (nI j)), some (zR (some ((A i)))), none]) rfl (Nat.le_of_ble_eq_true rfl) rfl ?_
  refine z_ald rfl rfl ?_
  refine z_get rfl hX rfl ?_
  refine z_ild rfl rfl ?_
  refine z_callF (as := [zR (some (K 5)), zI (nI j)]) (r := []) (v := some (zR (some ((A j))))) rfl rfl rfl (Nat.le_of_ble_eq_true rfl) (by omega) (by omega) (rc0 rfl hG1) (k_X2_at hr0 hj) ?_
  obtain ⟨pv_j, pw_j, pr_j, pd_j, pk_j, m_j, y_j, c_j, _, ⟨e16_j, pk8_j⟩, e17_j, ⟨e14_j, m5_j⟩, ⟨tv_j, _, ⟨fd_j, cd_j, td_j⟩, ⟨fr_j, cr_j, tr_j⟩⟩⟩ := relI_h hg (hrel j hj)
  obtain ⟨fsv_j, cv_j⟩ := vr_cell tv_j
  refine z_ast (ls' := [some (zR (some (K 0))), some (zI (nI i)), some (zI (nI j)), some (zR (some ((A i)))), some (zR (some ((A j))))]) rfl (Nat.le_of_ble_eq_true rfl) rfl ?_
  refine z_ald rfl rfl ?_
  refine z_nlP rfl ?_
  refine z_ald rfl rfl ?_
  refine z_nnP rfl ?_
  refine z_ald rfl rfl ?_
  refine z_get rfl c_i rfl ?_
  refine z_ald rfl rfl ?_
  refine z_get rfl c_j rfl ?_
  refine z_callF (as := [zR (some pv_i), zR (some pv_j)]) (r := []) (v := some (zI (ordV (rowV r i) (rowV r j)))) rfl rfl rfl (Nat.le_of_ble_eq_true rfl) (by omega) (by omega) (rc0 rfl cv_i) (k_X7_order tv_i tv_j) ?_
  refine z_ret rfl ⟨_, rfl⟩ ?_
  exact ⟨rfl, rfl⟩
set_option maxHeartbeats 1000000 in
theorem k_compareXY {d : Nat} {h : zH} {g : zH} {K A : Nat → Nat} {n v f : Nat} {r : rA} {x y : Int32} (st : stC h g K A n v f r) (hxx : ∀ i, i < v → ¬ x = nI i) (hyy : ∀ i, i < v → ¬ y = nI i) : zCall (d + 4) 86 [zR (some (K 0)), zI (x), zI (y)] h 1 6 (fun h' o => h' = h ∧ o = .inr 2) := by
  have st0 := st
  obtain ⟨hx, ⟨tc, hT1, hT2, hn, htx, htf⟩, ⟨fc, hF1, hF2, hf6, hfc⟩, hr, ⟨Kf, O, C, T, fo, hS1, hS2, hS3, hS4, hS5, hsr, hcs⟩, ⟨fR, hR1, hrt⟩, ⟨fP, hP1, hpp⟩, ⟨fC, hC1, hcc⟩⟩ := st
  have hX := hx.2.2
  have hr0 := hr
  obtain ⟨hG1, ⟨fl, hG2, hfl⟩, hv, hrel, hg⟩ := hr
  refine zCall.of (d := d + 3) (T := tb_86) (L := [some (zR (some (K 0))), some (zI (x)), some (zI (y)), none, none]) (Nat.le_of_ble_eq_true rfl) rfl rfl ?_
  refine z_ald rfl rfl ?_
  refine z_get rfl hX rfl ?_
  refine z_ild rfl rfl ?_
  refine z_callF (as := [zR (some (K 5)), zI (x)]) (r := []) (v := some (zR none)) rfl rfl rfl (Nat.le_of_ble_eq_true rfl) (by omega) (by omega) (rc0 rfl hG1) (k_atN hr0 hxx) ?_
  refine z_ast (ls' := [some (zR (some (K 0))), some (zI (x)), some (zI (y)), some (zR none), none]) rfl (Nat.le_of_ble_eq_true rfl) rfl ?_
  refine z_ald rfl rfl ?_
  refine z_get rfl hX rfl ?_
  refine z_ild rfl rfl ?_
  refine z_callF (as := [zR (some (K 5)), zI (y)]) (r := []) (v := some (zR none)) rfl rfl rfl (Nat.le_of_ble_eq_true rfl) (by omega) (by omega) (rc0 rfl hG1) (k_atN hr0 hyy) ?_
  refine z_ast (ls' := [some (zR (some (K 0))), some (zI (x)), some (zI (y)), some (zR none), some (zR none)]) rfl (Nat.le_of_ble_eq_true rfl) rfl ?_
  refine z_ald rfl rfl ?_
  refine z_nlZ rfl ?_
  refine z_thr rfl (by omega) (by omega) (Nat.le_of_ble_eq_true rfl) ?_
  exact ⟨rfl, rfl⟩
set_option maxHeartbeats 1000000 in
theorem k_compareX {d : Nat} {h : zH} {g : zH} {K A : Nat → Nat} {n v f : Nat} {r : rA} {x : Int32} {j : Nat} (st : stC h g K A n v f r) (hxx : ∀ i, i < v → ¬ x = nI i) (hj : j < v) : zCall (d + 4) 86 [zR (some (K 0)), zI (x), zI (nI j)] h 1 6 (fun h' o => h' = h ∧ o = .inr 2) := by
  have st0 := st
  obtain ⟨hx, ⟨tc, hT1, hT2, hn, htx, htf⟩, ⟨fc, hF1, hF2, hf6, hfc⟩, hr, ⟨Kf, O, C, T, fo, hS1, hS2, hS3, hS4, hS5, hsr, hcs⟩, ⟨fR, hR1, hrt⟩, ⟨fP, hP1, hpp⟩, ⟨fC, hC1, hcc⟩⟩ := st
  have hX := hx.2.2
  have hr0 := hr
  obtain ⟨hG1, ⟨fl, hG2, hfl⟩, hv, hrel, hg⟩ := hr
  refine zCall.of (d := d + 3) (T := tb_86) (L := [some (zR (some (K 0))), some (zI (x)), some (zI (nI j)), none, none]) (Nat.le_of_ble_eq_true rfl) rfl rfl ?_
  refine z_ald rfl rfl ?_
  refine z_get rfl hX rfl ?_
  refine z_ild rfl rfl ?_
  refine z_callF (as := [zR (some (K 5)), zI (x)]) (r := []) (v := some (zR none)) rfl rfl rfl (Nat.le_of_ble_eq_true rfl) (by omega) (by omega) (rc0 rfl hG1) (k_atN hr0 hxx) ?_
  refine z_ast (ls' := [some (zR (some (K 0))), some (zI (x)), some (zI (nI j)), some (zR none), none]) rfl (Nat.le_of_ble_eq_true rfl) rfl ?_
  refine z_ald rfl rfl ?_
  refine z_get rfl hX rfl ?_
  refine z_ild rfl rfl ?_
  refine z_callF (as := [zR (some (K 5)), zI (nI j)]) (r := []) (v := some (zR (some ((A j))))) rfl rfl rfl (Nat.le_of_ble_eq_true rfl) (by omega) (by omega) (rc0 rfl hG1) (k_X2_at hr0 hj) ?_
  obtain ⟨pv_j, pw_j, pr_j, pd_j, pk_j, m_j, y_j, c_j, _, ⟨e16_j, pk8_j⟩, e17_j, ⟨e14_j, m5_j⟩, ⟨tv_j, _, ⟨fd_j, cd_j, td_j⟩, ⟨fr_j, cr_j, tr_j⟩⟩⟩ := relI_h hg (hrel j hj)
  obtain ⟨fsv_j, cv_j⟩ := vr_cell tv_j
  refine z_ast (ls' := [some (zR (some (K 0))), some (zI (x)), some (zI (nI j)), some (zR none), some (zR (some ((A j))))]) rfl (Nat.le_of_ble_eq_true rfl) rfl ?_
  refine z_ald rfl rfl ?_
  refine z_nlZ rfl ?_
  refine z_thr rfl (by omega) (by omega) (Nat.le_of_ble_eq_true rfl) ?_
  exact ⟨rfl, rfl⟩
set_option maxHeartbeats 1000000 in
theorem k_compareY {d : Nat} {h : zH} {g : zH} {K A : Nat → Nat} {n v f : Nat} {r : rA} {i : Nat} {y : Int32} (st : stC h g K A n v f r) (hi : i < v) (hyy : ∀ i, i < v → ¬ y = nI i) : zCall (d + 4) 86 [zR (some (K 0)), zI (nI i), zI (y)] h 1 6 (fun h' o => h' = h ∧ o = .inr 2) := by
  have st0 := st
  obtain ⟨hx, ⟨tc, hT1, hT2, hn, htx, htf⟩, ⟨fc, hF1, hF2, hf6, hfc⟩, hr, ⟨Kf, O, C, T, fo, hS1, hS2, hS3, hS4, hS5, hsr, hcs⟩, ⟨fR, hR1, hrt⟩, ⟨fP, hP1, hpp⟩, ⟨fC, hC1, hcc⟩⟩ := st
  have hX := hx.2.2
  have hr0 := hr
  obtain ⟨hG1, ⟨fl, hG2, hfl⟩, hv, hrel, hg⟩ := hr
  refine zCall.of (d := d + 3) (T := tb_86) (L := [some (zR (some (K 0))), some (zI (nI i)), some (zI (y)), none, none]) (Nat.le_of_ble_eq_true rfl) rfl rfl ?_
  refine z_ald rfl rfl ?_
  refine z_get rfl hX rfl ?_
  refine z_ild rfl rfl ?_
  refine z_callF (as := [zR (some (K 5)), zI (nI i)]) (r := []) (v := some (zR (some ((A i))))) rfl rfl rfl (Nat.le_of_ble_eq_true rfl) (by omega) (by omega) (rc0 rfl hG1) (k_X2_at hr0 hi) ?_
  obtain ⟨pv_i, pw_i, pr_i, pd_i, pk_i, m_i, y_i, c_i, _, ⟨e16_i, pk8_i⟩, e17_i, ⟨e14_i, m5_i⟩, ⟨tv_i, _, ⟨fd_i, cd_i, td_i⟩, ⟨fr_i, cr_i, tr_i⟩⟩⟩ := relI_h hg (hrel i hi)
  obtain ⟨fsv_i, cv_i⟩ := vr_cell tv_i
  refine z_ast (ls' := [some (zR (some (K 0))), some (zI (nI i)), some (zI (y)), some (zR (some ((A i)))), none]) rfl (Nat.le_of_ble_eq_true rfl) rfl ?_
  refine z_ald rfl rfl ?_
  refine z_get rfl hX rfl ?_
  refine z_ild rfl rfl ?_
  refine z_callF (as := [zR (some (K 5)), zI (y)]) (r := []) (v := some (zR none)) rfl rfl rfl (Nat.le_of_ble_eq_true rfl) (by omega) (by omega) (rc0 rfl hG1) (k_atN hr0 hyy) ?_
  refine z_ast (ls' := [some (zR (some (K 0))), some (zI (nI i)), some (zI (y)), some (zR (some ((A i)))), some (zR none)]) rfl (Nat.le_of_ble_eq_true rfl) rfl ?_
  refine z_ald rfl rfl ?_
  refine z_nlP rfl ?_
  refine z_ald rfl rfl ?_
  refine z_nnZ rfl ?_
  refine z_thr rfl (by omega) (by omega) (Nat.le_of_ble_eq_true rfl) ?_
  exact ⟨rfl, rfl⟩
set_option maxHeartbeats 1000000 in
theorem k_X9_needs {d : Nat} {h : zH} {g : zH} {K A : Nat → Nat} {n v f : Nat} {r : rA} {i k : Nat} (st : stC h g K A n v f r) (hi : i < v) (hk : k < nM r i) : zPure (d + 2) 87 [zR (some (K 0)), zI (nI i), zI (nI k)] h (some (zI (r 13 (5 * i + k)))) := by
  have st0 := st
  obtain ⟨hx, ⟨tc, hT1, hT2, hn, htx, htf⟩, ⟨fc, hF1, hF2, hf6, hfc⟩, hr, ⟨Kf, O, C, T, fo, hS1, hS2, hS3, hS4, hS5, hsr, hcs⟩, ⟨fR, hR1, hrt⟩, ⟨fP, hP1, hpp⟩, ⟨fC, hC1, hcc⟩⟩ := st
  have hX := hx.2.2
  have hr0 := hr
  obtain ⟨hG1, ⟨fl, hG2, hfl⟩, hv, hrel, hg⟩ := hr
  refine zCall.of (d := d + 1) (T := tb_87) (L := [some (zR (some (K 0))), some (zI (nI i)), some (zI (nI k)), none]) (Nat.le_of_ble_eq_true rfl) rfl rfl ?_
  refine z_ald rfl rfl ?_
  refine z_get rfl hX rfl ?_
  refine z_ild rfl rfl ?_
  refine z_callF (as := [zR (some (K 5)), zI (nI i)]) (r := []) (v := some (zR (some ((A i))))) rfl rfl rfl (Nat.le_of_ble_eq_true rfl) (by omega) (by omega) (rc0 rfl hG1) (k_X2_at hr0 hi) ?_
  obtain ⟨pv_i, pw_i, pr_i, pd_i, pk_i, m_i, y_i, c_i, _, ⟨e16_i, pk8_i⟩, e17_i, ⟨e14_i, m5_i⟩, ⟨tv_i, _, ⟨fd_i, cd_i, td_i⟩, ⟨fr_i, cr_i, tr_i⟩⟩⟩ := relI_h hg (hrel i hi)
  obtain ⟨fsv_i, cv_i⟩ := vr_cell tv_i
  refine z_ast (ls' := [some (zR (some (K 0))), some (zI (nI i)), some (zI (nI k)), some (zR (some ((A i))))]) rfl (Nat.le_of_ble_eq_true rfl) rfl ?_
  refine z_ald rfl rfl ?_
  refine z_nnP rfl ?_
  refine z_ald rfl rfl ?_
  refine z_ild rfl rfl ?_
  refine z_callF (as := [zR (some ((A i))), zI (nI k)]) (r := []) (v := some (zI (r 13 (5 * i + k)))) rfl rfl rfl (Nat.le_of_ble_eq_true rfl) (by omega) (by omega) (rc0 rfl c_i) (k_need hg (hrel i hi) hk) ?_
  refine z_ret rfl ⟨_, rfl⟩ ?_
  exact ⟨rfl, rfl⟩
set_option maxHeartbeats 1000000 in
theorem k_needsN {d : Nat} {h : zH} {g : zH} {K A : Nat → Nat} {n v f : Nat} {r : rA} {i : Nat} {x : Int32} (st : stC h g K A n v f r) (hi : i < v) (hkx : ∀ k, k < nM r i → ¬ x = nI k) : zPure (d + 2) 87 [zR (some (K 0)), zI (nI i), zI (x)] h (some (zI (-1))) := by
  have st0 := st
  obtain ⟨hx, ⟨tc, hT1, hT2, hn, htx, htf⟩, ⟨fc, hF1, hF2, hf6, hfc⟩, hr, ⟨Kf, O, C, T, fo, hS1, hS2, hS3, hS4, hS5, hsr, hcs⟩, ⟨fR, hR1, hrt⟩, ⟨fP, hP1, hpp⟩, ⟨fC, hC1, hcc⟩⟩ := st
  have hX := hx.2.2
  have hr0 := hr
  obtain ⟨hG1, ⟨fl, hG2, hfl⟩, hv, hrel, hg⟩ := hr
  refine zCall.of (d := d + 1) (T := tb_87) (L := [some (zR (some (K 0))), some (zI (nI i)), some (zI (x)), none]) (Nat.le_of_ble_eq_true rfl) rfl rfl ?_
  refine z_ald rfl rfl ?_
  refine z_get rfl hX rfl ?_
  refine z_ild rfl rfl ?_
  refine z_callF (as := [zR (some (K 5)), zI (nI i)]) (r := []) (v := some (zR (some ((A i))))) rfl rfl rfl (Nat.le_of_ble_eq_true rfl) (by omega) (by omega) (rc0 rfl hG1) (k_X2_at hr0 hi) ?_
  obtain ⟨pv_i, pw_i, pr_i, pd_i, pk_i, m_i, y_i, c_i, _, ⟨e16_i, pk8_i⟩, e17_i, ⟨e14_i, m5_i⟩, ⟨tv_i, _, ⟨fd_i, cd_i, td_i⟩, ⟨fr_i, cr_i, tr_i⟩⟩⟩ := relI_h hg (hrel i hi)
  obtain ⟨fsv_i, cv_i⟩ := vr_cell tv_i
  refine z_ast (ls' := [some (zR (some (K 0))), some (zI (nI i)), some (zI (x)), some (zR (some ((A i))))]) rfl (Nat.le_of_ble_eq_true rfl) rfl ?_
  refine z_ald rfl rfl ?_
  refine z_nnP rfl ?_
  refine z_ald rfl rfl ?_
  refine z_ild rfl rfl ?_
  refine z_callF (as := [zR (some ((A i))), zI (x)]) (r := []) (v := some (zI (-1))) rfl rfl rfl (Nat.le_of_ble_eq_true rfl) (by omega) (by omega) (rc0 rfl c_i) (k_needN hg (hrel i hi) hkx) ?_
  refine z_ret rfl ⟨_, rfl⟩ ?_
  exact ⟨rfl, rfl⟩
set_option maxHeartbeats 1000000 in
theorem k_needsX {d : Nat} {h : zH} {g : zH} {K A : Nat → Nat} {n v f : Nat} {r : rA} {x y : Int32} (st : stC h g K A n v f r) (hxx : ∀ i, i < v → ¬ x = nI i) : zCall (d + 2) 87 [zR (some (K 0)), zI (x), zI (y)] h 1 6 (fun h' o => h' = h ∧ o = .inr 2) := by
  have st0 := st
  obtain ⟨hx, ⟨tc, hT1, hT2, hn, htx, htf⟩, ⟨fc, hF1, hF2, hf6, hfc⟩, hr, ⟨Kf, O, C, T, fo, hS1, hS2, hS3, hS4, hS5, hsr, hcs⟩, ⟨fR, hR1, hrt⟩, ⟨fP, hP1, hpp⟩, ⟨fC, hC1, hcc⟩⟩ := st
  have hX := hx.2.2
  have hr0 := hr
  obtain ⟨hG1, ⟨fl, hG2, hfl⟩, hv, hrel, hg⟩ := hr
  refine zCall.of (d := d + 1) (T := tb_87) (L := [some (zR (some (K 0))), some (zI (x)), some (zI (y)), none]) (Nat.le_of_ble_eq_true rfl) rfl rfl ?_
  refine z_ald rfl rfl ?_
  refine z_get rfl hX rfl ?_
  refine z_ild rfl rfl ?_
  refine z_callF (as := [zR (some (K 5)), zI (x)]) (r := []) (v := some (zR none)) rfl rfl rfl (Nat.le_of_ble_eq_true rfl) (by omega) (by omega) (rc0 rfl hG1) (k_atN hr0 hxx) ?_
  refine z_ast (ls' := [some (zR (some (K 0))), some (zI (x)), some (zI (y)), some (zR none)]) rfl (Nat.le_of_ble_eq_true rfl) rfl ?_
  refine z_ald rfl rfl ?_
  refine z_nnZ rfl ?_
  refine z_thr rfl (by omega) (by omega) (Nat.le_of_ble_eq_true rfl) ?_
  exact ⟨rfl, rfl⟩
set_option maxHeartbeats 1000000 in
theorem k_X9_fileByte {d : Nat} {h : zH} {g : zH} {K A : Nat → Nat} {n v f : Nat} {r : rA} {i : Nat} (st : stC h g K A n v f r) (hi : i < f) : zPure (d + 1) 90 [zR (some (K 0)), zI (nI i)] h (some (zI (r 24 i))) := by
  have st0 := st
  obtain ⟨hx, ⟨tc, hT1, hT2, hn, htx, htf⟩, ⟨fc, hF1, hF2, hf6, hfc⟩, hr, ⟨Kf, O, C, T, fo, hS1, hS2, hS3, hS4, hS5, hsr, hcs⟩, ⟨fR, hR1, hrt⟩, ⟨fP, hP1, hpp⟩, ⟨fC, hC1, hcc⟩⟩ := st
  have hX := hx.2.2
  have hr0 := hr
  obtain ⟨hG1, ⟨fl, hG2, hfl⟩, hv, hrel, hg⟩ := hr
  refine zCall.of (d := d) (T := tb_90) (L := [some (zR (some (K 0))), some (zI (nI i))]) (Nat.le_of_ble_eq_true rfl) rfl rfl ?_
  refine z_ild rfl rfl ?_
  refine z_ifN (by omega) rfl (fun h_1 => ?_) (fun h_1 => ?_)
  · replace h_1 : i < 0 := h_1
    omega
  · replace h_1 := Nat.not_lt.mp h_1
    refine z_ild rfl rfl ?_
    refine z_ald rfl rfl ?_
    refine z_get rfl hX rfl ?_
    refine z_get rfl hF1 rfl ?_
    refine z_cmpN (by omega) (by omega) rfl (fun h_2 => ?_) (fun h_2 => ?_)
    · replace h_2 : i < f := h_2
      refine z_ald rfl rfl ?_
      refine z_get rfl hX rfl ?_
      refine z_get rfl hF1 rfl ?_
      refine z_ild rfl rfl ?_
      refine z_iald rfl hF2 (by omega) (by omega) ?_
      refine z_top (v2 := zI (r 24 i)) (congrArg zI (hfc i hi)) ?_
      refine z_ret rfl ⟨_, rfl⟩ ?_
      exact ⟨rfl, rfl⟩
    · replace h_2 := Nat.not_lt.mp h_2
      omega
set_option maxHeartbeats 1000000 in
theorem k_fileByteX {d : Nat} {h : zH} {g : zH} {K A : Nat → Nat} {n v f : Nat} {r : rA} {x : Int32} (st : stC h g K A n v f r) (hxx : ∀ i, i < f → ¬ x = nI i) : zCall (d + 1) 90 [zR (some (K 0)), zI (x)] h 1 6 (fun h' o => h' = h ∧ o = .inr 2) := by
  have st0 := st
  obtain ⟨hx, ⟨tc, hT1, hT2, hn, htx, htf⟩, ⟨fc, hF1, hF2, hf6, hfc⟩, hr, ⟨Kf, O, C, T, fo, hS1, hS2, hS3, hS4, hS5, hsr, hcs⟩, ⟨fR, hR1, hrt⟩, ⟨fP, hP1, hpp⟩, ⟨fC, hC1, hcc⟩⟩ := st
  have hX := hx.2.2
  have hr0 := hr
  obtain ⟨hG1, ⟨fl, hG2, hfl⟩, hv, hrel, hg⟩ := hr
  refine zCall.of (d := d) (T := tb_90) (L := [some (zR (some (K 0))), some (zI (x))]) (Nat.le_of_ble_eq_true rfl) rfl rfl ?_
  refine z_ild rfl rfl ?_
  refine z_if rfl (fun h_1 => ?_) (fun h_1 => ?_)
  · replace h_1 : (x) < 0 := h_1
    refine z_thr rfl (by omega) (by omega) (Nat.le_of_ble_eq_true rfl) ?_
    exact ⟨rfl, rfl⟩
  · replace h_1 : ¬ ((x) < 0) := h_1
    refine z_ild rfl rfl ?_
    refine z_ald rfl rfl ?_
    refine z_get rfl hX rfl ?_
    refine z_get rfl hF1 rfl ?_
    refine z_cmp rfl (fun h_2 => ?_) (fun h_2 => ?_)
    · replace h_2 : (x) < (nI f) := h_2
      exact absurd (in_of (v := f) (by omega) h_1 (i_nle.mpr h_2)) (fun z => by obtain ⟨i, a, b⟩ := z; exact hxx i a b)
    · replace h_2 : ¬ ((x) < (nI f)) := h_2
      refine z_thr rfl (by omega) (by omega) (Nat.le_of_ble_eq_true rfl) ?_
      exact ⟨rfl, rfl⟩
set_option maxHeartbeats 1000000 in
theorem k_told0 {d : Nat} {h : zH} {g : zH} {K A : Nat → Nat} {n v f : Nat} {r : rA} (st : stC h g K A n v f r) : zPure (d + 2) 88 [zR (some (K 0)), zI (nI 0)] h (some (zI (nI v))) := by
  have st0 := st
  obtain ⟨hx, ⟨tc, hT1, hT2, hn, htx, htf⟩, ⟨fc, hF1, hF2, hf6, hfc⟩, hr, ⟨Kf, O, C, T, fo, hS1, hS2, hS3, hS4, hS5, hsr, hcs⟩, ⟨fR, hR1, hrt⟩, ⟨fP, hP1, hpp⟩, ⟨fC, hC1, hcc⟩⟩ := st
  have hX := hx.2.2
  have hr0 := hr
  obtain ⟨hG1, ⟨fl, hG2, hfl⟩, hv, hrel, hg⟩ := hr
  refine zCall.of (d := d + 1) (T := tb_88) (L := [some (zR (some (K 0))), some (zI (nI 0))]) (Nat.le_of_ble_eq_true rfl) rfl rfl ?_
  refine z_ild rfl rfl ?_
  skip
  · refine z_sw (t := 36) rfl (by decide +kernel) ?_
    refine z_ald rfl rfl ?_
    refine z_get rfl hX rfl ?_
    refine z_get rfl hG1 rfl ?_
    refine z_ret rfl ⟨_, rfl⟩ ?_
    exact ⟨rfl, rfl⟩
set_option maxHeartbeats 1000000 in
theorem k_told1 {d : Nat} {h : zH} {g : zH} {K A : Nat → Nat} {n v f : Nat} {r : rA} (st : stC h g K A n v f r) : zPure (d + 2) 88 [zR (some (K 0)), zI (nI 1)] h (some (zI (nI (ykN r v)))) := by
  have st0 := st
  obtain ⟨hx, ⟨tc, hT1, hT2, hn, htx, htf⟩, ⟨fc, hF1, hF2, hf6, hfc⟩, hr, ⟨Kf, O, C, T, fo, hS1, hS2, hS3, hS4, hS5, hsr, hcs⟩, ⟨fR, hR1, hrt⟩, ⟨fP, hP1, hpp⟩, ⟨fC, hC1, hcc⟩⟩ := st
  have hX := hx.2.2
  have hr0 := hr
  obtain ⟨hG1, ⟨fl, hG2, hfl⟩, hv, hrel, hg⟩ := hr
  refine zCall.of (d := d + 1) (T := tb_88) (L := [some (zR (some (K 0))), some (zI (nI 1))]) (Nat.le_of_ble_eq_true rfl) rfl rfl ?_
  refine z_ild rfl rfl ?_
  skip
  · refine z_sw (t := 44) rfl (by decide +kernel) ?_
    refine z_ald rfl rfl ?_
    refine z_get rfl hX rfl ?_
    refine z_callF (as := [zR (some (K 5))]) (r := []) (v := some (zI (nI (ykN r v)))) rfl rfl rfl (Nat.le_of_ble_eq_true rfl) (by omega) (by omega) (rc0 rfl hG1) (k_X2_countYanked hr0) ?_
    refine z_ret rfl ⟨_, rfl⟩ ?_
    exact ⟨rfl, rfl⟩
set_option maxHeartbeats 1000000 in
theorem k_told2 {d : Nat} {h : zH} {g : zH} {K A : Nat → Nat} {n v f : Nat} {r : rA} (st : stC h g K A n v f r) : zPure (d + 2) 88 [zR (some (K 0)), zI (nI 2)] h (some (zI (nI (cntB (r 20) 8)))) := by
  have st0 := st
  obtain ⟨hx, ⟨tc, hT1, hT2, hn, htx, htf⟩, ⟨fc, hF1, hF2, hf6, hfc⟩, hr, ⟨Kf, O, C, T, fo, hS1, hS2, hS3, hS4, hS5, hsr, hcs⟩, ⟨fR, hR1, hrt⟩, ⟨fP, hP1, hpp⟩, ⟨fC, hC1, hcc⟩⟩ := st
  have hX := hx.2.2
  have hr0 := hr
  obtain ⟨hG1, ⟨fl, hG2, hfl⟩, hv, hrel, hg⟩ := hr
  refine zCall.of (d := d + 1) (T := tb_88) (L := [some (zR (some (K 0))), some (zI (nI 2))]) (Nat.le_of_ble_eq_true rfl) rfl rfl ?_
  refine z_ild rfl rfl ?_
  skip
  · refine z_sw (t := 52) rfl (by decide +kernel) ?_
    refine z_ald rfl rfl ?_
    refine z_callF (as := [zR (some (K 0))]) (r := []) (v := some (zI (nI (cntB (r 20) 8)))) rfl rfl rfl (Nat.le_of_ble_eq_true rfl) (by omega) (by omega) (rc0 rfl hX) (k_X9_countWanted st0) ?_
    refine z_ret rfl ⟨_, rfl⟩ ?_
    exact ⟨rfl, rfl⟩
set_option maxHeartbeats 1000000 in
theorem k_told3 {d : Nat} {h : zH} {g : zH} {K A : Nat → Nat} {n v f : Nat} {r : rA} (st : stC h g K A n v f r) : zPure (d + 2) 88 [zR (some (K 0)), zI (nI 3)] h (some (zI (nI (cntF (r 21) 8)))) := by
  have st0 := st
  obtain ⟨hx, ⟨tc, hT1, hT2, hn, htx, htf⟩, ⟨fc, hF1, hF2, hf6, hfc⟩, hr, ⟨Kf, O, C, T, fo, hS1, hS2, hS3, hS4, hS5, hsr, hcs⟩, ⟨fR, hR1, hrt⟩, ⟨fP, hP1, hpp⟩, ⟨fC, hC1, hcc⟩⟩ := st
  have hX := hx.2.2
  have hr0 := hr
  obtain ⟨hG1, ⟨fl, hG2, hfl⟩, hv, hrel, hg⟩ := hr
  refine zCall.of (d := d + 1) (T := tb_88) (L := [some (zR (some (K 0))), some (zI (nI 3))]) (Nat.le_of_ble_eq_true rfl) rfl rfl ?_
  refine z_ild rfl rfl ?_
  skip
  · refine z_sw (t := 57) rfl (by decide +kernel) ?_
    refine z_ald rfl rfl ?_
    refine z_get rfl hX rfl ?_
    refine z_callF (as := [zR (some (K 13))]) (r := []) (v := some (zI (nI (cntF fP 8)))) rfl rfl rfl (Nat.le_of_ble_eq_true rfl) (by omega) (by omega) (rc1 rfl) (k_X9_countGiven hP1) ?_
    refine z_ret rfl ⟨_, rfl⟩ ?_
    exact ⟨rfl, by rw [cntF_c 8 hpp]⟩
set_option maxHeartbeats 1000000 in
theorem k_told4 {d : Nat} {h : zH} {g : zH} {K A : Nat → Nat} {n v f : Nat} {r : rA} (st : stC h g K A n v f r) : zPure (d + 2) 88 [zR (some (K 0)), zI (nI 4)] h (some (zI (nI n))) := by
  have st0 := st
  obtain ⟨hx, ⟨tc, hT1, hT2, hn, htx, htf⟩, ⟨fc, hF1, hF2, hf6, hfc⟩, hr, ⟨Kf, O, C, T, fo, hS1, hS2, hS3, hS4, hS5, hsr, hcs⟩, ⟨fR, hR1, hrt⟩, ⟨fP, hP1, hpp⟩, ⟨fC, hC1, hcc⟩⟩ := st
  have hX := hx.2.2
  have hr0 := hr
  obtain ⟨hG1, ⟨fl, hG2, hfl⟩, hv, hrel, hg⟩ := hr
  refine zCall.of (d := d + 1) (T := tb_88) (L := [some (zR (some (K 0))), some (zI (nI 4))]) (Nat.le_of_ble_eq_true rfl) rfl rfl ?_
  refine z_ild rfl rfl ?_
  skip
  · refine z_sw (t := 65) rfl (by decide +kernel) ?_
    refine z_ald rfl rfl ?_
    refine z_get rfl hX rfl ?_
    refine z_get rfl hT1 rfl ?_
    refine z_ret rfl ⟨_, rfl⟩ ?_
    exact ⟨rfl, rfl⟩
set_option maxHeartbeats 1000000 in
theorem k_toldX {d : Nat} {h : zH} {g : zH} {K A : Nat → Nat} {n v f : Nat} {r : rA} {x : Int32} (st : stC h g K A n v f r) (h0 : ¬ x = nI 0) (h1 : ¬ x = nI 1) (h2 : ¬ x = nI 2) (h3 : ¬ x = nI 3) (h4 : ¬ x = nI 4) : zPure (d + 2) 88 [zR (some (K 0)), zI (x)] h (some (zI (-1))) := by
  have st0 := st
  obtain ⟨hx, ⟨tc, hT1, hT2, hn, htx, htf⟩, ⟨fc, hF1, hF2, hf6, hfc⟩, hr, ⟨Kf, O, C, T, fo, hS1, hS2, hS3, hS4, hS5, hsr, hcs⟩, ⟨fR, hR1, hrt⟩, ⟨fP, hP1, hpp⟩, ⟨fC, hC1, hcc⟩⟩ := st
  have hX := hx.2.2
  have hr0 := hr
  obtain ⟨hG1, ⟨fl, hG2, hfl⟩, hv, hrel, hg⟩ := hr
  refine zCall.of (d := d + 1) (T := tb_88) (L := [some (zR (some (K 0))), some (zI (x))]) (Nat.le_of_ble_eq_true rfl) rfl rfl ?_
  refine z_ild rfl rfl ?_
  skip
  · refine z_sw (t := 73) rfl (told_sw h0 h1 h2 h3 h4) ?_
    refine z_ico (x := (-1)) rfl rfl ?_
    refine z_ret rfl ⟨_, rfl⟩ ?_
    exact ⟨rfl, rfl⟩
