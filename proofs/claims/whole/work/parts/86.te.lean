theorem qR_n {r r' : rA} (h : ∀ j, 5 ≤ j ∧ j ≤ 12 → r' j = r j) (y : Nat) : qR r' y = qR r y := by
  have e : ∀ row, spR r' row = spR r row := fun row => by
    have e1 : rowV r' row = rowV r row := by
      unfold rowV rw9
      rw [h 5 (by omega), h 6 (by omega), h 7 (by omega), h 8 (by omega), h 9 (by omega)]
    unfold spR
    rw [e1, h 11 (by omega), h 10 (by omega)]
  unfold qR
  rw [h 12 (by omega)]
  simp only [e]
theorem fil_lt {r : rA} {k0 k i : Nat} {g : Nat → Int32} (h : i < k) : rfil r k0 g k k0 i = g i := by simp [rfil, h]
theorem rset_at (r : rA) (k i : Nat) (x : Int32) : rset r k i x k i = x := by rw [rset_s]; simp [upd]
theorem rset_ne (r : rA) (k : Nat) {i j : Nat} (x : Int32) (h : j ≠ i) : rset r k i x k j = r k j := by rw [rset_s]; simp [upd, h]
theorem upd_at (f : Nat → Int32) (i : Nat) (x : Int32) : upd f i x i = x := by simp [upd]
theorem upd_ne (f : Nat → Int32) {i j : Nat} (x : Int32) (h : j ≠ i) : upd f i x j = f j := by simp [upd, h]
theorem stA {h h' g : zH} {K A : Nat → Nat} {n v f : Nat} {r : rA} {i pv pw pr pd pk m : Nat} {y on : Bool} (st : stC h g K A n v f r) (hI : rVs r v) (hi : i < v) (hA : ∀ j, j < v → A j = A i → j = i) (c : h (A i) = some (rlO pk pv pw pr pd m y)) (fr : ∀ y, y ≠ A i → h' y = h y) (c' : h' (A i) = some (rlO pk pv pw pr pd m on)) : poC h g K A v h' n v f (rset r 17 i (bI on)) := by
  have st0 := st
  have hv := hI.1.1
  have eK : ∀ k, k < 15 → h' (K k) = h (K k) := fun k hk => fr _ (stC_KA st0 hk hi)
  obtain ⟨a, b, cc, d, s, x, yy, z⟩ := st
  have l : hle g h' := le_fr (S := fun y => y = A i) d.2.2.2.2 (fun y hy => fr y hy) (fun y q => by rw [show y = A i from q]; exact stC_gA st0 hi)
  have hr : ∀ j, ¬ j = 17 → rset r 17 i (bI on) j = r j := fun j hj => rset_n _ _ _ hj
  have sm : rSm v (fun y => 8 ≤ y ∧ y < 208) r (rset r 17 i (bI on)) := rSm_of (fun j hj => hr j (by omega))
  have rg : rgI h' g (rset r 17 i (bI on)) v (K 5) (K 6) A := by
    obtain ⟨d1, ⟨fl, d2, d3⟩, d4, d5, d6⟩ := d
    refine ⟨(eK 5 (by omega)).trans d1, ⟨fl, (eK 6 (by omega)).trans d2, d3⟩, d4, fun j hj => ?_, l⟩
    obtain ⟨pv', pw', pr', pd', pk', m', y', k1, k2, ⟨k3, k4⟩, k5, ⟨k6, k7⟩, k8⟩ := d5 j hj
    have kb := sm_relB sm hj (hI.1.2.1 j hj) k7 (fun k hk => ⟨by omega, by omega⟩) (fun y hy => hI.2.1.1 y hy.2) k8
    by_cases e : j = i
    · subst e
      have e9 : some (rlO pk pv pw pr pd m on) = some (rlO pk' pv' pw' pr' pd' m' on) := congrArg (fun e : Option zE => match e with
        | some (.inr (.inr (.inr (ci, fs)))) => some (zO ci (fs.set 6 (zI (bI on))))
        | x => x) (c.symm.trans k1)
      refine ⟨pv', pw', pr', pd', pk', m', on, c'.trans e9, k2, ⟨?_, k4⟩, rset_at _ _ _ _, ⟨?_, k7⟩, kb⟩
      · rw [hr 16 (by omega)]; exact k3
      · rw [hr 14 (by omega)]; exact k6
    · refine ⟨pv', pw', pr', pd', pk', m', y', (fr _ (fun q => e (hA j hj q))).trans k1, k2, ⟨?_, k4⟩, ?_, ⟨?_, k7⟩, kb⟩
      · rw [hr 16 (by omega)]; exact k3
      · rw [rset_ne _ _ _ e]; exact k5
      · rw [hr 14 (by omega)]; exact k6
  have new : stC h' g K A n v f (rset r 17 i (bI on)) := ⟨cX_fr a a.1 (eK 0 (by omega)), cT_r (cT_fr b (eK 1 (by omega)) (eK 2 (by omega))) (hr 2 (by omega)), cF_r (cF_fr cc (eK 3 (by omega)) (eK 4 (by omega))) (fun j _ => by rw [hr 24 (by omega)]), rg, cS_r (cS_fr s (eK 7 (by omega)) (eK 8 (by omega)) (eK 9 (by omega)) (eK 10 (by omega)) (eK 11 (by omega))) sm hI.1 hI.2.1.1, cR_r (cR_fr x (hle_refl g) (eK 12 (by omega))) (fun y _ _ => (rSm_of (V := 0) (Y := fun _ => True) (fun j hj => hr j (by omega))).2 y trivial) hI.2.1.1 (fun p _ => by rw [hr 20 (by omega)]), cP_r (cP_fr yy (eK 13 (by omega))) (fun p _ => by rw [hr 21 (by omega)]), cC_r (cC_fr z (eK 14 (by omega))) (fun p _ => by rw [hr 22 (by omega)])⟩
  refine po_in (fun y => y = A i) st0 (fun y hy => fr y hy) (fun y q => ?_) new
  rw [show y = A i from q]
  exact ⟨Or.inr ⟨i, hi, rfl⟩, some_nn c'⟩
set_option maxHeartbeats 1000000 in
theorem k_X9_lock {d : Nat} {h : zH} {g : zH} {K A : Nat → Nat} {n v f : Nat} {r : rA} (st : stC h g K A n v f r) (hI : rVs r v) : zCall (d + 2) 81 [zR (some (K 0))] h 0 0 (fun h' o => o = .inl (some (zI (nI (cntF (r 22) 8)))) ∧ poC h g K A v h' n v f (rfil r 21 (r 22) 8)) := by
  have st0 := st
  obtain ⟨hx, ⟨tc, hT1, hT2, hn, htx, htf⟩, ⟨fc, hF1, hF2, hf6, hfc⟩, hr, ⟨Kf, O, C, T, fo, hS1, hS2, hS3, hS4, hS5, hsr, hcs⟩, ⟨fR, hR1, hrt⟩, ⟨fP, hP1, hpp⟩, ⟨fC, hC1, hcc⟩⟩ := st
  have hX := hx.2.2
  have hr0 := hr
  obtain ⟨hG1, ⟨fl, hG2, hfl⟩, hv, hrel, hg⟩ := hr
  refine zCall.of (d := d + 1) (T := tb_81) (L := [some (zR (some (K 0)))]) (Nat.le_of_ble_eq_true rfl) rfl rfl ?_
  refine z_ald rfl rfl ?_
  refine z_get rfl hX rfl ?_
  refine z_ico (x := (nI 0)) rfl rfl ?_
  refine z_ald rfl rfl ?_
  refine z_get rfl hX rfl ?_
  refine z_ico (x := (nI 0)) rfl rfl ?_
  refine z_ico (x := (nI 8)) rfl rfl ?_
  refine z_acp (i1 := 0) (i2 := 0) (N := 8) rfl (Nat.le_of_ble_eq_true rfl) (fun i hi => rfl) hC1 hP1 (by omega) (by omega) (by omega) (by omega) ?_
  intro g_1 e_2 f_3
  have k_4 := (f_3 (K 0) (Kne hx (i := 0) (j := 13) (by omega) (by omega) (by omega))).trans hX
  have k_5 := (f_3 (K 14) (Ne.symm (Kne hx (i := 13) (j := 14) (by omega) (by omega) (by omega)))).trans hC1
  refine z_ald rfl rfl ?_
  refine z_get rfl k_4 rfl ?_
  refine z_callF (as := [zR (some (K 13))]) (r := []) (v := some (zI (nI (cntF (va_cpy fC fP 0 0 8) 8)))) rfl rfl rfl (Nat.le_of_ble_eq_true rfl) (by omega) (by omega) (rc1 rfl) (k_X9_countGiven e_2) ?_
  refine z_ret rfl ⟨_, rfl⟩ ?_
  have e9 : ∀ p, p < 8 → va_cpy fC fP 0 0 8 p = r 22 p := fun p hp => by
    rw [← hcc p hp]
    simp [va_cpy, hp]
  refine ⟨by rw [cntF_c 8 e9], st_P st0 hI (fun y hy => f_3 y hy) (fun j hj => rfil_n hj) ⟨_, e_2, fun p hp => ?_⟩⟩
  rw [fil_lt hp]
  exact e9 p hp
set_option maxHeartbeats 1000000 in
theorem k_X9_unlock {d : Nat} {h : zH} {g : zH} {K A : Nat → Nat} {n v f : Nat} {r : rA} (st : stC h g K A n v f r) (hI : rVs r v) : zCall (d + 2) 83 [zR (some (K 0))] h 0 0 (fun h' o => o = .inl (some (zI (nI (cntF (r 21) 8)))) ∧ poC h g K A v h' n v f (rfil r 21 (fun _ => -1) 8)) := by
  have st0 := st
  obtain ⟨hx, ⟨tc, hT1, hT2, hn, htx, htf⟩, ⟨fc, hF1, hF2, hf6, hfc⟩, hr, ⟨Kf, O, C, T, fo, hS1, hS2, hS3, hS4, hS5, hsr, hcs⟩, ⟨fR, hR1, hrt⟩, ⟨fP, hP1, hpp⟩, ⟨fC, hC1, hcc⟩⟩ := st
  have hX := hx.2.2
  have hr0 := hr
  obtain ⟨hG1, ⟨fl, hG2, hfl⟩, hv, hrel, hg⟩ := hr
  refine zCall.of (d := d + 1) (T := tb_83) (L := [some (zR (some (K 0))), none]) (Nat.le_of_ble_eq_true rfl) rfl rfl ?_
  refine z_ald rfl rfl ?_
  refine z_get rfl hX rfl ?_
  refine z_callF (as := [zR (some (K 13))]) (r := []) (v := some (zI (nI (cntF fP 8)))) rfl rfl rfl (Nat.le_of_ble_eq_true rfl) (by omega) (by omega) (rc1 rfl) (k_X9_countGiven hP1) ?_
  refine z_ist (ls' := [some (zR (some (K 0))), some (zI (nI (cntF fP 8)))]) rfl (Nat.le_of_ble_eq_true rfl) rfl ?_
  refine z_ald rfl rfl ?_
  refine z_get rfl hX rfl ?_
  refine z_ico (x := (-1)) rfl rfl ?_
  refine z_call (as := [zR (some (K 13)), zI (-1)]) (r := []) (mc' := 0) (ms' := 0) rfl rfl rfl (Nat.le_of_ble_eq_true rfl) (by omega) (by omega) (rc1 rfl) (k_J7_fill_53178 (by omega) hP1) (by rintro _ _ ⟨e, _⟩; cases e) ?_
  rintro g_1 _ ⟨e9, e_2, f_3⟩; cases e9
  · skip
    have k_4 := (f_3 (K 0) (Kne hx (i := 0) (j := 13) (by omega) (by omega) (by omega))).trans hX
    refine z_ild rfl rfl ?_
    refine z_ret rfl ⟨_, rfl⟩ ?_
    refine ⟨by rw [cntF_c 8 hpp], st_P st0 hI (fun y hy => f_3 y hy) (fun j hj => rfil_n hj) ⟨_, e_2, fun p hp => ?_⟩⟩
    rw [fil_lt hp]
    exact if_pos hp
set_option maxHeartbeats 1000000 in
theorem k_X9_pin {d : Nat} {h : zH} {g : zH} {K A : Nat → Nat} {n v f : Nat} {r : rA} {i : Nat} (st : stC h g K A n v f r) (hI : rVs r v) (hi : i < v) : zCall (d + 2) 82 [zR (some (K 0)), zI (nI i)] h 0 0 (fun h' o => o = .inl (some (zI (r 21 (pkN r i)))) ∧ poC h g K A v h' n v f (rset r 21 (pkN r i) (nI i))) := by
  have st0 := st
  obtain ⟨hx, ⟨tc, hT1, hT2, hn, htx, htf⟩, ⟨fc, hF1, hF2, hf6, hfc⟩, hr, ⟨Kf, O, C, T, fo, hS1, hS2, hS3, hS4, hS5, hsr, hcs⟩, ⟨fR, hR1, hrt⟩, ⟨fP, hP1, hpp⟩, ⟨fC, hC1, hcc⟩⟩ := st
  have hX := hx.2.2
  have hr0 := hr
  obtain ⟨hG1, ⟨fl, hG2, hfl⟩, hv, hrel, hg⟩ := hr
  refine zCall.of (d := d + 1) (T := tb_82) (L := [some (zR (some (K 0))), some (zI (nI i)), none, none]) (Nat.le_of_ble_eq_true rfl) rfl rfl ?_
  refine z_ald rfl rfl ?_
  refine z_get rfl hX rfl ?_
  refine z_ild rfl rfl ?_
  refine z_callF (as := [zR (some (K 5)), zI (nI i)]) (r := []) (v := some (zR (some ((A i))))) rfl rfl rfl (Nat.le_of_ble_eq_true rfl) (by omega) (by omega) (rc0 rfl hG1) (k_X2_at hr0 hi) ?_
  obtain ⟨pv_i, pw_i, pr_i, pd_i, pk_i, m_i, y_i, c_i, _, ⟨e16_i, pk8_i⟩, e17_i, ⟨e14_i, m5_i⟩, ⟨tv_i, _, ⟨fd_i, cd_i, td_i⟩, ⟨fr_i, cr_i, tr_i⟩⟩⟩ := relI_h hg (hrel i hi)
  obtain ⟨fsv_i, cv_i⟩ := vr_cell tv_i
  refine z_ast (ls' := [some (zR (some (K 0))), some (zI (nI i)), some (zR (some ((A i)))), none]) rfl (Nat.le_of_ble_eq_true rfl) rfl ?_
  refine z_ald rfl rfl ?_
  refine z_nnP rfl ?_
  refine z_ald rfl rfl ?_
  refine z_get rfl hX rfl ?_
  refine z_ald rfl rfl ?_
  refine z_get rfl c_i rfl ?_
  refine z_iald rfl hP1 (by omega) (by omega) ?_
  refine z_ist (ls' := [some (zR (some (K 0))), some (zI (nI i)), some (zR (some ((A i)))), some (zI (fP pk_i))]) rfl (Nat.le_of_ble_eq_true rfl) rfl ?_
  refine z_ald rfl rfl ?_
  refine z_get rfl hX rfl ?_
  refine z_ald rfl rfl ?_
  refine z_get rfl c_i rfl ?_
  refine z_ild rfl rfl ?_
  refine z_iast (x' := (nI i)) rfl hP1 (by omega) (by omega) rfl ?_
  intro g_1 e_2 f_3
  have k_4 := (f_3 (K 0) (Kne hx (i := 0) (j := 13) (by omega) (by omega) (by omega))).trans hX
  have k_5 := (f_3 ((A i)) (zne c_i hP1 (by nofun))).trans c_i
  refine z_ild rfl rfl ?_
  refine z_ret rfl ⟨_, rfl⟩ ?_
  have ek : pkN r i = pk_i := by rw [pkN, e16_i, nI_clamp (by omega)]
  rw [ek]
  refine ⟨by rw [hpp pk_i (by omega)], st_P st0 hI (fun y hy => f_3 y hy) (fun j hj => rset_n _ _ _ hj) ⟨_, e_2, fun p hp => ?_⟩⟩
  by_cases e : p = pk_i
  · rw [e, rset_at, upd_at]
  · rw [rset_ne _ _ _ e, upd_ne _ _ e]; exact hpp p hp
set_option maxHeartbeats 1000000 in
theorem k_pinX {d : Nat} {h : zH} {g : zH} {K A : Nat → Nat} {n v f : Nat} {r : rA} {x : Int32} (st : stC h g K A n v f r) (hxx : ∀ i, i < v → ¬ x = nI i) : zCall (d + 2) 82 [zR (some (K 0)), zI (x)] h 1 6 (fun h' o => h' = h ∧ o = .inr 2) := by
  have st0 := st
  obtain ⟨hx, ⟨tc, hT1, hT2, hn, htx, htf⟩, ⟨fc, hF1, hF2, hf6, hfc⟩, hr, ⟨Kf, O, C, T, fo, hS1, hS2, hS3, hS4, hS5, hsr, hcs⟩, ⟨fR, hR1, hrt⟩, ⟨fP, hP1, hpp⟩, ⟨fC, hC1, hcc⟩⟩ := st
  have hX := hx.2.2
  have hr0 := hr
  obtain ⟨hG1, ⟨fl, hG2, hfl⟩, hv, hrel, hg⟩ := hr
  refine zCall.of (d := d + 1) (T := tb_82) (L := [some (zR (some (K 0))), some (zI (x)), none, none]) (Nat.le_of_ble_eq_true rfl) rfl rfl ?_
  refine z_ald rfl rfl ?_
  refine z_get rfl hX rfl ?_
  refine z_ild rfl rfl ?_
  refine z_callF (as := [zR (some (K 5)), zI (x)]) (r := []) (v := some (zR none)) rfl rfl rfl (Nat.le_of_ble_eq_true rfl) (by omega) (by omega) (rc0 rfl hG1) (k_atN hr0 hxx) ?_
  refine z_ast (ls' := [some (zR (some (K 0))), some (zI (x)), some (zR none), none]) rfl (Nat.le_of_ble_eq_true rfl) rfl ?_
  refine z_ald rfl rfl ?_
  refine z_nnZ rfl ?_
  refine z_thr rfl (by omega) (by omega) (Nat.le_of_ble_eq_true rfl) ?_
  exact ⟨rfl, rfl⟩
set_option maxHeartbeats 1000000 in
theorem k_X9_yank {d : Nat} {h : zH} {g : zH} {K A : Nat → Nat} {n v f : Nat} {r : rA} {i : Nat} {on : Bool} (st : stC h g K A n v f r) (hI : rVs r v) (hi : i < v) (hA : ∀ j, j < v → A j = A i → j = i) : zCall (d + 2) 76 [zR (some (K 0)), zI (nI i), zI (bI on)] h 0 0 (fun h' o => o = .inl (some (zI (r 17 i))) ∧ poC h g K A v h' n v f (rset r 17 i (bI on))) := by
  have st0 := st
  obtain ⟨hx, ⟨tc, hT1, hT2, hn, htx, htf⟩, ⟨fc, hF1, hF2, hf6, hfc⟩, hr, ⟨Kf, O, C, T, fo, hS1, hS2, hS3, hS4, hS5, hsr, hcs⟩, ⟨fR, hR1, hrt⟩, ⟨fP, hP1, hpp⟩, ⟨fC, hC1, hcc⟩⟩ := st
  have hX := hx.2.2
  have hr0 := hr
  obtain ⟨hG1, ⟨fl, hG2, hfl⟩, hv, hrel, hg⟩ := hr
  refine zCall.of (d := d + 1) (T := tb_76) (L := [some (zR (some (K 0))), some (zI (nI i)), some (zI (bI on)), none, none]) (Nat.le_of_ble_eq_true rfl) rfl rfl ?_
  refine z_ald rfl rfl ?_
  refine z_get rfl hX rfl ?_
  refine z_ild rfl rfl ?_
  refine z_callF (as := [zR (some (K 5)), zI (nI i)]) (r := []) (v := some (zR (some ((A i))))) rfl rfl rfl (Nat.le_of_ble_eq_true rfl) (by omega) (by omega) (rc0 rfl hG1) (k_X2_at hr0 hi) ?_
  obtain ⟨pv_i, pw_i, pr_i, pd_i, pk_i, m_i, y_i, c_i, _, ⟨e16_i, pk8_i⟩, e17_i, ⟨e14_i, m5_i⟩, ⟨tv_i, _, ⟨fd_i, cd_i, td_i⟩, ⟨fr_i, cr_i, tr_i⟩⟩⟩ := relI_h hg (hrel i hi)
  obtain ⟨fsv_i, cv_i⟩ := vr_cell tv_i
  refine z_ast (ls' := [some (zR (some (K 0))), some (zI (nI i)), some (zI (bI on)), some (zR (some ((A i)))), none]) rfl (Nat.le_of_ble_eq_true rfl) rfl ?_
  refine z_ald rfl rfl ?_
  refine z_nnP rfl ?_
  refine z_ald rfl rfl ?_
  refine z_get rfl c_i rfl ?_
  refine z_ist (ls' := [some (zR (some (K 0))), some (zI (nI i)), some (zI (bI on)), some (zR (some ((A i)))), some (zI (bI y_i))]) rfl (Nat.le_of_ble_eq_true rfl) rfl ?_
  refine z_ald rfl rfl ?_
  refine z_ild rfl rfl ?_
  refine z_put (e := zO 3 [zI (nI pk_i), zR (some pv_i), zR (some pw_i), zR (some pr_i), zR (some pd_i), zI (nI m_i), zI (bI on)]) rfl c_i (Nat.le_of_ble_eq_true rfl) ⟨_, rfl, bI_01 _⟩ rfl ?_
  intro g_1 e_2 f_3
  have k_4 := (f_3 (K 0) (zne hX c_i (by nofun))).trans hX
  refine z_ild rfl rfl ?_
  refine z_ret rfl ⟨_, rfl, bI_01 _⟩ ?_
  exact ⟨by rw [e17_i], stA st0 hI hi hA c_i f_3 e_2⟩
set_option maxHeartbeats 1000000 in
theorem k_yankX {d : Nat} {h : zH} {g : zH} {K A : Nat → Nat} {n v f : Nat} {r : rA} {x : Int32} {on : Bool} (st : stC h g K A n v f r) (hxx : ∀ i, i < v → ¬ x = nI i) : zCall (d + 2) 76 [zR (some (K 0)), zI (x), zI (bI on)] h 1 6 (fun h' o => h' = h ∧ o = .inr 2) := by
  have st0 := st
  obtain ⟨hx, ⟨tc, hT1, hT2, hn, htx, htf⟩, ⟨fc, hF1, hF2, hf6, hfc⟩, hr, ⟨Kf, O, C, T, fo, hS1, hS2, hS3, hS4, hS5, hsr, hcs⟩, ⟨fR, hR1, hrt⟩, ⟨fP, hP1, hpp⟩, ⟨fC, hC1, hcc⟩⟩ := st
  have hX := hx.2.2
  have hr0 := hr
  obtain ⟨hG1, ⟨fl, hG2, hfl⟩, hv, hrel, hg⟩ := hr
  refine zCall.of (d := d + 1) (T := tb_76) (L := [some (zR (some (K 0))), some (zI (x)), some (zI (bI on)), none, none]) (Nat.le_of_ble_eq_true rfl) rfl rfl ?_
  refine z_ald rfl rfl ?_
  refine z_get rfl hX rfl ?_
  refine z_ild rfl rfl ?_
  refine z_callF (as := [zR (some (K 5)), zI (x)]) (r := []) (v := some (zR none)) rfl rfl rfl (Nat.le_of_ble_eq_true rfl) (by omega) (by omega) (rc0 rfl hG1) (k_atN hr0 hxx) ?_
  refine z_ast (ls' := [some (zR (some (K 0))), some (zI (x)), some (zI (bI on)), some (zR none), none]) rfl (Nat.le_of_ble_eq_true rfl) rfl ?_
  refine z_ald rfl rfl ?_
  refine z_nnZ rfl ?_
  refine z_thr rfl (by omega) (by omega) (Nat.le_of_ble_eq_true rfl) ?_
  exact ⟨rfl, rfl⟩
set_option maxHeartbeats 1000000 in
theorem k_X9_drop {d : Nat} {h : zH} {g : zH} {K A : Nat → Nat} {n v f : Nat} {r : rA} {p : Nat} (st : stC h g K A n v f r) (hI : rVs r v) (hp : p < 8) : zCall (d + 2) 78 [zR (some (K 0)), zI (nI p)] h 0 0 (fun h' o => o = .inl (some (zI (bI (w0 r p)))) ∧ poC h g K A v h' n v f (rset r 20 p (bI false))) := by
  have st0 := st
  obtain ⟨hx, ⟨tc, hT1, hT2, hn, htx, htf⟩, ⟨fc, hF1, hF2, hf6, hfc⟩, hr, ⟨Kf, O, C, T, fo, hS1, hS2, hS3, hS4, hS5, hsr, hcs⟩, ⟨fR, hR1, hrt⟩, ⟨fP, hP1, hpp⟩, ⟨fC, hC1, hcc⟩⟩ := st
  have hX := hx.2.2
  have hr0 := hr
  obtain ⟨hG1, ⟨fl, hG2, hfl⟩, hv, hrel, hg⟩ := hr
  refine zCall.of (d := d + 1) (T := tb_78) (L := [some (zR (some (K 0))), some (zI (nI p)), none]) (Nat.le_of_ble_eq_true rfl) rfl rfl ?_
  refine z_ild rfl rfl ?_
  refine z_callF (as := [zI (nI p)]) (r := []) (v := some (zI (bI (isPk (nI p))))) rfl rfl rfl (Nat.le_of_ble_eq_true rfl) (by omega) (by omega) (rc1 rfl) k_X9_isPack ?_
  refine z_ifB1 rfl (fun b_1 => ?_) (fun b_1 => ?_)
  · refine z_ald rfl rfl ?_
    refine z_get rfl hX rfl ?_
    refine z_ild rfl rfl ?_
    refine z_aald rfl hR1 (by omega) (by omega) ?_
    refine z_nl rfl (fun h_2 => ?_) (fun h_2 => ?_)
    · skip
      refine z_ico (x := (nI 0)) rfl rfl ?_
      refine z_ist (ls' := [some (zR (some (K 0))), some (zI (nI p)), some (zI (nI 0))]) rfl (Nat.le_of_ble_eq_true rfl) rfl ?_
      refine z_ald rfl rfl ?_
      refine z_get rfl hX rfl ?_
      refine z_ild rfl rfl ?_
      refine z_nul rfl ?_
      refine z_aast rfl hR1 (by omega) (by omega) (fun q e => by cases e) ?_
      intro g_3 e_4 f_5
      have k_6 := (f_5 (K 0) (Kne hx (i := 0) (j := 12) (by omega) (by omega) (by omega))).trans hX
      refine z_ild rfl rfl ?_
      refine z_ret rfl ⟨_, rfl, Or.inl rfl⟩ ?_
      have w9 : w0 r p = false := w0_f.mpr ((rt_w hrt hp).mp h_2)
      refine ⟨by rw [w9]; rfl, st_R st0 hI (fun y hy => f_5 y hy) (fun j hj => rset_n _ _ _ hj) ⟨_, e_4, fun q hq => ?_⟩⟩
      have eq : qR (rset r 20 p (bI false)) q = qR r q := qR_n (fun j hj => rset_n _ _ _ (by omega)) q
      rw [eq]
      by_cases e : q = p
      · rw [e, va_up_s]
        exact ⟨fun _ => rfl, fun w => by rw [w0, rset_at] at w; exact absurd w (by decide +kernel)⟩
      · rw [va_up_n _ _ e, show w0 (rset r 20 p (bI false)) q = w0 r q by rw [w0, w0, rset_ne _ _ _ e]]
        exact hrt q hq
    · skip
      refine z_ico (x := (nI 1)) rfl rfl ?_
      refine z_go rfl ?_
      refine z_ist (ls' := [some (zR (some (K 0))), some (zI (nI p)), some (zI (nI 1))]) rfl (Nat.le_of_ble_eq_true rfl) rfl ?_
      refine z_ald rfl rfl ?_
      refine z_get rfl hX rfl ?_
      refine z_ild rfl rfl ?_
      refine z_nul rfl ?_
      refine z_aast rfl hR1 (by omega) (by omega) (fun q e => by cases e) ?_
      intro g_7 e_8 f_9
      have k_10 := (f_9 (K 0) (Kne hx (i := 0) (j := 12) (by omega) (by omega) (by omega))).trans hX
      refine z_ild rfl rfl ?_
      refine z_ret rfl ⟨_, rfl, Or.inr rfl⟩ ?_
      have w9 : w0 r p = true := w0_t.mpr (fun z => h_2 ((rt_w hrt hp).mpr z))
      refine ⟨by rw [w9]; rfl, st_R st0 hI (fun y hy => f_9 y hy) (fun j hj => rset_n _ _ _ hj) ⟨_, e_8, fun q hq => ?_⟩⟩
      have eq : qR (rset r 20 p (bI false)) q = qR r q := qR_n (fun j hj => rset_n _ _ _ (by omega)) q
      rw [eq]
      by_cases e : q = p
      · rw [e, va_up_s]
        exact ⟨fun _ => rfl, fun w => by rw [w0, rset_at] at w; exact absurd w (by decide +kernel)⟩
      · rw [va_up_n _ _ e, show w0 (rset r 20 p (bI false)) q = w0 r q by rw [w0, w0, rset_ne _ _ _ e]]
        exact hrt q hq
  · rw [isPk_n hp] at b_1; cases b_1
set_option maxHeartbeats 1000000 in
theorem k_dropX {d : Nat} {h : zH} {g : zH} {K A : Nat → Nat} {n v f : Nat} {r : rA} {x : Int32} (st : stC h g K A n v f r) (hpx : isPk x = false) : zCall (d + 2) 78 [zR (some (K 0)), zI (x)] h 1 6 (fun h' o => h' = h ∧ o = .inr 2) := by
  have st0 := st
  obtain ⟨hx, ⟨tc, hT1, hT2, hn, htx, htf⟩, ⟨fc, hF1, hF2, hf6, hfc⟩, hr, ⟨Kf, O, C, T, fo, hS1, hS2, hS3, hS4, hS5, hsr, hcs⟩, ⟨fR, hR1, hrt⟩, ⟨fP, hP1, hpp⟩, ⟨fC, hC1, hcc⟩⟩ := st
  have hX := hx.2.2
  have hr0 := hr
  obtain ⟨hG1, ⟨fl, hG2, hfl⟩, hv, hrel, hg⟩ := hr
  refine zCall.of (d := d + 1) (T := tb_78) (L := [some (zR (some (K 0))), some (zI (x)), none]) (Nat.le_of_ble_eq_true rfl) rfl rfl ?_
  refine z_ild rfl rfl ?_
  refine z_callF (as := [zI (x)]) (r := []) (v := some (zI (bI (isPk (x))))) rfl rfl rfl (Nat.le_of_ble_eq_true rfl) (by omega) (by omega) (rc1 rfl) k_X9_isPack ?_
  refine z_ifB1 rfl (fun b_1 => ?_) (fun b_1 => ?_)
  · rw [hpx] at b_1; cases b_1
  · refine z_thr rfl (by omega) (by omega) (Nat.le_of_ble_eq_true rfl) ?_
    exact ⟨rfl, rfl⟩
