/-! solve -/
theorem zd_eq {d d' j mc ms : Nat} {as : List zV} {h : zH} {P : zQ} (e : d' = d) (k : zCall d' j as h mc ms P) : zCall d j as h mc ms P := by subst e; exact k
def pinO (r : rA) (p : Nat) : Option Nat := if r 21 p = -1 then none else some (r 21 p).toNatClampNeg
theorem pin_ok {r : rA} {v : Nat} (hI : rVs r v) {p : Nat} (hp : p < 8) : oI (pinO r p) = r 21 p ∧ ∀ q, pinO r p = some q → q < 40 := by
  have hv := hI.1.1
  unfold pinO
  rcases hI.2.1.2.2.2 p hp with e | ⟨i, hi, e⟩
  · rw [if_pos e]
    exact ⟨e.symm, nofun⟩
  · rw [if_neg (fun z => nI_ne1 (show i < 2 ^ 31 by omega) (e.symm.trans z)), e, nI_clamp (by omega)]
    exact ⟨rfl, fun q hq => by cases hq; omega⟩
theorem okX_op {r : rA} {v : Nat} (hv : v ≤ 40) : okX (vR v) (opB r v) := fun o ho t => by
  rcases (opB_iff ho v hv).mp t with z | ⟨p, hp, e, _⟩
  · exact Or.inl z.1
  · exact Or.inr (by omega)
theorem vK_R (v : Nat) : vK (vR v) v := fun o h => by
  rcases h with h | h
  · exact Or.inl h
  · exact Or.inr ⟨o - 40, by omega, by omega⟩
def chF (c : Nat → Nat) (k p : Nat) : Int32 := if c p < k then nI (c p) else -1
theorem ch_y {kp : Nat → Nat} {x y : Int64} {c : Nat → Nat} (hc : chs kp x c) (hy : ∀ j, j < 64 → (tst y j = true ↔ ∃ p, p < 8 ∧ j = c p)) : ¬ y = 0 := fun e => by
  have h0 := hc 0 (by omega)
  have := (hy (c 0) (by omega)).mpr ⟨0, by omega, rfl⟩
  rw [e, tst_0] at this
  cases this
/-- what solve tells: the reference can choose nothing, or just this -/
def svR (r : rA) (v : Nat) (G : Nat → Int32) : Prop := (∃ t, gdR r v t) ∧ (∀ t, gdR r v t → (∀ t', gdR r v t' → ¬ lxl 8 t' t) → ∀ p, p < 8 → gvO (opt r v) t p = G p) ∧ ∀ p, p < 8 → G p = -1 ∨ ∃ i, i < v ∧ G p = nI i ∧ r 16 i = nI p
theorem sv_mk {r : rA} {v : Nat} {C : Nat → Int64} {c : Nat → Nat} (hI : rVs r v) (hC : cSp r v C) (hc : chs (kpR r) (opB r v) c) (hn : ncl C c) (hf : fiI r v C (kpR r) (opB r v) (pinO r) c 8) : svR r v (fun p => vlO p (c p)) := by
  have h1 := hI.1
  have h2 := hI.2.1
  have hv := h1.1
  refine ⟨?_, fun t a b => same_choice h1 h2 hC (fun p hp => (pin_ok hI hp).1) (fun p hp => (pin_ok hI hp).2) hc hn hf a b, fun p hp => ?_⟩
  · obtain ⟨t, a, _⟩ := fst_least h1 h2 hC (fun p hp => (pin_ok hI hp).1) (fun p hp => (pin_ok hI hp).2) hc hn hf
    exact ⟨t, a⟩
  · rcases (ch_in h1 h2 hc hp).1 with ⟨a, _⟩ | ⟨a, b⟩
    · exact Or.inl (by show vlO p (c p) = -1; rw [a, vlO, if_pos rfl])
    · exact Or.inr ⟨c p, a, by show vlO p (c p) = nI (c p); rw [vlO, if_neg (by omega)], (elg_iff.mp b).1⟩
set_option maxHeartbeats 1000000 in
theorem kl_sv {d : Nat} {Q : zQ}  {h0 g : zH} {K A : Nat → Nat} {n v f : Nat} {r : rA} {y fo : Int64} {T : Nat → Int64} {c : Nat → Nat} (st : stC h0 g K A n v f r) (hI : rVs r v) (hc : chs (kpR r) (opB r v) c) (hy : ∀ j, j < 64 → (tst y j = true ↔ ∃ p, p < 8 ∧ j = c p)) (hQ : ∀ h', poC h0 g K A v h' n v f (rwr r 22 (fun p => vlO p (c p))) → Q h' (.inl (some (zI (nI (cntF (fun p => vlO p (c p)) 8)))))) : ∀ k, k ≤ v → ∀ (h : zH) (F : Nat → Int32) (x4 : Option zV) (hC1 : h (K 14) = some (zaI 1 8 F)) (hF : ∀ p, p < 8 → F p = chF c k p) (fr : ∀ y, y ≠ K 7 → y ≠ K 11 → y ≠ K 14 → h y = h0 y) (c7 : h (K 7) = some (srO (K 5) (K 8) (K 9) (K 10) (K 11) fo)) (c11 : h (K 11) = some (zaJ 8 T)), zEv (d + 2) tb_79 1 6 Q 40 [some (zR (some (K 0))), some (zJ y), none, some (zI (nI k)), x4] [] h 0 0 := by
  refine dn v (fun k hk ih h F x4 hC1 hF fr c7 c11 => ?_)
  have hx := st.1
  have hv := hI.1.1
  have eK : ∀ i, i < 15 → i ≠ 7 → i ≠ 11 → i ≠ 14 → h (K i) = h0 (K i) := fun i hi a b c => fr _ (Kne hx hi (by omega) a) (Kne hx hi (by omega) b) (Kne hx hi (by omega) c)
  have eA : ∀ i, i < v → h (A i) = h0 (A i) := fun i hi => fr _ (Ne.symm (stC_KA st (by omega) hi)) (Ne.symm (stC_KA st (by omega) hi)) (Ne.symm (stC_KA st (by omega) hi))
  have hg : hle g h := le_fr (S := fun y => y = K 7 ∨ y = K 11 ∨ y = K 14) st.2.2.2.1.2.2.2.2 (fun y hy => fr y (fun z => hy (Or.inl z)) (fun z => hy (Or.inr (Or.inl z))) (fun z => hy (Or.inr (Or.inr z)))) (fun y q => q.elim (fun q => by rw [q]; exact hx.1 7 (by omega)) (fun q => q.elim (fun q => by rw [q]; exact hx.1 11 (by omega)) (fun q => by rw [q]; exact hx.1 14 (by omega))))
  have hr0 : rgI h g r v (K 5) (K 6) A := rg_ex st.2.2.2.1 (hle_refl g) hg (fun i hi => stC_gA st hi) (eK 5 (by omega) (by omega) (by omega) (by omega)) (eK 6 (by omega) (by omega) (by omega) (by omega)) eA
  have hX := (eK 0 (by omega) (by omega) (by omega) (by omega)).trans hx.2.2
  have hG1 := hr0.1
  have hrel := hr0.2.2.2.1
  refine z_ild rfl rfl ?_
  refine z_ald rfl rfl ?_
  refine z_get rfl hX rfl ?_
  refine z_get rfl hG1 rfl ?_
  refine z_cmpN (by omega) (by omega) rfl (fun h_1 => ?_) (fun h_1 => ?_)
  · replace h_1 : v ≤ k := h_1
    refine z_ald rfl rfl ?_
    refine z_get rfl hX rfl ?_
    refine z_callF (as := [zR (some (K 14))]) (r := []) (v := some (zI (nI (cntF F 8)))) rfl rfl rfl (Nat.le_of_ble_eq_true rfl) (by omega) (by omega) (rc1 rfl) (k_X9_countGiven hC1) ?_
    refine z_ret rfl ⟨_, rfl⟩ ?_
    have e : k = v := by omega
    subst e
    have eG : ∀ p, p < 8 → F p = vlO p (c p) := fun p hp => by
      rw [hF p hp, chF]
      rcases (ch_in hI.1 hI.2.1 hc hp).1 with z | z
      · rw [if_neg (by omega), z.1, vlO, if_pos rfl]
      · rw [if_pos z.1, vlO, if_neg (by omega)]
    rw [cntF_c 8 eG]
    have hr9 : ∀ j, ¬ j = 22 → rwr r 22 (fun p => vlO p (c p)) j = r j := fun j hj => rwr_n hj
    refine hQ _ (st_C st hI (fun y hy => fr y (fun z => hy (Or.inl z)) (fun z => hy (Or.inr (Or.inl z))) (fun z => hy (Or.inr (Or.inr z)))) hr9 ?_ ⟨_, hC1, fun p hp => by rw [rwr_s]; exact eG p hp⟩)
    obtain ⟨Kf, O, C', T', fo', d1, d2, d3, d4, d5, d6, d7⟩ := st.2.2.2.2.1
    exact cS_r ⟨Kf, O, C', T, fo, c7, (eK 8 (by omega) (by omega) (by omega) (by omega)).trans d2, (eK 9 (by omega) (by omega) (by omega) (by omega)).trans d3, (eK 10 (by omega) (by omega) (by omega) (by omega)).trans d4, c11, d6, d7⟩ (rSm_of (fun j hj => hr9 j (by omega))) hI.1 hI.2.1.1
  · replace h_1 := Nat.not_le.mp h_1
    refine z_ald rfl rfl ?_
    refine z_get rfl hX rfl ?_
    refine z_ild rfl rfl ?_
    refine z_callF (as := [zR (some (K 5)), zI (nI k)]) (r := []) (v := some (zR (some ((A k))))) rfl rfl rfl (Nat.le_of_ble_eq_true rfl) (by omega) (by omega) (rc0 rfl hG1) (k_X2_at hr0 (by omega)) ?_
    obtain ⟨pv_k, pw_k, pr_k, pd_k, pk_k, m_k, y_k, c_k, _, ⟨e16_k, pk8_k⟩, e17_k, ⟨e14_k, m5_k⟩, ⟨tv_k, _, ⟨fd_k, cd_k, td_k⟩, ⟨fr_k, cr_k, tr_k⟩⟩⟩ := relI_h hg (hrel k (by omega))
    obtain ⟨fsv_k, cv_k⟩ := vr_cell tv_k
    refine z_ast (ls' := [some (zR (some (K 0))), some (zJ y), none, some (zI (nI k)), some (zR (some ((A k))))]) rfl (Nat.le_of_ble_eq_true rfl) rfl ?_
    refine z_ald rfl rfl ?_
    refine z_nlP rfl ?_
    refine z_lld rfl rfl ?_
    refine z_ild rfl rfl ?_
    refine z_callF (as := [zJ y, zI (nI k)]) (r := []) (v := some (zI (bI (tst y k)))) rfl rfl rfl (Nat.le_of_ble_eq_true rfl) (by omega) (by omega) (rc1 rfl) (k_X5_holds (by omega)) ?_
    refine z_ifB0 rfl (fun b_2 => ?_) (fun b_2 => ?_)
    · refine z_inc (x' := (nI (k + 1))) (ls' := [some (zR (some (K 0))), some (zJ y), none, some (zI (nI (k + 1))), some (zR (some ((A k))))]) rfl rfl (nI_1 _) rfl ?_
      refine z_go rfl ?_
      refine ih (by omega) _ _ _ hC1 (fun p hp => ?_) fr c7 c11
      rw [hF p hp, chF, chF]
      have n9 : c p ≠ k := fun z => by
        rw [(hy k (by omega)).mpr ⟨p, hp, z.symm⟩] at b_2
        cases b_2
      by_cases e : c p < k
      · rw [if_pos e, if_pos (by omega)]
      · rw [if_neg e, if_neg (by omega)]
    · refine z_ald rfl rfl ?_
      refine z_get rfl hX rfl ?_
      refine z_ald rfl rfl ?_
      refine z_get rfl c_k rfl ?_
      refine z_ild rfl rfl ?_
      refine z_iast (x' := (nI k)) rfl hC1 (by omega) (by omega) rfl ?_
      intro g_3 e_4 f_5
      have k_6 := (f_5 (K 0) (Kne hx (i := 0) (j := 14) (by omega) (by omega) (by omega))).trans hX
      have k_7 := (f_5 (K 5) (Kne hx (i := 5) (j := 14) (by omega) (by omega) (by omega))).trans hG1
      have k_8 := (f_5 ((A k)) (zne c_k hC1 (by nofun))).trans c_k
      refine z_inc (x' := (nI (k + 1))) (ls' := [some (zR (some (K 0))), some (zJ y), none, some (zI (nI (k + 1))), some (zR (some ((A k))))]) rfl rfl (nI_1 _) rfl ?_
      refine z_go rfl ?_
      obtain ⟨p0, q1, q2⟩ := (hy k (by omega)).mp b_2
      have q3 : pk_k = p0 := by
        have q4 := (hc p0 q1).2.1
        rw [← q2, kpR, if_pos (by omega), pkN, e16_k, nI_clamp (by omega)] at q4
        exact q4
      refine ih (by omega) _ _ _ e_4 (fun p hp => ?_) (fun y ha hb hd => (f_5 y hd).trans (fr y ha hb hd)) ((f_5 _ (Kne hx (by omega) (by omega) (by omega))).trans c7) ((f_5 _ (Kne hx (by omega) (by omega) (by omega))).trans c11)
      rw [chF]
      by_cases e : p = p0
      · rw [e, q3, upd_at, ← q2, if_pos (by omega)]
      · rw [q3, upd_ne _ _ e, hF p hp, chF]
        have n9 : c p ≠ k := fun z => by
          have x1 := (hc p hp).2.1
          have x2 := (hc p0 q1).2.1
          rw [z, q2, x2] at x1
          exact e x1.symm
        by_cases e9 : c p < k
        · rw [if_pos e9, if_pos (by omega)]
        · rw [if_neg e9, if_neg (by omega)]
set_option maxHeartbeats 1000000 in
theorem k_X9_solve {d : Nat} {h : zH} {g : zH} {K A : Nat → Nat} {n v f : Nat} {r : rA} (st : stC h g K A n v f r) (hI : rVs r v) : zCall (d + 24) 79 [zR (some (K 0))] h 1 6 (fun h' o => (o = .inr 1 ∧ poC h g K A v h' n v f r ∧ ∀ t, ¬ gdR r v t) ∨ ∃ G, o = .inl (some (zI (nI (cntF G 8)))) ∧ poC h g K A v h' n v f (rwr r 22 G) ∧ svR r v G) := by
  have st0 := st
  obtain ⟨hx, ⟨tc, hT1, hT2, hn, htx, htf⟩, ⟨fc, hF1, hF2, hf6, hfc⟩, hr, ⟨Kf, O, C, T, fo, hS1, hS2, hS3, hS4, hS5, hsr, hcs⟩, ⟨fR, hR1, hrt⟩, ⟨fP, hP1, hpp⟩, ⟨fC, hC1, hcc⟩⟩ := st
  have hX := hx.2.2
  have hr0 := hr
  obtain ⟨hG1, ⟨fl, hG2, hfl⟩, hv, hrel, hg⟩ := hr
  refine zCall.of (d := d + 23) (T := tb_79) (L := [some (zR (some (K 0))), none, none, none, none]) (Nat.le_of_ble_eq_true rfl) rfl rfl ?_
  refine z_ald rfl rfl ?_
  refine z_get rfl hX rfl ?_
  refine z_ald rfl rfl ?_
  refine z_get rfl hX rfl ?_
  refine z_ald rfl rfl ?_
  refine z_get rfl hX rfl ?_
  refine z_call (as := [zR (some (K 7)), zR (some (K 12)), zR (some (K 13))]) (r := []) (mc' := 0) (ms' := 0) rfl rfl rfl (Nat.le_of_ble_eq_true rfl) (by omega) (by omega) (rc0 rfl hS1) (zd_eq (by omega) (k_X5_first (d := d) (pin := pinO r) (Kne hx (by omega) (by omega) (by omega)) (Kne hx (by omega) (by omega) (by omega)) (Kne hx (by omega) (by omega) (by omega)) hsr (cSp_clK hcs) (vK_R v) (fun p hp => (pin_ok hI hp).2) (fun p hp => (hpp p hp).trans (pin_ok hI hp).1.symm) (hx.1 7 (by omega)) (hx.1 11 (by omega)) hS1 hS2 hS3 hS4 hS5 hr0 hR1 hP1 (rtI_mono hg hrt) hpp (okX_op hv))) (by rintro _ _ ⟨_, _, _, e, _⟩; cases e) ?_
  rintro g_1 _ ⟨f_2, t_3, y_4, e9, e_5, e_6, f_7, hres⟩; cases e9
  · skip
    have k_8 := (f_7 (K 0) (Kne hx (i := 0) (j := 7) (by omega) (by omega) (by omega)) (Kne hx (i := 0) (j := 11) (by omega) (by omega) (by omega))).trans hX
    have k_9 := (f_7 (K 5) (Kne hx (i := 5) (j := 7) (by omega) (by omega) (by omega)) (Kne hx (i := 5) (j := 11) (by omega) (by omega) (by omega))).trans hG1
    have k_10 := (f_7 (K 8) (Ne.symm (Kne hx (i := 7) (j := 8) (by omega) (by omega) (by omega))) (Kne hx (i := 8) (j := 11) (by omega) (by omega) (by omega))).trans hS2
    have k_11 := (f_7 (K 9) (Ne.symm (Kne hx (i := 7) (j := 9) (by omega) (by omega) (by omega))) (Kne hx (i := 9) (j := 11) (by omega) (by omega) (by omega))).trans hS3
    have k_12 := (f_7 (K 10) (Ne.symm (Kne hx (i := 7) (j := 10) (by omega) (by omega) (by omega))) (Kne hx (i := 10) (j := 11) (by omega) (by omega) (by omega))).trans hS4
    have k_13 := (f_7 (K 12) (Ne.symm (Kne hx (i := 7) (j := 12) (by omega) (by omega) (by omega))) (Ne.symm (Kne hx (i := 11) (j := 12) (by omega) (by omega) (by omega)))).trans hR1
    have k_14 := (f_7 (K 13) (Ne.symm (Kne hx (i := 7) (j := 13) (by omega) (by omega) (by omega))) (Ne.symm (Kne hx (i := 11) (j := 13) (by omega) (by omega) (by omega)))).trans hP1
    have k_15 := (f_7 (K 14) (Ne.symm (Kne hx (i := 7) (j := 14) (by omega) (by omega) (by omega))) (Ne.symm (Kne hx (i := 11) (j := 14) (by omega) (by omega) (by omega)))).trans hC1
    refine z_lst (ls' := [some (zR (some (K 0))), some (zJ y_4), none, none, none]) rfl (Nat.le_of_ble_eq_true rfl) rfl ?_
    refine z_lld rfl rfl ?_
    refine z_lco (x := 0) rfl rfl ?_
    refine z_lcm (v := lg_cmp y_4 0) rfl rfl ?_
    refine z_if rfl (fun h_16 => ?_) (fun h_16 => ?_)
    · replace h_16 : ¬ (lg_cmp y_4 0) = 0 := h_16
      refine z_ald rfl rfl ?_
      refine z_get rfl k_8 rfl ?_
      refine z_ico (x := (-1)) rfl rfl ?_
      refine z_call (as := [zR (some (K 14)), zI (-1)]) (r := []) (mc' := 0) (ms' := 0) rfl rfl rfl (Nat.le_of_ble_eq_true rfl) (by omega) (by omega) (rc1 rfl) (k_J7_fill_53178 (by omega) k_15) (by rintro _ _ ⟨e, _⟩; cases e) ?_
      rintro g_17 _ ⟨e9, e_18, f_19⟩; cases e9
      · skip
        have k_20 := (f_19 (K 0) (Kne hx (i := 0) (j := 14) (by omega) (by omega) (by omega))).trans k_8
        have k_21 := (f_19 (K 5) (Kne hx (i := 5) (j := 14) (by omega) (by omega) (by omega))).trans k_9
        have k_22 := (f_19 (K 8) (Kne hx (i := 8) (j := 14) (by omega) (by omega) (by omega))).trans k_10
        have k_23 := (f_19 (K 9) (Kne hx (i := 9) (j := 14) (by omega) (by omega) (by omega))).trans k_11
        have k_24 := (f_19 (K 10) (Kne hx (i := 10) (j := 14) (by omega) (by omega) (by omega))).trans k_12
        have k_25 := (f_19 (K 12) (Kne hx (i := 12) (j := 14) (by omega) (by omega) (by omega))).trans k_13
        have k_26 := (f_19 (K 13) (Kne hx (i := 13) (j := 14) (by omega) (by omega) (by omega))).trans k_14
        have k_27 := (f_19 (K 7) (Kne hx (i := 7) (j := 14) (by omega) (by omega) (by omega))).trans e_5
        have k_28 := (f_19 (K 11) (Kne hx (i := 11) (j := 14) (by omega) (by omega) (by omega))).trans e_6
        refine z_ico (x := (nI 0)) rfl rfl ?_
        refine z_ist (ls' := [some (zR (some (K 0))), some (zJ y_4), none, some (zI (nI 0)), none]) rfl (Nat.le_of_ble_eq_true rfl) rfl ?_
        rcases hres with ⟨y0, _⟩ | ⟨c, a1, a2, a3, a4⟩
        · exact absurd (lg_0.mpr y0) h_16
        · exact kl_sv st0 hI a1 a4 (fun h' z => Or.inr ⟨_, rfl, z, sv_mk hI hcs a1 a2 a3⟩) 0 (by omega) _ _ _ e_18 (fun p hp => if_pos hp) (fun y ha hb hd => (f_19 y hd).trans (f_7 y ha hb)) k_27 k_28
    · replace h_16 : (lg_cmp y_4 0) = 0 := Decidable.of_not_not h_16
      refine z_thr rfl (by omega) (by omega) (Nat.le_of_ble_eq_true rfl) ?_
      have y0 : y_4 = 0 := lg_0.mp h_16
      rcases hres with ⟨_, hno⟩ | ⟨c, a1, a2, a3, a4⟩
      · refine Or.inl ⟨rfl, ?_, none_none hI.1 hI.2.1 hcs hno⟩
        exact st_C st0 hI (fun y hy => f_7 y (fun z => hy (Or.inl z)) (fun z => hy (Or.inr (Or.inl z)))) (fun j _ => rfl) ⟨_, _, _, _, _, e_5, k_10, k_11, k_12, e_6, hsr, hcs⟩ ⟨_, k_15, hcc⟩
      · exact absurd y0 (ch_y a1 a4)
