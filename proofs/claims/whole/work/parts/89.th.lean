set_option maxHeartbeats 1000000 in
theorem kl_wr {d : Nat} {Q : zQ}  {h0 g : zH} {K A : Nat → Nat} {n v f : Nat} {r : rA} (st : stC h0 g K A n v f r) (hI : rVs r v) (hC2 : ∀ p, p < 8 → r 22 p = -1 ∨ ∃ i, i < 40 ∧ r 22 p = nI i ∧ ∃ m, m ≤ 24 ∧ r 18 i = nI m) (hQ : ∀ h', poC h0 g K A v h' n v (wfF r 8).1 (wfF r 8).2 → Q h' (.inl (some (zI (nI (wfF r 8).1))))) : ∀ k, k ≤ 8 → ∀ (h : zH) (fc : Nat → Int32) (x2 : Option zV) (hF1 : h (K 3) = some (zO 0 [zR (some (K 4)), zI (nI ((wfF r k).1))])) (hF2 : h (K 4) = some (zaI 0 216 fc)) (hfc : ∀ j, j < (wfF r k).1 → fc j = (wfF r k).2 24 j) (fr : ∀ y, y ≠ K 3 → y ≠ K 4 → h y = h0 y), zEv (d + 3) tb_89 0 0 Q 10 [some (zR (some (K 0))), some (zI (nI k)), x2] [] h 0 0 := by
  refine dn 8 (fun k hk ih h fc x2 hF1 hF2 hfc fr => ?_)
  have hx := st.1
  have k27 := wfF_le r hC2 k hk
  have eK : ∀ i, i < 15 → i ≠ 3 → i ≠ 4 → h (K i) = h0 (K i) := fun i hi a b => fr _ (Kne hx hi (by omega) a) (Kne hx hi (by omega) b)
  have eA : ∀ i, i < v → h (A i) = h0 (A i) := fun i hi => fr _ (Ne.symm (stC_KA st (by omega) hi)) (Ne.symm (stC_KA st (by omega) hi))
  have hg : hle g h := le_fr (S := fun y => y = K 3 ∨ y = K 4) st.2.2.2.1.2.2.2.2 (fun y hy => fr y (fun z => hy (Or.inl z)) (fun z => hy (Or.inr z))) (fun y q => q.elim (fun q => by rw [q]; exact hx.1 3 (by omega)) (fun q => by rw [q]; exact hx.1 4 (by omega)))
  have hr0 : rgI h g r v (K 5) (K 6) A := rg_ex st.2.2.2.1 (hle_refl g) hg (fun i hi => stC_gA st hi) (eK 5 (by omega) (by omega) (by omega)) (eK 6 (by omega) (by omega) (by omega)) eA
  obtain ⟨fC, hC0, hcc⟩ := st.2.2.2.2.2.2.2
  have hC1 := (eK 14 (by omega) (by omega) (by omega)).trans hC0
  have hX := (eK 0 (by omega) (by omega) (by omega)).trans hx.2.2
  have hG1 := hr0.1
  have hv := hr0.2.2.1
  have hrel := hr0.2.2.2.1
  refine z_ild rfl rfl ?_
  refine z_ico (x := (nI 8)) rfl rfl ?_
  refine z_cmpN (by omega) (by omega) rfl (fun h_1 => ?_) (fun h_1 => ?_)
  · replace h_1 : 8 ≤ k := h_1
    refine z_ald rfl rfl ?_
    refine z_get rfl hX rfl ?_
    refine z_get rfl hF1 rfl ?_
    refine z_ret rfl ⟨_, rfl⟩ ?_
    have e : k = 8 := by omega
    subst e
    exact hQ _ (st_F st hI (fun y hy => fr y (fun z => hy (Or.inl z)) (fun z => hy (Or.inr z))) (fun j hj => wfF_n r 8 j hj) ⟨_, hF1, hF2, by omega, hfc⟩)
  · replace h_1 := Nat.not_le.mp h_1
    refine z_ald rfl rfl ?_
    refine z_get rfl hX rfl ?_
    refine z_ald rfl rfl ?_
    refine z_get rfl hX rfl ?_
    refine z_ild rfl rfl ?_
    refine z_iald rfl hC1 (by omega) (by omega) ?_
    rcases hI.2.2.1 k (by omega) with e8 | ⟨i, hi, e8, e16⟩
    · refine z_top (v2 := zI (-1)) (congrArg zI ((hcc k (by omega)).trans e8)) ?_
      refine z_callF (as := [zR (some (K 5)), zI (-1)]) (r := []) (v := some (zR none)) rfl rfl rfl (Nat.le_of_ble_eq_true rfl) (by omega) (by omega) (rc0 rfl hG1) (k_atN hr0 (fun i hi z => nI_ne1 (by omega) z.symm)) ?_
      refine z_ast (ls' := [some (zR (some (K 0))), some (zI (nI k)), some (zR none)]) rfl (Nat.le_of_ble_eq_true rfl) rfl ?_
      refine z_ald rfl rfl ?_
      refine z_nlZ rfl ?_
      refine z_inc (x' := (nI (k + 1))) (ls' := [some (zR (some (K 0))), some (zI (nI (k + 1))), some (zR none)]) rfl rfl (nI_1 _) rfl ?_
      refine z_go rfl ?_
      have h9 : wfF r (k + 1) = wfF r k := by rw [wfF, wlF, if_pos e8]
      exact ih (by omega) _ _ _ (by rw [h9]; exact hF1) hF2 (by rw [h9]; exact hfc) fr
    · refine z_top (v2 := zI (nI i)) (congrArg zI ((hcc k (by omega)).trans e8)) ?_
      refine z_callF (as := [zR (some (K 5)), zI (nI i)]) (r := []) (v := some (zR (some ((A i))))) rfl rfl rfl (Nat.le_of_ble_eq_true rfl) (by omega) (by omega) (rc0 rfl hG1) (k_X2_at hr0 hi) ?_
      obtain ⟨pv, pw, pr, pd, pk, m9, y9, cA, gA, ⟨e16b, pk8⟩, e17, ⟨e14, m5⟩, ⟨tv, ⟨len, fb, el, l24, cW, hfb⟩, _⟩⟩ := hrel i hi
      obtain ⟨m8, n1, n2, n3⟩ := hI.2.2.2.2.2.1 i hi
      have em : m8 = len := nI_i (by omega) (by omega) (n2.symm.trans el)
      have ek : pk = k := nI_i (by omega) (by omega) (e16b.symm.trans e16)
      refine z_ast (ls' := [some (zR (some (K 0))), some (zI (nI k)), some (zR (some ((A i))))]) rfl (Nat.le_of_ble_eq_true rfl) rfl ?_
      refine z_ald rfl rfl ?_
      refine z_nlP rfl ?_
      refine z_ald rfl rfl ?_
      refine z_ald rfl rfl ?_
      refine z_call (as := [zR (some (K 0)), zR (some ((A i)))]) (r := []) (mc' := 0) (ms' := 0) rfl rfl rfl (Nat.le_of_ble_eq_true rfl) (by omega) (by omega) (rc0 rfl hX) (k_X9_writeLine (Q := (fun h' o => o = .inl none ∧ ∃ fc', h' (K 3) = some (zO 0 [zR (some (K 4)), zI (nI ((wfF r k).1 + 1 + 1 + len + 1))]) ∧ h' (K 4) = some (zaI 0 216 fc') ∧ (∀ j, j < (wfF r k).1 + 1 + 1 + len + 1 → fc' j = rset (rput (rset (rset (wfF r k).2 24 (wfF r k).1 (nI (48 + pk))) 24 ((wfF r k).1 + 1) (nI 32)) 24 ((wfF r k).1 + 1 + 1) (fun y => r 19 (24 * i + y)) len) 24 ((wfF r k).1 + 1 + 1 + len) (nI 10) 24 j) ∧ (∀ y, y ≠ K 3 → y ≠ K 4 → h' y = h y))) (fun z => by rw [z, hx.1 4 (by omega)] at cW; cases cW) hX hF1 hF2 cA (hg _ _ cW) pk8 (by omega) l24 hfb (fun j hj => by rw [hfb j hj]; exact n3 j (by omega)) hfc (fun h' fc' a b c d => ⟨rfl, fc', a, b, c, d⟩)) (by rintro _ _ ⟨e, _⟩; cases e) ?_
      rintro g_2 _ ⟨e9, c_3, e_4, e_5, e_6, f_7⟩; cases e9
      · skip
        have k_8 := (f_7 (K 0) (Kne hx (i := 0) (j := 3) (by omega) (by omega) (by omega)) (Kne hx (i := 0) (j := 4) (by omega) (by omega) (by omega))).trans hX
        have k_9 := (f_7 (K 5) (Ne.symm (Kne hx (i := 3) (j := 5) (by omega) (by omega) (by omega))) (Ne.symm (Kne hx (i := 4) (j := 5) (by omega) (by omega) (by omega)))).trans hG1
        have k_10 := (f_7 (K 14) (Ne.symm (Kne hx (i := 3) (j := 14) (by omega) (by omega) (by omega))) (Ne.symm (Kne hx (i := 4) (j := 14) (by omega) (by omega) (by omega)))).trans hC1
        have k_11 := (f_7 ((A i)) (zne cA hF1 (by nofun)) (zne cA hF2 (by nofun))).trans cA
        refine z_inc (x' := (nI (k + 1))) (ls' := [some (zR (some (K 0))), some (zI (nI (k + 1))), some (zR (some ((A i))))]) rfl rfl (nI_1 _) rfl ?_
        refine z_go rfl ?_
        have h9 : wfF r (k + 1) = ((wfF r k).1 + 1 + 1 + len + 1, rset (rput (rset (rset (wfF r k).2 24 (wfF r k).1 (nI (48 + pk))) 24 ((wfF r k).1 + 1) (nI 32)) 24 ((wfF r k).1 + 1 + 1) (fun y => r 19 (24 * i + y)) len) 24 ((wfF r k).1 + 1 + 1 + len) (nI 10)) := by
          rw [wfF, wlF, if_neg (fun z => nI_ne1 (by omega) (e8.symm.trans z)), e8, nI_clamp (by omega), el, nI_clamp (by omega), ek]
        exact ih (by omega) _ _ _ (by rw [h9]; exact e_4) e_5 (by rw [h9]; exact e_6) (fun y hy hz => (f_7 y hy hz).trans (fr y hy hz))
set_option maxHeartbeats 1000000 in
theorem k_X9_write {d : Nat} {h : zH} {g : zH} {K A : Nat → Nat} {n v f : Nat} {r : rA} (st : stC h g K A n v f r) (hI : rVs r v) : zCall (d + 4) 89 [zR (some (K 0))] h 0 0 (fun h' o => o = .inl (some (zI (nI (wfF r 8).1))) ∧ poC h g K A v h' n v (wfF r 8).1 (wfF r 8).2) := by
  have st0 := st
  obtain ⟨hx, ⟨tc, hT1, hT2, hn, htx, htf⟩, ⟨fc, hF1, hF2, hf6, hfc⟩, hr, ⟨Kf, O, C, T, fo, hS1, hS2, hS3, hS4, hS5, hsr, hcs⟩, ⟨fR, hR1, hrt⟩, ⟨fP, hP1, hpp⟩, ⟨fC, hC1, hcc⟩⟩ := st
  have hX := hx.2.2
  have hr0 := hr
  obtain ⟨hG1, ⟨fl, hG2, hfl⟩, hv, hrel, hg⟩ := hr
  refine zCall.of (d := d + 3) (T := tb_89) (L := [some (zR (some (K 0))), none, none]) (Nat.le_of_ble_eq_true rfl) rfl rfl ?_
  refine z_ald rfl rfl ?_
  refine z_get rfl hX rfl ?_
  refine z_ico (x := (nI 0)) rfl rfl ?_
  refine z_put (e := zO 0 [zR (some (K 4)), zI (nI 0)]) rfl hF1 (Nat.le_of_ble_eq_true rfl) ⟨_, rfl⟩ rfl ?_
  intro g_1 e_2 f_3
  have k_4 := (f_3 (K 0) (Kne hx (i := 0) (j := 3) (by omega) (by omega) (by omega))).trans hX
  have k_5 := (f_3 (K 4) (Ne.symm (Kne hx (i := 3) (j := 4) (by omega) (by omega) (by omega)))).trans hF2
  refine z_ico (x := (nI 0)) rfl rfl ?_
  refine z_ist (ls' := [some (zR (some (K 0))), some (zI (nI 0)), none]) rfl (Nat.le_of_ble_eq_true rfl) rfl ?_
  have hC2 : ∀ p, p < 8 → r 22 p = -1 ∨ ∃ i, i < 40 ∧ r 22 p = nI i ∧ ∃ m, m ≤ 24 ∧ r 18 i = nI m := fun p hp => (hI.2.2.1 p hp).imp id (fun z => by
    obtain ⟨i, a, b, _⟩ := z
    obtain ⟨m, m1, m2, _⟩ := hI.2.2.2.2.2.1 i a
    exact ⟨i, by omega, b, m, m1, m2⟩)
  exact kl_wr st0 hI hC2 (fun h' z => ⟨rfl, z⟩) 0 (by omega) _ _ _ e_2 k_5 (fun j hj => absurd hj (Nat.not_lt_zero _)) (fun y hy hz => f_3 y hy)
