/-! The file. -/
theorem by_nI : ∀ k : Fin 128, (nI k).toInt8.toInt32 = nI k := by decide +kernel
theorem i2b_n {k : Nat} (h : k < 128) : (nI k).toInt8.toInt32 = nI k := by_nI ⟨k, h⟩
theorem fc_up {fc : Nat → Int32} {R : rA} {f : Nat} {x : Int32} (h : ∀ j, j < f → fc j = R 24 j) : ∀ j, j < f + 1 → upd fc f x j = rset R 24 f x 24 j := fun j hj => by
  rw [rset_s]
  unfold upd
  by_cases e : j = f
  · rw [if_pos e, if_pos e]
  · rw [if_neg e, if_neg e]; exact h j (by omega)
theorem i2b2 {k : Nat} (h : k < 128) : (nI k).toInt8.toInt32.toInt8.toInt32 = nI k := by rw [i2b_n h, i2b_n h]
set_option maxHeartbeats 1000000 in
theorem kl_wb {d : Nat} {Q : zQ}  {K : Nat → Nat} {a pk pv pw pr pd mm len f : Nat} {yk : Bool} {fb G : Nat → Int32} {R : rA} (dne : pw ≠ K 4) (hlen : f + len + 1 ≤ 216) (hl24 : len ≤ 24) (hG : ∀ j, j < len → fb j = G j) (hB : ∀ j, j < len → (fb j).toInt8.toInt32 = fb j)  : ∀ k, k ≤ len → ∀ (h : zH) (fc : Nat → Int32) (hX : h (K 0) = some (zO 9 [zR (some (K 1)), zR (some (K 3)), zR (some (K 5)), zR (some (K 7)), zR (some (K 12)), zR (some (K 13)), zR (some (K 14))])) (hF1 : h (K 3) = some (zO 0 [zR (some (K 4)), zI (nI (f + k))])) (hF2 : h (K 4) = some (zaI 0 216 fc)) (hA : h a = some (zO 3 [zI (nI pk), zR (some pv), zR (some pw), zR (some pr), zR (some pd), zI (nI mm), zI (bI yk)])) (hW : h pw = some (zaI 0 len fb)) (hfc : ∀ j, j < f + k → fc j = rput R 24 f G k 24 j) (hE : ∀ h' fc', h' (K 0) = some (zO 9 [zR (some (K 1)), zR (some (K 3)), zR (some (K 5)), zR (some (K 7)), zR (some (K 12)), zR (some (K 13)), zR (some (K 14))]) → h' (K 3) = some (zO 0 [zR (some (K 4)), zI (nI (f + len))]) → h' (K 4) = some (zaI 0 216 fc') → (∀ j, j < f + len → fc' j = rput R 24 f G len 24 j) → (∀ y, y ≠ K 3 → y ≠ K 4 → h' y = h y) → zEv (d + 1) tb_92 0 0 Q 54 [some (zR (some (K 0))), some (zR (some a)), some (zI (nI len))] [] h' 0 0), zEv (d + 1) tb_92 0 0 Q 26 [some (zR (some (K 0))), some (zR (some a)), some (zI (nI k))] [] h 0 0 := by
  refine dn len (fun k hk ih h fc hX hF1 hF2 hA hW hfc hE => ?_)
  refine z_ild rfl rfl ?_
  refine z_ald rfl rfl ?_
  refine z_get rfl hA rfl ?_
  refine z_len (m := len) rfl (by rw [hW]; rfl) ?_
  refine z_cmpN (by omega) (by omega) rfl (fun h_1 => ?_) (fun h_1 => ?_)
  · replace h_1 : len ≤ k := h_1
    have e : k = len := by omega
    subst e
    exact hE _ _ hX hF1 hF2 hfc (fun _ _ _ => rfl)
  · replace h_1 := Nat.not_le.mp h_1
    refine z_ald rfl rfl ?_
    refine z_get rfl hX rfl ?_
    refine z_ald rfl rfl ?_
    refine z_get rfl hA rfl ?_
    refine z_ild rfl rfl ?_
    refine z_iald rfl hW (by omega) (by omega) ?_
    refine z_call (as := [zR (some (K 3)), zI (fb k)]) (r := []) (mc' := 0) (ms' := 0) rfl rfl rfl (Nat.le_of_ble_eq_true rfl) (by omega) (by omega) (rc0 rfl hF1) (k_X0_append hF1 hF2 (by omega) (by omega) (hB k (by omega))) (by rintro _ _ ⟨e, _⟩; cases e) ?_
    rintro g_2 _ ⟨e9, e_3, e_4, f_5⟩; cases e9
    · skip
      have k_6 := (f_5 (K 0) (zne hX hF1 (by nofun)) (zne hX hF2 (by nofun))).trans hX
      have k_7 := (f_5 a (zne hA hF1 (by nofun)) (zne hA hF2 (by nofun))).trans hA
      have k_8 := (f_5 pw (zne hW hF1 (by nofun)) dne).trans hW
      refine z_inc (x' := (nI (k + 1))) (ls' := [some (zR (some (K 0))), some (zR (some a)), some (zI (nI (k + 1)))]) rfl rfl (nI_1 _) rfl ?_
      refine z_go rfl ?_
      refine ih (by omega) _ _ k_6 e_3 e_4 k_7 k_8 ?_ (fun h' fc' e0 e1 e2 e3 f9 => hE h' fc' e0 e1 e2 e3 (fun y hy hz => (f9 y hy hz).trans (f_5 y hy hz)))
      rw [← rput_s, ← hG k (by omega)]
      exact fc_up hfc
set_option maxHeartbeats 1000000 in
theorem kl_we {d : Nat} {Q : zQ} {h : zH} {K : Nat → Nat} {a pk pv pw pr pd mm f : Nat} {yk : Bool} {x2 : Option zV} {fc : Nat → Int32} {R : rA} (hX : h (K 0) = some (zO 9 [zR (some (K 1)), zR (some (K 3)), zR (some (K 5)), zR (some (K 7)), zR (some (K 12)), zR (some (K 13)), zR (some (K 14))])) (hF1 : h (K 3) = some (zO 0 [zR (some (K 4)), zI (nI f)])) (hF2 : h (K 4) = some (zaI 0 216 fc)) (hA : h a = some (zO 3 [zI (nI pk), zR (some pv), zR (some pw), zR (some pr), zR (some pd), zI (nI mm), zI (bI yk)])) (hlen : f + 1 ≤ 216) (hfc : ∀ j, j < f → fc j = R 24 j) (hQ : ∀ h' fc', h' (K 3) = some (zO 0 [zR (some (K 4)), zI (nI (f + 1))]) → h' (K 4) = some (zaI 0 216 fc') → (∀ j, j < f + 1 → fc' j = rset R 24 f (nI 10) 24 j) → (∀ y, y ≠ K 3 → y ≠ K 4 → h' y = h y) → Q h' (.inl none)) : zEv (d + 1) tb_92 0 0 Q 54 [some (zR (some (K 0))), some (zR (some a)), x2] [] h 0 0 := by
  refine z_ald rfl rfl ?_
  refine z_get rfl hX rfl ?_
  refine z_ico (x := (nI 10)) rfl rfl ?_
  refine z_call (as := [zR (some (K 3)), zI (nI 10)]) (r := []) (mc' := 0) (ms' := 0) rfl rfl rfl (Nat.le_of_ble_eq_true rfl) (by omega) (by omega) (rc0 rfl hF1) (k_X0_append hF1 hF2 (by omega) (by omega) (i2b_n (by omega))) (by rintro _ _ ⟨e, _⟩; cases e) ?_
  rintro g_1 _ ⟨e9, e_2, e_3, f_4⟩; cases e9
  · skip
    have k_5 := (f_4 (K 0) (zne hX hF1 (by nofun)) (zne hX hF2 (by nofun))).trans hX
    have k_6 := (f_4 a (zne hA hF1 (by nofun)) (zne hA hF2 (by nofun))).trans hA
    refine z_rtv rfl ?_
    exact hQ _ _ e_2 e_3 (fc_up hfc) (fun y hy hz => f_4 y hy hz)
set_option maxHeartbeats 1000000 in
theorem k_X9_writeLine {d : Nat} {h : zH} {Q : zQ} {K : Nat → Nat} {a pk pv pw pr pd mm len f : Nat} {yk : Bool} {fb fc G : Nat → Int32} {R : rA} (dne : pw ≠ K 4) (hX : h (K 0) = some (zO 9 [zR (some (K 1)), zR (some (K 3)), zR (some (K 5)), zR (some (K 7)), zR (some (K 12)), zR (some (K 13)), zR (some (K 14))])) (hF1 : h (K 3) = some (zO 0 [zR (some (K 4)), zI (nI f)])) (hF2 : h (K 4) = some (zaI 0 216 fc)) (hA : h a = some (zO 3 [zI (nI pk), zR (some pv), zR (some pw), zR (some pr), zR (some pd), zI (nI mm), zI (bI yk)])) (hW : h pw = some (zaI 0 len fb)) (hpk : pk < 8) (hlen : f + 3 + len ≤ 216) (hl24 : len ≤ 24) (hG : ∀ j, j < len → fb j = G j) (hB : ∀ j, j < len → (fb j).toInt8.toInt32 = fb j) (hfc : ∀ j, j < f → fc j = R 24 j) (hQ : ∀ h' fc', h' (K 3) = some (zO 0 [zR (some (K 4)), zI (nI (f + 1 + 1 + len + 1))]) → h' (K 4) = some (zaI 0 216 fc') → (∀ j, j < f + 1 + 1 + len + 1 → fc' j = rset (rput (rset (rset R 24 f (nI (48 + pk))) 24 (f + 1) (nI 32)) 24 (f + 1 + 1) G len) 24 (f + 1 + 1 + len) (nI 10) 24 j) → (∀ y, y ≠ K 3 → y ≠ K 4 → h' y = h y) → Q h' (.inl none)) : zCall (d + 2) 92 [zR (some (K 0)), zR (some a)] h 0 0 (Q) := by
  refine zCall.of (d := d + 1) (T := tb_92) (L := [some (zR (some (K 0))), some (zR (some a)), none]) (Nat.le_of_ble_eq_true rfl) rfl rfl ?_
  refine z_ald rfl rfl ?_
  refine z_get rfl hX rfl ?_
  refine z_ico (x := (nI 48)) rfl rfl ?_
  refine z_ald rfl rfl ?_
  refine z_get rfl hA rfl ?_
  refine z_ibi (v := (nI (48 + pk))) rfl (nI_add _ _) ?_
  refine z_i2b (v := (Int32.toInt8 (nI (48 + pk))).toInt32) rfl rfl ?_
  refine z_call (as := [zR (some (K 3)), zI ((Int32.toInt8 (nI (48 + pk))).toInt32)]) (r := []) (mc' := 0) (ms' := 0) rfl rfl rfl (Nat.le_of_ble_eq_true rfl) (by omega) (by omega) (rc0 rfl hF1) (k_X0_append hF1 hF2 (by omega) (by omega) (i2b2 (by omega))) (by rintro _ _ ⟨e, _⟩; cases e) ?_
  rintro g_1 _ ⟨e9, e_2, e_3, f_4⟩; cases e9
  · skip
    have k_5 := (f_4 (K 0) (zne hX hF1 (by nofun)) (zne hX hF2 (by nofun))).trans hX
    have k_6 := (f_4 a (zne hA hF1 (by nofun)) (zne hA hF2 (by nofun))).trans hA
    have k_7 := (f_4 pw (zne hW hF1 (by nofun)) dne).trans hW
    refine z_ald rfl rfl ?_
    refine z_get rfl k_5 rfl ?_
    refine z_ico (x := (nI 32)) rfl rfl ?_
    refine z_call (as := [zR (some (K 3)), zI (nI 32)]) (r := []) (mc' := 0) (ms' := 0) rfl rfl rfl (Nat.le_of_ble_eq_true rfl) (by omega) (by omega) (rc0 rfl e_2) (k_X0_append e_2 e_3 (by omega) (by omega) (i2b_n (by omega))) (by rintro _ _ ⟨e, _⟩; cases e) ?_
    rintro g_8 _ ⟨e9, e_9, e_10, f_11⟩; cases e9
    · skip
      have k_12 := (f_11 (K 0) (zne k_5 e_2 (by nofun)) (zne k_5 e_3 (by nofun))).trans k_5
      have k_13 := (f_11 a (zne k_6 e_2 (by nofun)) (zne k_6 e_3 (by nofun))).trans k_6
      have k_14 := (f_11 pw (zne k_7 e_2 (by nofun)) dne).trans k_7
      refine z_ico (x := (nI 0)) rfl rfl ?_
      refine z_ist (ls' := [some (zR (some (K 0))), some (zR (some a)), some (zI (nI 0))]) rfl (Nat.le_of_ble_eq_true rfl) rfl ?_
      refine kl_wb (R := rset (rset R 24 f (nI (48 + pk))) 24 (f + 1) (nI 32)) (G := G) dne (by omega) hl24 hG hB 0 (by omega) _ _ k_12 e_9 e_10 k_13 k_14 ?_ ?_
      · rw [rput_0]; exact fc_up (fc_up hfc)
      · intro h1 fc1 u0 u1 u2 u3 u4
        have b1 := u4 _ (zne k_13 e_9 (by nofun)) (zne k_13 e_10 (by nofun))
        replace b1 := b1.trans k_13
        exact kl_we u0 u1 u2 b1 (by omega) u3 (fun h2 fc2 v1 v2 v3 v4 => hQ h2 fc2 v1 v2 v3 (fun y hy hz => (v4 y hy hz).trans ((u4 y hy hz).trans ((f_11 y hy hz).trans (f_4 y hy hz)))))
