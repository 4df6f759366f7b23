section
variable {h : zH} {K : Nat → Nat} {q : Nat} {qa : Nat → Nat} {po c0 B L k c s mc ms : Nat} {xs : Nat → Int32} {o5 o6 : Option zV}
set_option maxRecDepth 20000 in
set_option maxHeartbeats 2000000 in
theorem lc_best (V : lwV h K q qa po c0) (hk : 4 * k + 4 ≤ L) (hc : c + 6900 ≤ mc) (hs : s + 13892 ≤ ms) (kt : lkt K q qa po B L xs mc ms k c s) : lEv 29 B L xs mc ms 711 [some (zR (some B)), some (zR (some (K 0))), some (zR (some q)), some (zR (some po)), some (zI (nI (4 * k))), o5, o6] [] h c s := by
  obtain ⟨g, A, n, a, b, v, f, r, I⟩ := V
  obtain ⟨fo, hfo⟩ := I.2.2.2.1
  have hX := I.1.1.2.2
  have hn : n ≤ 160 := by obtain ⟨_, _, _, hn, _⟩ := I.1.2.1; exact hn
  refine l_ald rfl rfl ?_
  refine l_ald rfl rfl ?_
  refine l_ild rfl rfl ?_
  refine l_ico (x := nI 1) rfl rfl ?_
  refine l_ibi (v := nI (4 * k + 1)) rfl (nI_add _ _) ?_
  refine l_sld rfl (by omega) ?_
  refine l_ald rfl rfl ?_
  refine l_hcall (as := [zR (some (K 0)), zI (xs (4 * k + 1)), zR (some po)]) (r := []) (mc' := 6900) (ms' := 13892) rfl (by decide) rfl rfl (Nat.le_of_ble_eq_true rfl) hc hs (hp_best ((xs (4 * k + 1))) hX hfo (fun h1 res z => ⟨z.1 po (Or.inr (Or.inl rfl)), z.2.1⟩) (zCall_wid (by omega) (by omega) (ag_best I ((xs (4 * k + 1)))))) (fun h1 e z => hpQ_ne z) (fun h1 u z => ?_)
  obtain ⟨co, x, fs, z1, z2, z3⟩ := lw_help I z
  cases z1
  show lEv 29 B L xs mc ms 722 [some (zR (some B)), some (zR (some (K 0))), some (zR (some q)), some (zR (some po)), some (zI (nI (4 * k))), o5, o6] [zI (nI co)] h1 (c + 6900) (s + 13892)
  refine l_ist (ls' := [some (zR (some B)), some (zR (some (K 0))), some (zR (some q)), some (zR (some po)), some (zI (nI (4 * k))), some (zI (nI co)), o6]) rfl (Nat.le_of_ble_eq_true rfl) rfl ?_
  refine l_ald rfl rfl ?_
  refine l_ald rfl rfl ?_
  refine l_ild rfl rfl ?_
  refine l_ico (x := nI 1) rfl rfl ?_
  refine l_ibi (v := nI (4 * k + 1)) rfl (nI_add _ _) ?_
  refine l_sld rfl (by omega) ?_
  refine l_call (as := [zR (some q), zI (xs (4 * k + 1))]) (r := []) (mc' := 0) (ms' := 0) rfl (by decide) rfl rfl (Nat.le_of_ble_eq_true rfl) hc hs (rc0 rfl z2) z3 (fun h3 e w => by obtain ⟨_, w, _⟩ := w; cases w) (fun h3 u w => ?_)
  obtain ⟨w, w1, w2, w3, w4, w5⟩ := w
  cases w1
  rcases w2 with ⟨w2, _⟩ | ⟨_, y, w2⟩
  case inl => cases w2
  subst w2
  show lEv 29 B L xs mc ms 734 [some (zR (some B)), some (zR (some (K 0))), some (zR (some q)), some (zR (some po)), some (zI (nI (4 * k))), some (zI (nI co)), o6] [zI y] h3 (c + 6900) (s + 13892)
  refine l_ist (ls' := [some (zR (some B)), some (zR (some (K 0))), some (zR (some q)), some (zR (some po)), some (zI (nI (4 * k))), some (zI (nI co)), some (zI y)]) rfl (Nat.le_of_ble_eq_true rfl) rfl ?_
  have w3 := w3
  obtain ⟨g', A', n', a', b', v', f', r', I'⟩ := w3
  refine l_ald rfl rfl ?_
  refine l_call (as := [zR (some q)]) (r := []) (mc' := 0) (ms' := 0) rfl (by decide) rfl rfl (Nat.le_of_ble_eq_true rfl) hc hs (rc0 rfl I'.2.2.1.1) (lw_thr I') (fun h4 e w => by cases w.2) (fun h4 u w => ?_)
  obtain ⟨w6, w7⟩ := w
  subst w6
  cases w7
  show lEv 29 B L xs mc ms 740 [some (zR (some B)), some (zR (some (K 0))), some (zR (some q)), some (zR (some po)), some (zI (nI (4 * k))), some (zI (nI co)), some (zI y)] [zI (nI co)] h4 (c + 6900) (s + 13892)
  refine l_ild rfl rfl ?_
  refine l_cmp rfl (fun _ => ?_) (fun e => absurd rfl e)
  refine l_ild rfl rfl ?_
  refine l_ifN (by omega) rfl (fun _ => ?_) (fun w8 => ?_)
  · exact l_go rfl (kt _ _ h4 _ ⟨g', A', n', a', b', v', f', r', I'⟩)
  have co0 : co = 0 := Decidable.of_not_not w8
  obtain ⟨⟨fx, x1, x2⟩, x3⟩ := w5 rfl co0
  cases x3
  refine l_ald rfl rfl ?_
  refine l_ico (x := nI 0) rfl rfl ?_
  refine l_lald rfl x1 (by decide) (by decide) ?_
  refine l_ild rfl rfl ?_
  refine l_i2l (v := Int32.toInt64 x) rfl rfl ?_
  refine l_lcm (v := 0) rfl (lg_0.mpr x2) ?_
  exact l_if rfl (fun _ => l_go rfl (kt _ _ h4 _ ⟨g', A', n', a', b', v', f', r', I'⟩)) (fun e => absurd rfl e)
set_option maxRecDepth 20000 in
set_option maxHeartbeats 2000000 in
theorem lc_compare (V : lwV h K q qa po c0) (hk : 4 * k + 4 ≤ L) (hc : c + 6900 ≤ mc) (hs : s + 13892 ≤ ms) (kt : lkt K q qa po B L xs mc ms k c s) : lEv 29 B L xs mc ms 767 [some (zR (some B)), some (zR (some (K 0))), some (zR (some q)), some (zR (some po)), some (zI (nI (4 * k))), o5, o6] [] h c s := by
  obtain ⟨g, A, n, a, b, v, f, r, I⟩ := V
  obtain ⟨fo, hfo⟩ := I.2.2.2.1
  have hX := I.1.1.2.2
  have hn : n ≤ 160 := by obtain ⟨_, _, _, hn, _⟩ := I.1.2.1; exact hn
  refine l_ald rfl rfl ?_
  refine l_ald rfl rfl ?_
  refine l_ild rfl rfl ?_
  refine l_ico (x := nI 1) rfl rfl ?_
  refine l_ibi (v := nI (4 * k + 1)) rfl (nI_add _ _) ?_
  refine l_sld rfl (by omega) ?_
  refine l_ald rfl rfl ?_
  refine l_ild rfl rfl ?_
  refine l_ico (x := nI 2) rfl rfl ?_
  refine l_ibi (v := nI (4 * k + 2)) rfl (nI_add _ _) ?_
  refine l_sld rfl (by omega) ?_
  refine l_ald rfl rfl ?_
  refine l_hcall (as := [zR (some (K 0)), zI (xs (4 * k + 1)), zI (xs (4 * k + 2)), zR (some po)]) (r := []) (mc' := 6900) (ms' := 13892) rfl (by decide) rfl rfl (Nat.le_of_ble_eq_true rfl) hc hs (hp_compare ((xs (4 * k + 1))) ((xs (4 * k + 2))) hX hfo (fun h1 res z => ⟨z.1 po (Or.inr (Or.inl rfl)), z.2.1⟩) (zCall_wid (by omega) (by omega) (ag_compare I ((xs (4 * k + 1))) ((xs (4 * k + 2)))))) (fun h1 e z => hpQ_ne z) (fun h1 u z => ?_)
  obtain ⟨co, x, fs, z1, z2, z3⟩ := lw_help I z
  cases z1
  show lEv 29 B L xs mc ms 784 [some (zR (some B)), some (zR (some (K 0))), some (zR (some q)), some (zR (some po)), some (zI (nI (4 * k))), o5, o6] [zI (nI co)] h1 (c + 6900) (s + 13892)
  refine l_ist (ls' := [some (zR (some B)), some (zR (some (K 0))), some (zR (some q)), some (zR (some po)), some (zI (nI (4 * k))), some (zI (nI co)), o6]) rfl (Nat.le_of_ble_eq_true rfl) rfl ?_
  refine l_ald rfl rfl ?_
  refine l_ald rfl rfl ?_
  refine l_ild rfl rfl ?_
  refine l_ico (x := nI 1) rfl rfl ?_
  refine l_ibi (v := nI (4 * k + 1)) rfl (nI_add _ _) ?_
  refine l_sld rfl (by omega) ?_
  refine l_ald rfl rfl ?_
  refine l_ild rfl rfl ?_
  refine l_ico (x := nI 2) rfl rfl ?_
  refine l_ibi (v := nI (4 * k + 2)) rfl (nI_add _ _) ?_
  refine l_sld rfl (by omega) ?_
  refine l_call (as := [zR (some q), zI (xs (4 * k + 1)), zI (xs (4 * k + 2))]) (r := []) (mc' := 0) (ms' := 0) rfl (by decide) rfl rfl (Nat.le_of_ble_eq_true rfl) hc hs (rc0 rfl z2) z3 (fun h3 e w => by obtain ⟨_, w, _⟩ := w; cases w) (fun h3 u w => ?_)
  obtain ⟨w, w1, w2, w3, w4, w5⟩ := w
  cases w1
  rcases w2 with ⟨w2, _⟩ | ⟨_, y, w2⟩
  case inl => cases w2
  subst w2
  show lEv 29 B L xs mc ms 802 [some (zR (some B)), some (zR (some (K 0))), some (zR (some q)), some (zR (some po)), some (zI (nI (4 * k))), some (zI (nI co)), o6] [zI y] h3 (c + 6900) (s + 13892)
  refine l_ist (ls' := [some (zR (some B)), some (zR (some (K 0))), some (zR (some q)), some (zR (some po)), some (zI (nI (4 * k))), some (zI (nI co)), some (zI y)]) rfl (Nat.le_of_ble_eq_true rfl) rfl ?_
  have w3 := w3
  obtain ⟨g', A', n', a', b', v', f', r', I'⟩ := w3
  refine l_ald rfl rfl ?_
  refine l_call (as := [zR (some q)]) (r := []) (mc' := 0) (ms' := 0) rfl (by decide) rfl rfl (Nat.le_of_ble_eq_true rfl) hc hs (rc0 rfl I'.2.2.1.1) (lw_thr I') (fun h4 e w => by cases w.2) (fun h4 u w => ?_)
  obtain ⟨w6, w7⟩ := w
  subst w6
  cases w7
  show lEv 29 B L xs mc ms 808 [some (zR (some B)), some (zR (some (K 0))), some (zR (some q)), some (zR (some po)), some (zI (nI (4 * k))), some (zI (nI co)), some (zI y)] [zI (nI co)] h4 (c + 6900) (s + 13892)
  refine l_ild rfl rfl ?_
  refine l_cmp rfl (fun _ => ?_) (fun e => absurd rfl e)
  refine l_ild rfl rfl ?_
  refine l_ifN (by omega) rfl (fun _ => ?_) (fun w8 => ?_)
  · exact l_go rfl (kt _ _ h4 _ ⟨g', A', n', a', b', v', f', r', I'⟩)
  have co0 : co = 0 := Decidable.of_not_not w8
  obtain ⟨⟨fx, x1, x2⟩, x3⟩ := w5 rfl co0
  cases x3
  refine l_ald rfl rfl ?_
  refine l_ico (x := nI 0) rfl rfl ?_
  refine l_lald rfl x1 (by decide) (by decide) ?_
  refine l_ild rfl rfl ?_
  refine l_i2l (v := Int32.toInt64 x) rfl rfl ?_
  refine l_lcm (v := 0) rfl (lg_0.mpr x2) ?_
  exact l_if rfl (fun _ => l_go rfl (kt _ _ h4 _ ⟨g', A', n', a', b', v', f', r', I'⟩)) (fun e => absurd rfl e)
set_option maxRecDepth 20000 in
set_option maxHeartbeats 2000000 in
theorem lc_needs (V : lwV h K q qa po c0) (hk : 4 * k + 4 ≤ L) (hc : c + 6900 ≤ mc) (hs : s + 13892 ≤ ms) (kt : lkt K q qa po B L xs mc ms k c s) : lEv 29 B L xs mc ms 835 [some (zR (some B)), some (zR (some (K 0))), some (zR (some q)), some (zR (some po)), some (zI (nI (4 * k))), o5, o6] [] h c s := by
  obtain ⟨g, A, n, a, b, v, f, r, I⟩ := V
  obtain ⟨fo, hfo⟩ := I.2.2.2.1
  have hX := I.1.1.2.2
  have hn : n ≤ 160 := by obtain ⟨_, _, _, hn, _⟩ := I.1.2.1; exact hn
  refine l_ald rfl rfl ?_
  refine l_ald rfl rfl ?_
  refine l_ild rfl rfl ?_
  refine l_ico (x := nI 1) rfl rfl ?_
  refine l_ibi (v := nI (4 * k + 1)) rfl (nI_add _ _) ?_
  refine l_sld rfl (by omega) ?_
  refine l_ald rfl rfl ?_
  refine l_ild rfl rfl ?_
  refine l_ico (x := nI 2) rfl rfl ?_
  refine l_ibi (v := nI (4 * k + 2)) rfl (nI_add _ _) ?_
  refine l_sld rfl (by omega) ?_
  refine l_ald rfl rfl ?_
  refine l_hcall (as := [zR (some (K 0)), zI (xs (4 * k + 1)), zI (xs (4 * k + 2)), zR (some po)]) (r := []) (mc' := 6900) (ms' := 13892) rfl (by decide) rfl rfl (Nat.le_of_ble_eq_true rfl) hc hs (hp_needs ((xs (4 * k + 1))) ((xs (4 * k + 2))) hX hfo (fun h1 res z => ⟨z.1 po (Or.inr (Or.inl rfl)), z.2.1⟩) (zCall_wid (by omega) (by omega) (ag_needs I ((xs (4 * k + 1))) ((xs (4 * k + 2)))))) (fun h1 e z => hpQ_ne z) (fun h1 u z => ?_)
  obtain ⟨co, x, fs, z1, z2, z3⟩ := lw_help I z
  cases z1
  show lEv 29 B L xs mc ms 852 [some (zR (some B)), some (zR (some (K 0))), some (zR (some q)), some (zR (some po)), some (zI (nI (4 * k))), o5, o6] [zI (nI co)] h1 (c + 6900) (s + 13892)
  refine l_ist (ls' := [some (zR (some B)), some (zR (some (K 0))), some (zR (some q)), some (zR (some po)), some (zI (nI (4 * k))), some (zI (nI co)), o6]) rfl (Nat.le_of_ble_eq_true rfl) rfl ?_
  refine l_ald rfl rfl ?_
  refine l_ald rfl rfl ?_
  refine l_ild rfl rfl ?_
  refine l_ico (x := nI 1) rfl rfl ?_
  refine l_ibi (v := nI (4 * k + 1)) rfl (nI_add _ _) ?_
  refine l_sld rfl (by omega) ?_
  refine l_ald rfl rfl ?_
  refine l_ild rfl rfl ?_
  refine l_ico (x := nI 2) rfl rfl ?_
  refine l_ibi (v := nI (4 * k + 2)) rfl (nI_add _ _) ?_
  refine l_sld rfl (by omega) ?_
  refine l_call (as := [zR (some q), zI (xs (4 * k + 1)), zI (xs (4 * k + 2))]) (r := []) (mc' := 0) (ms' := 0) rfl (by decide) rfl rfl (Nat.le_of_ble_eq_true rfl) hc hs (rc0 rfl z2) z3 (fun h3 e w => by obtain ⟨_, w, _⟩ := w; cases w) (fun h3 u w => ?_)
  obtain ⟨w, w1, w2, w3, w4, w5⟩ := w
  cases w1
  rcases w2 with ⟨w2, _⟩ | ⟨_, y, w2⟩
  case inl => cases w2
  subst w2
  show lEv 29 B L xs mc ms 870 [some (zR (some B)), some (zR (some (K 0))), some (zR (some q)), some (zR (some po)), some (zI (nI (4 * k))), some (zI (nI co)), o6] [zI y] h3 (c + 6900) (s + 13892)
  refine l_ist (ls' := [some (zR (some B)), some (zR (some (K 0))), some (zR (some q)), some (zR (some po)), some (zI (nI (4 * k))), some (zI (nI co)), some (zI y)]) rfl (Nat.le_of_ble_eq_true rfl) rfl ?_
  have w3 := w3
  obtain ⟨g', A', n', a', b', v', f', r', I'⟩ := w3
  refine l_ald rfl rfl ?_
  refine l_call (as := [zR (some q)]) (r := []) (mc' := 0) (ms' := 0) rfl (by decide) rfl rfl (Nat.le_of_ble_eq_true rfl) hc hs (rc0 rfl I'.2.2.1.1) (lw_thr I') (fun h4 e w => by cases w.2) (fun h4 u w => ?_)
  obtain ⟨w6, w7⟩ := w
  subst w6
  cases w7
  show lEv 29 B L xs mc ms 876 [some (zR (some B)), some (zR (some (K 0))), some (zR (some q)), some (zR (some po)), some (zI (nI (4 * k))), some (zI (nI co)), some (zI y)] [zI (nI co)] h4 (c + 6900) (s + 13892)
  refine l_ild rfl rfl ?_
  refine l_cmp rfl (fun _ => ?_) (fun e => absurd rfl e)
  refine l_ild rfl rfl ?_
  refine l_ifN (by omega) rfl (fun _ => ?_) (fun w8 => ?_)
  · exact l_go rfl (kt _ _ h4 _ ⟨g', A', n', a', b', v', f', r', I'⟩)
  have co0 : co = 0 := Decidable.of_not_not w8
  obtain ⟨⟨fx, x1, x2⟩, x3⟩ := w5 rfl co0
  cases x3
  refine l_ald rfl rfl ?_
  refine l_ico (x := nI 0) rfl rfl ?_
  refine l_lald rfl x1 (by decide) (by decide) ?_
  refine l_ild rfl rfl ?_
  refine l_i2l (v := Int32.toInt64 x) rfl rfl ?_
  refine l_lcm (v := 0) rfl (lg_0.mpr x2) ?_
  exact l_if rfl (fun _ => l_go rfl (kt _ _ h4 _ ⟨g', A', n', a', b', v', f', r', I'⟩)) (fun e => absurd rfl e)
end
