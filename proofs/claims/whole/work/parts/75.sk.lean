/-- c is chosen for the first k packages, each time the foremost that is possible -/
def fiI (r : rA) (v : Nat) (C : Nat → Int64) (kp : Nat → Nat) (x0 : Int64) (pin : Nat → Option Nat) (c : Nat → Nat) (k : Nat) : Prop := ∀ q, q < k → ∃ y, fmO r v y q (pin q) = some (c q) ∧ ∀ c', chs kp x0 c' → ncl C c' → (∀ q', q' < q → c' q' = c q') → tst y (c' q) = true
/-- x is what is left of x0 when the first k packages are settled as c has them -/
def fiX (vO : Nat → Prop) (kp : Nat → Nat) (x0 x : Int64) (c : Nat → Nat) (k : Nat) : Prop := (∀ c', chs kp x0 c' → (∀ q, q < k → c' q = c q) → chs kp x c') ∧ (∀ c', chs kp x c' → chs kp x0 c' ∧ ∀ q, q < k → c' q = c q) ∧ (∀ q, q < k → ∀ j, j < 64 → tst x j = true → kp j = q → j = c q) ∧ okX vO x
theorem fi_0 {vO : Nat → Prop} {kp : Nat → Nat} {x : Int64} {c : Nat → Nat} (hx : okX vO x) : fiX vO kp x x c 0 := ⟨fun _ a _ => a, fun _ a => ⟨a, fun q hq => absurd hq (Nat.not_lt_zero _)⟩, fun q hq => absurd hq (Nat.not_lt_zero _), hx⟩
section
variable {K : Nat → Int32} {O C : Nat → Int64} {vO : Nat → Prop} {kp : Nat → Nat} {r : rA} {v k o : Nat} {x0 x : Int64} {pin : Nat → Option Nat} {c : Nat → Nat}
theorem uN_s (c : Nat → Nat) (k o : Nat) : updN c k o k = o := if_pos rfl
theorem uN_n (c : Nat → Nat) {k o q : Nat} (h : q ≠ k) : updN c k o q = c q := if_neg h
theorem fi_X (hsr : srK K O vO kp) (hk : k < 8) (ho : vO o) (hko : kp o = k) (hxo : tst x o = true) (h : fiX vO kp x0 x c k) : fiX vO kp x0 (stL O x k o) (updN c k o) (k + 1) := by
  obtain ⟨h1, h2, h3, h4⟩ := h
  refine ⟨fun c' a b => ?_, fun c' a => ?_, fun q hq j hj t kj => ?_, st_ok hsr h4 ho⟩
  · have e : c' k = o := by rw [b k (by omega), uN_s]
    have := chs_st hsr h4 hk (h1 c' a (fun q hq => by rw [b q (by omega), uN_n _ (by omega)]))
    rw [e] at this
    exact this
  · have a' := chs_sub (st_sub hsr ho hxo) a
    have e := chs_own hsr h4 ho hk a
    refine ⟨(h2 c' a').1, fun q hq => ?_⟩
    by_cases z : q = k
    · rw [z, uN_s]; exact e
    · rw [uN_n _ z]; exact (h2 c' a').2 q (by omega)
  · rw [tst_stL (by have := (hsr.1 o ho).1; omega) hj, Bool.or_eq_true, Bool.and_eq_true] at t
    by_cases z : q = k
    · rw [z, uN_s]
      rcases t with t | t
      · rw [(hsr.2.1 k hk j hj).mpr ⟨h4 j hj t.1, by rw [kj, z]⟩] at t
        cases t.2
      · exact of_decide_eq_true t
    · rw [uN_n _ z]
      rcases t with t | t
      · exact h3 q (by omega) j hj t.1 kj
      · have e := of_decide_eq_true t
        rw [e, hko] at kj
        exact absurd kj.symm z
theorem fi_I (hsr : srK K O vO kp) (hk : k < 8) {y : Int64} (hX : fiX vO kp x0 x c k) (h : fiI r v C kp x0 pin c k) (hf : fmO r v y k (pin k) = some o) (him : ∀ j, j < 64 → tst (x &&& O k) j = true → tst y j = false → ∀ c, chs kp x c → c k = j → ¬ ncl C c) : fiI r v C kp x0 pin (updN c k o) (k + 1) := by
  intro q hq
  by_cases z : q = k
  · subst z
    refine ⟨y, by rw [uN_s]; exact hf, fun c' a n b => ?_⟩
    have cx := hX.1 c' a (fun q' hq' => by rw [b q' hq', uN_n _ (by omega)])
    obtain ⟨m1, m2, m3⟩ := cx q hk
    refine bt_f (fun t => him (c' q) (by omega) (tst_ap.mpr ⟨m3, (hsr.2.1 q hk _ (by omega)).mpr ⟨hX.2.2.2 _ (by omega) m3, m2⟩⟩) t c' cx rfl n)
  · obtain ⟨y', f1, f2⟩ := h q (by omega)
    exact ⟨y', by rw [uN_n _ z]; exact f1, fun c' a n b => f2 c' a n (fun q' hq' => by rw [b q' hq', uN_n _ (by omega)])⟩
end
set_option maxHeartbeats 2000000 in
theorem kl_fi {d : Nat} {Q : zQ}  {s pg po pt pc pp pl pr pi v : Nat} {K : Nat → Int32} {O C : Nat → Int64} {vO : Nat → Prop} {kp : Nat → Nat} {x0 : Int64} {g : zH} {r : rA} {A : Nat → Nat} {pin : Nat → Option Nat} {fR : Nat → Option Nat} {fP : Nat → Int32} (dtc : pt ≠ pc) (dtp : pt ≠ pp) (dcp : pc ≠ pp) (hsr : srK K O vO kp) (hcl : clK C) (hvk : vK vO v) (hpn : ∀ p, p < 8 → ∀ q, pin p = some q → q < 40) (hpp : ∀ p, p < 8 → fP p = oI (pin p)) (gs : g s = none) (gpp : g pp = none)  : ∀ k, k ≤ 8 → ∀ (h : zH) (x fo : Int64) (T : Nat → Int64) (c : Nat → Nat) (x6 : Option zV) (hs : h s = some (srO pg po pt pc pp fo)) (hK : h po = some (zaI 1 48 K)) (hO : h pt = some (zaJ 8 O)) (hC : h pc = some (zaJ 48 C)) (hT : h pp = some (zaJ 8 T)) (hP : h pi = some (zaI 1 8 fP)) (hr : rgI h g r v pg pl A) (hX : fiX vO kp x0 x c k) (hI : fiI r v C kp x0 pin c k) (hfd : fdO C kp x fo) (hQ : ∀ h' f T' y, h' s = some (srO pg po pt pc pp f) → h' pp = some (zaJ 8 T') → (∀ z, z ≠ s → z ≠ pp → h' z = h z) → (∃ c, chs kp x0 c ∧ ncl C c ∧ fiI r v C kp x0 pin c 8 ∧ ∀ j, j < 64 → (tst y j = true ↔ ∃ p, p < 8 ∧ j = c p)) → Q h' (.inl (some (zJ y)))), zEv (2 * 8 + (d + 5) + 1) tb_47 0 0 Q 21 [some (zR (some s)), some (zR (some pr)), some (zR (some pi)), some (zJ x), none, some (zI (nI k)), x6] [] h 0 0 := by
  refine dn 8 (fun k hk ih h x fo T c x6 hs hK hO hC hT hP hr hX hI hfd hQ => ?_)
  refine z_ild rfl rfl ?_
  refine z_ico (x := (nI 8)) rfl rfl ?_
  refine z_cmpN (by omega) (by omega) rfl (fun h_1 => ?_) (fun h_1 => ?_)
  · replace h_1 : 8 ≤ k := h_1
    refine z_lld rfl rfl ?_
    refine z_ret rfl ⟨_, rfl⟩ ?_
    have e : k = 8 := by omega
    subst e
    obtain ⟨c1, k1, k2, k3⟩ := hfd
    obtain ⟨a1, a2⟩ := hX.2.1 c1 k1
    refine hQ _ _ _ _ hs hT (fun _ _ _ => rfl) ⟨c, fun p hp => ?_, fun p hp q hq => ?_, hI, fun j hj => ⟨fun t => ?_, ?_⟩⟩
    · rw [← a2 p hp]; exact a1 p hp
    · rw [← a2 p hp, ← a2 q hq]; exact k2 p hp q hq
    · have b := hsr.1 j (hX.2.2.2 j hj t)
      exact ⟨kp j, b.2.2, hX.2.2.1 _ b.2.2 j hj t rfl⟩
    · rintro ⟨p, hp, e⟩
      rw [e, ← a2 p hp]; exact (k1 p hp).2.2
  · replace h_1 := Nat.not_le.mp h_1
    refine z_ald rfl rfl ?_
    refine z_lld rfl rfl ?_
    refine z_ild rfl rfl ?_
    refine z_ald rfl rfl ?_
    refine z_ild rfl rfl ?_
    refine z_iald rfl hP (by omega) (by omega) ?_
    refine z_top (v2 := zI (oI (pin k))) (congrArg zI (hpp k (by omega))) ?_
    refine z_call (as := [zR (some s), zJ x, zI (nI k), zI (oI (pin k))]) (r := []) (mc' := 0) (ms' := 0) rfl rfl rfl (Nat.le_of_ble_eq_true rfl) (by omega) (by omega) (rc0 rfl hs) (k_X5_firstPossible (d := d) (pin := pin k) dtc dtp dcp hsr hcl hvk hX.2.2.2 (by omega) (hpn k (by omega)) gs gpp hs hK hO hC hT hr hfd) (by rintro _ _ ⟨_, _, _, _, e, _⟩; cases e) ?_
    rintro g_2 _ ⟨f_3, T_4, o_5, y_6, e9, e_7, e_8, f_9, m_10, w_11, i_12, z_13⟩; cases e9
    · skip
      have k_14 := (f_9 po (zne hK hs (by nofun)) (zne hK hT (by nofun))).trans hK
      have k_15 := (f_9 pt (zne hO hs (by nofun)) dtp).trans hO
      have k_16 := (f_9 pc (zne hC hs (by nofun)) dcp).trans hC
      have k_17 := (f_9 pi (zne hP hs (by nofun)) (zne hP hT (by nofun))).trans hP
      have o_5_a := w_11.1
      refine z_ist (ls' := [some (zR (some s)), some (zR (some pr)), some (zR (some pi)), some (zJ x), none, some (zI (nI k)), some (zI (nI o_5))]) rfl (Nat.le_of_ble_eq_true rfl) rfl ?_
      refine z_ild rfl rfl ?_
      refine z_ico (x := (-1)) rfl rfl ?_
      refine z_cmp rfl (fun h_18 => ?_) (fun h_18 => ?_)
      · replace h_18 : ¬ (nI o_5) = (-1) := h_18
        refine z_ald rfl rfl ?_
        refine z_lld rfl rfl ?_
        refine z_ild rfl rfl ?_
        refine z_ild rfl rfl ?_
        refine z_callF (as := [zR (some s), zJ x, zI (nI k), zI (nI o_5)]) (r := []) (v := some (zJ (stL O x k o_5))) rfl rfl rfl (Nat.le_of_ble_eq_true rfl) (by omega) (by omega) (rc0 rfl e_7) (k_X5_settled e_7 k_14 k_15 k_16 e_8 dtc dtp dcp (by omega) (by omega)) ?_
        refine z_lst (ls' := [some (zR (some s)), some (zR (some pr)), some (zR (some pi)), some (zJ (stL O x k o_5)), none, some (zI (nI k)), some (zI (nI o_5))]) rfl (Nat.le_of_ble_eq_true rfl) rfl ?_
        refine z_inc (x' := (nI (k + 1))) (ls' := [some (zR (some s)), some (zR (some pr)), some (zR (some pi)), some (zJ (stL O x k o_5)), none, some (zI (nI (k + 1))), some (zI (nI o_5))]) rfl rfl (nI_1 _) rfl ?_
        refine z_go rfl ?_
        obtain ⟨c1, k1, k2, k3, k4⟩ := z_13
        have k1x := k1
        have k1s := chs_st hsr hX.2.2.2 (show k < 8 by omega) k1
        rw [k3] at k1s
        exact ih (by omega) _ _ _ _ (updN c k o_5) _ e_7 k_14 k_15 k_16 e_8 k_17 (rg_fr hr hs hT gs gpp f_9) (fi_X hsr (by omega) w_11.2.1 w_11.2.2.1 w_11.2.2.2 hX) (fi_I hsr (by omega) hX hI m_10 i_12) ⟨c1, k1s, k2, k4⟩ (fun h' f T' y a b q => hQ h' f T' y a b (fun z hz hw => (q z hz hw).trans (f_9 z hz hw)))
      · replace h_18 : (nI o_5) = (-1) := Decidable.of_not_not h_18
        exact absurd h_18 (nI_ne1 (by omega))
set_option maxHeartbeats 1000000 in
theorem k_X5_first {d : Nat} {h : zH} {s pg po pt pc pp pl pr pi v : Nat} {K : Nat → Int32} {O C : Nat → Int64} {vO : Nat → Prop} {kp : Nat → Nat} {g : zH} {r : rA} {A : Nat → Nat} {pin : Nat → Option Nat} {fR : Nat → Option Nat} {fP : Nat → Int32} {fo : Int64} {T : Nat → Int64} (dtc : pt ≠ pc) (dtp : pt ≠ pp) (dcp : pc ≠ pp) (hsr : srK K O vO kp) (hcl : clK C) (hvk : vK vO v) (hpn : ∀ p, p < 8 → ∀ q, pin p = some q → q < 40) (hpp : ∀ p, p < 8 → fP p = oI (pin p)) (gs : g s = none) (gpp : g pp = none) (hs : h s = some (srO pg po pt pc pp fo)) (hK : h po = some (zaI 1 48 K)) (hO : h pt = some (zaJ 8 O)) (hC : h pc = some (zaJ 48 C)) (hT : h pp = some (zaJ 8 T)) (hr : rgI h g r v pg pl A) (hR : h pr = some (zaR 5 8 fR)) (hP : h pi = some (zaI 1 8 fP)) (hrt : rtI h r fR) (hpi : ∀ p, p < 8 → fP p = r 21 p) (hx : okX vO (opB r v)) : zCall (2 * 8 + (d + 5) + 2) 47 [zR (some s), zR (some pr), zR (some pi)] h 0 0 (fun h' o' => ∃ f T' y, o' = .inl (some (zJ y)) ∧ h' s = some (srO pg po pt pc pp f) ∧ h' pp = some (zaJ 8 T') ∧ (∀ z, z ≠ s → z ≠ pp → h' z = h z) ∧ ((y = 0 ∧ ∀ c, chs kp (opB r v) c → ¬ ncl C c) ∨ (∃ c, chs kp (opB r v) c ∧ ncl C c ∧ fiI r v C kp (opB r v) pin c 8 ∧ ∀ j, j < 64 → (tst y j = true ↔ ∃ p, p < 8 ∧ j = c p)))) := by
  refine zCall.of (d := 2 * 8 + (d + 5) + 1) (T := tb_47) (L := [some (zR (some s)), some (zR (some pr)), some (zR (some pi)), none, none, none, none]) (Nat.le_of_ble_eq_true rfl) rfl rfl ?_
  refine z_ald rfl rfl ?_
  refine z_ald rfl rfl ?_
  refine z_ald rfl rfl ?_
  refine z_callF (as := [zR (some s), zR (some pr), zR (some pi)]) (r := []) (v := some (zJ (opB r v))) rfl rfl rfl (Nat.le_of_ble_eq_true rfl) (by omega) (by omega) (rc0 rfl hs) (k_X5_openOptions hr hs hR hP hrt hpi) ?_
  refine z_lst (ls' := [some (zR (some s)), some (zR (some pr)), some (zR (some pi)), some (zJ (opB r v)), none, none, none]) rfl (Nat.le_of_ble_eq_true rfl) rfl ?_
  refine z_ald rfl rfl ?_
  refine z_lld rfl rfl ?_
  refine z_ico (x := (nI 0)) rfl rfl ?_
  refine z_call (as := [zR (some s), zJ (opB r v), zI (nI 0)]) (r := []) (mc' := 0) (ms' := 0) rfl rfl rfl (Nat.le_of_ble_eq_true rfl) (by omega) (by omega) (rc0 rfl hs) (ip_all dtc dtp dcp hsr hcl (d + 1) 8 (Nat.le_refl _) _ _ _ _ hs hK hO hC hT hx (mn_8 8)) (by rintro _ _ (⟨e, _⟩ | ⟨e, _⟩) <;> cases e) ?_
  rintro g_1 _ (⟨e9, f_2, T_3, e_4, e_5, f_6, x_7⟩ | ⟨e9, T_3, e_4, e_5, f_6, x_7⟩) <;> cases e9
  · skip
    have k_8 := (f_6 po (zne hK hs (by nofun)) (zne hK hT (by nofun))).trans hK
    have k_9 := (f_6 pt (zne hO hs (by nofun)) dtp).trans hO
    have k_10 := (f_6 pc (zne hC hs (by nofun)) dcp).trans hC
    have k_11 := (f_6 pr (zne hR hs (by nofun)) (zne hR hT (by nofun))).trans hR
    have k_12 := (f_6 pi (zne hP hs (by nofun)) (zne hP hT (by nofun))).trans hP
    refine z_ifN (by omega) rfl (fun h_13 => ?_) (fun h_13 => ?_)
    · replace h_13 : ¬ 1 = 0 := h_13
      refine z_ico (x := (nI 0)) rfl rfl ?_
      refine z_ist (ls' := [some (zR (some s)), some (zR (some pr)), some (zR (some pi)), some (zJ (opB r v)), none, some (zI (nI 0)), none]) rfl (Nat.le_of_ble_eq_true rfl) rfl ?_
      exact kl_fi (d := d) (fR := fR) dtc dtp dcp hsr hcl hvk hpn hpp gs gpp 0 (by omega) _ (opB r v) _ _ (fun _ => 0) _ e_4 k_8 k_9 k_10 e_5 k_12 (rg_fr hr hs hT gs gpp f_6) (fi_0 hx) (fun q hq => absurd hq (Nat.not_lt_zero _)) x_7 (fun h' f T' y a b q w => ⟨f, T', y, rfl, a, b, fun z hz hw => (q z hz hw).trans (f_6 z hz hw), Or.inr w⟩)
    · replace h_13 : 1 = 0 := Decidable.of_not_not h_13
      omega
  · skip
    have k_14 := (f_6 po (zne hK hs (by nofun)) (zne hK hT (by nofun))).trans hK
    have k_15 := (f_6 pt (zne hO hs (by nofun)) dtp).trans hO
    have k_16 := (f_6 pc (zne hC hs (by nofun)) dcp).trans hC
    have k_17 := (f_6 pr (zne hR hs (by nofun)) (zne hR hT (by nofun))).trans hR
    have k_18 := (f_6 pi (zne hP hs (by nofun)) (zne hP hT (by nofun))).trans hP
    refine z_ifN (by omega) rfl (fun h_19 => ?_) (fun h_19 => ?_)
    · replace h_19 : ¬ 0 = 0 := h_19
      omega
    · replace h_19 : 0 = 0 := Decidable.of_not_not h_19
      refine z_lco (x := 0) rfl rfl ?_
      refine z_ret rfl ⟨_, rfl⟩ ?_
      exact ⟨_, _, _, rfl, e_4, e_5, f_6, Or.inl ⟨rfl, x_7⟩⟩
