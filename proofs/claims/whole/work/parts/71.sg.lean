theorem dn_dec2 (k : Nat) : nI k + -1 = (match k with
  | 0 => -1
  | k + 1 => nI k) := by
  cases k with
  | zero => decide +kernel
  | succ k => exact nI_dec k
/-- what isPossible answers -/
def ipQ (s pg po pt pc pp : Nat) (fo : Int64) (C : Nat → Int64) (kp : Nat → Nat) (h : zH) (x : Int64) : zQ := fun h' o => (o = .inl (some (zI (nI 1))) ∧ ∃ f T', h' s = some (srO pg po pt pc pp f) ∧ h' pp = some (zaJ 8 T') ∧ (∀ y, y ≠ s → y ≠ pp → h' y = h y) ∧ fdO C kp x f) ∨ (o = .inl (some (zI (nI 0))) ∧ ∃ T', h' s = some (srO pg po pt pc pp fo) ∧ h' pp = some (zaJ 8 T') ∧ (∀ y, y ≠ s → y ≠ pp → h' y = h y) ∧ ∀ c, chs kp x c → ¬ ncl C c)
def ipP (s pg po pt pc pp : Nat) (K : Nat → Int32) (O C : Nat → Int64) (vO : Nat → Prop) (kp : Nat → Nat) (D e : Nat) : Prop := ∀ (h : zH) (x fo : Int64) (T : Nat → Int64), h s = some (srO pg po pt pc pp fo) → h po = some (zaI 1 48 K) → h pt = some (zaJ 8 O) → h pc = some (zaJ 48 C) → h pp = some (zaJ 8 T) → okX vO x → mnN O x 8 ≤ e → zCall D 52 [zR (some s), zJ x, zI (nI (8 - e))] h 0 0 (ipQ s pg po pt pc pp fo C kp h x)
def dnI (k : Nat) : Int32 := match k with
  | 0 => -1
  | k + 1 => nI k
theorem dn_dec (k : Nat) : nI k + Int32.ofInt (-1) = dnI k := by
  cases k with
  | zero => decide +kernel
  | succ k => exact nI_dec k
theorem chs_sub {kp : Nat → Nat} {x y : Int64} (h : ∀ o, o < 64 → tst y o = true → tst x o = true) {c : Nat → Nat} (k : chs kp y c) : chs kp x c := fun p hp => ⟨(k p hp).1, (k p hp).2.1, h _ (by have := (k p hp).1; omega) (k p hp).2.2⟩
theorem fd_sub {C : Nat → Int64} {kp : Nat → Nat} {x y f : Int64} (h : ∀ o, o < 64 → tst y o = true → tst x o = true) (k : fdO C kp y f) : fdO C kp x f := by
  obtain ⟨c, a, b, d⟩ := k
  exact ⟨c, chs_sub h a, b, d⟩
/-- a choice goes on when one of its options is settled -/
theorem chs_st {K : Nat → Int32} {O : Nat → Int64} {vO : Nat → Prop} {kp : Nat → Nat} (hsr : srK K O vO kp) {y : Int64} (hy : okX vO y) {c : Nat → Nat} {p : Nat} (hp : p < 8) (k : chs kp y c) : chs kp (stL O y p (c p)) c := fun q hq => by
  obtain ⟨k1, k2, k3⟩ := k q hq
  refine ⟨k1, k2, ?_⟩
  rw [tst_stL (by have := (k p hp).1; omega) (by omega)]
  by_cases e : q = p
  · rw [e, decide_eq_true rfl]; exact Bool.or_true _
  · have : tst (O p) (c q) = false := Bool.eq_false_iff.mpr (fun t => e (k2.symm.trans ((hsr.2.1 p hp (c q) (by omega)).mp t).2))
    rw [k3, this]; rfl
theorem oI_none {O : Nat → Int64} {y : Int64} (h : oI (mpF O y 8).1 = -1) : (mpF O y 8).1 = none := by
  cases e : (mpF O y 8).1 with
  | none => rfl
  | some j =>
    rw [e] at h
    have := mp_some e
    exact absurd h (nI_ne1 (by omega))
theorem oI_some {x : Option Nat} (h : ¬ oI x = -1) : ∃ p, x = some p := by
  cases x with
  | none => exact absurd rfl h
  | some j => exact ⟨j, rfl⟩
set_option maxHeartbeats 2000000 in
theorem kl_wo {d : Nat} {Q : zQ} {s pg po pt pc pp : Nat} {fo : Int64} {K : Nat → Int32} {O C : Nat → Int64} {vO : Nat → Prop} {kp : Nat → Nat} {x : Int64} {p e : Nat} (HI : ipP s pg po pt pc pp K O C vO kp (d + 1) e) (dtc : pt ≠ pc) (dtp : pt ≠ pp) (dcp : pc ≠ pp) (hsr : srK K O vO kp) (hx : okX vO x) (hp : p < 8) (h1 : 1 < cbP O x p) (he : mnN O x 8 ≤ e + 1) (he8 : e < 8) : ∀ k, k ≤ 40 → ∀ (h : zH) (T : Nat → Int64) (hs : h s = some (srO pg po pt pc pp fo)) (hK : h po = some (zaI 1 48 K)) (hO : h pt = some (zaJ 8 O)) (hC : h pc = some (zaJ 48 C)) (hT : h pp = some (zaJ 8 T)) (hno : ∀ o, k ≤ o → o < 40 → tst (x &&& O p) o = true → ∀ c, chs kp (stL O x p o) c → ¬ ncl C c) (hQ1 : ∀ h' f T' o, h' s = some (srO pg po pt pc pp f) → h' pp = some (zaJ 8 T') → (∀ y, y ≠ s → y ≠ pp → h' y = h y) → o < 40 → tst (x &&& O p) o = true → fdO C kp (stL O x p o) f → Q h' (.inl (some (zI (nI 1))))) (hQ2 : ∀ h' T', h' s = some (srO pg po pt pc pp fo) → h' pp = some (zaJ 8 T') → (∀ y, y ≠ s → y ≠ pp → h' y = h y) → (∀ o, o < 40 → tst (x &&& O p) o = true → ∀ c, chs kp (stL O x p o) c → ¬ ncl C c) → Q h' (.inl (some (zI (nI 0))))), zEv (d + 1) tb_53 0 0 Q 4 [some (zR (some s)), some (zI (nI p)), some (zJ x), none, some (zI (nI (8 - (e + 1)))), some (zI (dnI k))] [] h 0 0 := by
  intro k
  induction k with
  | zero =>
    intro hk h T hs hK hO hC hT hno hQ1 hQ2
    refine z_ild rfl rfl ?_
    refine z_if rfl (fun h_1 => ?_) (fun h_1 => ?_)
    · replace h_1 : (-1 : Int32) < 0 := h_1
      refine z_ico (x := (nI 0)) rfl rfl ?_
      refine z_ret rfl ⟨_, rfl, Or.inl rfl⟩ ?_
      exact hQ2 h T hs hT (fun _ _ _ => rfl) (fun o ho t => hno o (Nat.zero_le _) ho t)
    · replace h_1 : ¬ ((-1 : Int32) < 0) := h_1
      exact absurd (by decide) h_1
  | succ k ih =>
    intro hk h T hs hK hO hC hT hno hQ1 hQ2
    refine z_ild rfl rfl ?_
    refine z_ifN (by omega) rfl (fun h_1 => ?_) (fun h_1 => ?_)
    · replace h_1 : k < 0 := h_1
      omega
    · replace h_1 := Nat.not_lt.mp h_1
      refine z_lld rfl rfl ?_
      refine z_ald rfl rfl ?_
      refine z_get rfl hs rfl ?_
      refine z_ild rfl rfl ?_
      refine z_lald rfl hO (by omega) (by omega) ?_
      refine z_lbi (v := x &&& (O p)) rfl rfl ?_
      refine z_ild rfl rfl ?_
      refine z_callF (as := [zJ (x &&& (O p)), zI (nI k)]) (r := []) (v := some (zI (bI (tst (x &&& (O p)) k)))) rfl rfl rfl (Nat.le_of_ble_eq_true rfl) (by omega) (by omega) (rc1 rfl) (k_X5_holds (by omega)) ?_
      refine z_ifB0 rfl (fun b_2 => ?_) (fun b_2 => ?_)
      · refine z_inc (x' := ((nI k) + -1)) (ls' := [some (zR (some s)), some (zI (nI p)), some (zJ x), none, some (zI (nI (8 - (e + 1)))), some (zI ((nI k) + -1))]) rfl rfl rfl rfl ?_
        refine z_go rfl ?_
        refine z_ok (ls' := [some (zR (some s)), some (zI (nI p)), some (zJ x), none, some (zI (nI (8 - (e + 1)))), some (zI (dnI k))]) (by rw [show nI k + -1 = dnI k from dn_dec2 k]) ?_
        exact ih (by omega) h T hs hK hO hC hT (fun o ho1 ho2 t => by by_cases z : o = k; (rw [z, b_2] at t; cases t); exact hno o (by omega) ho2 t) hQ1 hQ2
      · have tb := b_2
        rw [tst_and, Bool.and_eq_true] at tb
        have vo := hx k (by omega) tb.1
        have kk := ((hsr.2.1 p hp k (by omega)).mp tb.2).2
        have ms := mn_set hsr hp vo kk h1
        refine z_ald rfl rfl ?_
        refine z_ald rfl rfl ?_
        refine z_lld rfl rfl ?_
        refine z_ild rfl rfl ?_
        refine z_ild rfl rfl ?_
        refine z_callF (as := [zR (some s), zJ x, zI (nI p), zI (nI k)]) (r := [zR (some s)]) (v := some (zJ (stL O x p k))) rfl rfl rfl (Nat.le_of_ble_eq_true rfl) (by omega) (by omega) (rc0 rfl hs) (k_X5_settled hs hK hO hC hT dtc dtp dcp (by omega) (by omega)) ?_
        refine z_ild rfl rfl ?_
        refine z_ico (x := (nI 1)) rfl rfl ?_
        refine z_ibi (v := (nI (8 - (e + 1) + 1))) rfl (nI_add _ _) ?_
        refine z_top (v2 := zI (nI (8 - e))) (congrArg zI (congrArg nI (by omega))) ?_
        refine z_call (as := [zR (some s), zJ (stL O x p k), zI (nI (8 - e))]) (r := []) (mc' := 0) (ms' := 0) rfl rfl rfl (Nat.le_of_ble_eq_true rfl) (by omega) (by omega) (rc0 rfl hs) (HI _ _ _ _ hs hK hO hC hT (st_ok hsr hx vo) (by omega)) (by rintro _ _ (⟨e, _⟩ | ⟨e, _⟩) <;> cases e) ?_
        rintro g_3 _ (⟨e9, f_4, T_5, e_6, e_7, f_8, x_9⟩ | ⟨e9, T_5, e_6, e_7, f_8, x_9⟩) <;> cases e9
        · skip
          have k_10 := (f_8 po (zne hK hs (by nofun)) (zne hK hT (by nofun))).trans hK
          have k_11 := (f_8 pt (zne hO hs (by nofun)) dtp).trans hO
          have k_12 := (f_8 pc (zne hC hs (by nofun)) dcp).trans hC
          refine z_ifN (by omega) rfl (fun h_13 => ?_) (fun h_13 => ?_)
          · replace h_13 : 1 = 0 := h_13
            omega
          · replace h_13 : ¬ (1 = 0) := h_13
            refine z_ico (x := (nI 1)) rfl rfl ?_
            refine z_ret rfl ⟨_, rfl, Or.inr rfl⟩ ?_
            exact hQ1 _ _ _ k e_6 e_7 f_8 (by omega) b_2 x_9
        · skip
          have k_14 := (f_8 po (zne hK hs (by nofun)) (zne hK hT (by nofun))).trans hK
          have k_15 := (f_8 pt (zne hO hs (by nofun)) dtp).trans hO
          have k_16 := (f_8 pc (zne hC hs (by nofun)) dcp).trans hC
          refine z_ifN (by omega) rfl (fun h_17 => ?_) (fun h_17 => ?_)
          · replace h_17 : 0 = 0 := h_17
            refine z_inc (x' := ((nI k) + -1)) (ls' := [some (zR (some s)), some (zI (nI p)), some (zJ x), none, some (zI (nI (8 - (e + 1)))), some (zI ((nI k) + -1))]) rfl rfl rfl rfl ?_
            refine z_go rfl ?_
            refine z_ok (ls' := [some (zR (some s)), some (zI (nI p)), some (zJ x), none, some (zI (nI (8 - (e + 1)))), some (zI (dnI k))]) (by rw [show nI k + -1 = dnI k from dn_dec2 k]) ?_
            exact ih (by omega) _ _ e_6 k_14 k_15 k_16 e_7 (fun o ho1 ho2 t => by by_cases z : o = k; (rw [z]; exact x_9); exact hno o (by omega) ho2 t) (fun h' f T' o a b q => hQ1 h' f T' o a b (fun y hy hz => (q y hy hz).trans (f_8 y hy hz))) (fun h' T' a b q => hQ2 h' T' a b (fun y hy hz => (q y hy hz).trans (f_8 y hy hz)))
          · replace h_17 : ¬ (0 = 0) := h_17
            omega
set_option maxHeartbeats 1000000 in
theorem k_X5_isPossibleWithOneOf {d : Nat} {h : zH} {s pg po pt pc pp : Nat} {fo : Int64} {K : Nat → Int32} {O C : Nat → Int64} {vO : Nat → Prop} {kp : Nat → Nat} {x : Int64} {p e : Nat} {T : Nat → Int64} (HI : ipP s pg po pt pc pp K O C vO kp (d + 1) e) (dtc : pt ≠ pc) (dtp : pt ≠ pp) (dcp : pc ≠ pp) (hsr : srK K O vO kp) (hx : okX vO x) (hp : p < 8) (h1 : 1 < cbP O x p) (he : mnN O x 8 ≤ e + 1) (he8 : e < 8) (hs : h s = some (srO pg po pt pc pp fo)) (hK : h po = some (zaI 1 48 K)) (hO : h pt = some (zaJ 8 O)) (hC : h pc = some (zaJ 48 C)) (hT : h pp = some (zaJ 8 T)) : zCall (d + 2) 53 [zR (some s), zI (nI p), zJ x, zI (nI (8 - (e + 1)))] h 0 0 (fun h' o => (o = .inl (some (zI (nI 1))) ∧ ∃ f T', h' s = some (srO pg po pt pc pp f) ∧ h' pp = some (zaJ 8 T') ∧ (∀ y, y ≠ s → y ≠ pp → h' y = h y) ∧ ∃ o, o < 40 ∧ tst (x &&& O p) o = true ∧ fdO C kp (stL O x p o) f) ∨ (o = .inl (some (zI (nI 0))) ∧ ∃ T', h' s = some (srO pg po pt pc pp fo) ∧ h' pp = some (zaJ 8 T') ∧ (∀ y, y ≠ s → y ≠ pp → h' y = h y) ∧ ∀ o, o < 40 → tst (x &&& O p) o = true → ∀ c, chs kp (stL O x p o) c → ¬ ncl C c)) := by
  refine zCall.of (d := d + 1) (T := tb_53) (L := [some (zR (some s)), some (zI (nI p)), some (zJ x), none, some (zI (nI (8 - (e + 1)))), none]) (Nat.le_of_ble_eq_true rfl) rfl rfl ?_
  refine z_ico (x := (nI 39)) rfl rfl ?_
  refine z_ist (ls' := [some (zR (some s)), some (zI (nI p)), some (zJ x), none, some (zI (nI (8 - (e + 1)))), some (zI (nI 39))]) rfl (Nat.le_of_ble_eq_true rfl) rfl ?_
  exact kl_wo HI dtc dtp dcp hsr hx hp h1 he he8 40 (Nat.le_refl _) h T hs hK hO hC hT (fun o a b => absurd a (by omega)) (fun h' f T' o a b q c1 c2 c3 => Or.inl ⟨rfl, f, T', a, b, q, o, c1, c2, c3⟩) (fun h' T' a b q c1 => Or.inr ⟨rfl, T', a, b, q, c1⟩)
set_option maxHeartbeats 2000000 in
theorem ip_0 {d : Nat} {h : zH} {s pg po pt pc pp : Nat} {fo : Int64} {K : Nat → Int32} {O C : Nat → Int64} {vO : Nat → Prop} {kp : Nat → Nat} {x : Int64} {T : Nat → Int64} (dtc : pt ≠ pc) (dtp : pt ≠ pp) (dcp : pc ≠ pp) (hsr : srK K O vO kp) (hx : okX vO x) (hcl : clK C) (he : mnN O x 8 ≤ 0) (hs : h s = some (srO pg po pt pc pp fo)) (hK : h po = some (zaI 1 48 K)) (hO : h pt = some (zaJ 8 O)) (hC : h pc = some (zaJ 48 C)) (hT : h pp = some (zaJ 8 T)) : zCall (d + 5) 52 [zR (some s), zJ x, zI (nI (8 - 0))] h 0 0 (ipQ s pg po pt pc pp fo C kp h x) := by
  refine zCall.of (d := d + 4) (T := tb_52) (L := [some (zR (some s)), some (zJ x), none, some (zI (nI (8 - 0))), none, none, none]) (Nat.le_of_ble_eq_true rfl) rfl rfl ?_
  refine z_ald rfl rfl ?_
  refine z_lld rfl rfl ?_
  refine z_call (as := [zR (some s), zJ x]) (r := []) (mc' := 0) (ms' := 0) rfl rfl rfl (Nat.le_of_ble_eq_true rfl) (by omega) (by omega) (rc0 rfl hs) (k_X5_narrowed hs hK hO hC hT dtc dtp dcp hsr hx) (by rintro _ _ ⟨_, _, e, _⟩; cases e) ?_
  rintro g_1 _ ⟨y_2, T_3, e9, x_4, e_5, f_6⟩; cases e9
  · skip
    have k_7 := (f_6 s (zne hs hT (by nofun))).trans hs
    have k_8 := (f_6 po (zne hK hT (by nofun))).trans hK
    have k_9 := (f_6 pt dtp).trans hO
    have k_10 := (f_6 pc dcp).trans hC
    refine z_lst (ls' := [some (zR (some s)), some (zJ x), none, some (zI (nI (8 - 0))), some (zJ y_2), none, none]) rfl (Nat.le_of_ble_eq_true rfl) rfl ?_
    refine z_lld rfl rfl ?_
    refine z_lco (x := 0) rfl rfl ?_
    refine z_lcm (v := lg_cmp y_2 0) rfl rfl ?_
    refine z_if rfl (fun h_11 => ?_) (fun h_11 => ?_)
    · replace h_11 : (lg_cmp y_2 0) = 0 := h_11
      refine z_ico (x := (nI 0)) rfl rfl ?_
      refine z_ret rfl ⟨_, rfl, Or.inl rfl⟩ ?_
      have y0 := lg_0.mp h_11
      refine Or.inr ⟨rfl, _, k_7, e_5, fun y hy hz => f_6 y hz, fun c a b => ?_⟩
      have t := (x_4.2.2 c a b 0 (by omega)).2.2
      rw [y0, tst_0] at t
      cases t
    · replace h_11 : ¬ ((lg_cmp y_2 0) = 0) := h_11
      refine z_ild rfl rfl ?_
      refine z_ico (x := (nI 8)) rfl rfl ?_
      refine z_cmpN (by omega) (by omega) rfl (fun h_12 => ?_) (fun h_12 => ?_)
      · replace h_12 : 8 - 0 ≤ 8 := h_12
        refine z_ald rfl rfl ?_
        refine z_lld rfl rfl ?_
        refine z_callF (as := [zR (some s), zJ y_2]) (r := []) (v := some (zI (oI (mpF O y_2 8).1))) rfl rfl rfl (Nat.le_of_ble_eq_true rfl) (by omega) (by omega) (rc0 rfl k_7) (k_X5_mostPressing k_7 k_9) ?_
        refine z_ist (ls' := [some (zR (some s)), some (zJ x), none, some (zI (nI (8 - 0))), some (zJ y_2), none, some (zI (oI (mpF O y_2 8).1))]) rfl (Nat.le_of_ble_eq_true rfl) rfl ?_
        have hy : okX vO y_2 := fun o ho t => hx o ho (x_4.1 o ho t)
        have mns := mn_sub (O := O) x_4.1 8
        refine z_ild rfl rfl ?_
        refine z_ico (x := (-1)) rfl rfl ?_
        refine z_cmp rfl (fun h_13 => ?_) (fun h_13 => ?_)
        · replace h_13 : ¬ (oI (mpF O y_2 8).1) = (-1) := h_13
          obtain ⟨pq, hpq⟩ := oI_some h_13
          have mp := mp_some hpq
          have mpos := mn_pos mp.1 mp.2.1
          omega
        · replace h_13 : (oI (mpF O y_2 8).1) = (-1) := Decidable.of_not_not h_13
          have hmn : (mpF O y_2 8).1 = none := oI_none h_13
          refine z_ald rfl rfl ?_
          refine z_ald rfl rfl ?_
          refine z_lld rfl rfl ?_
          refine z_callF (as := [zR (some s), zJ y_2]) (r := [zR (some s)]) (v := some (zJ (wnF O y_2 8))) rfl rfl rfl (Nat.le_of_ble_eq_true rfl) (by omega) (by omega) (rc0 rfl k_7) (k_X5_withNoneWherePossible k_7 k_8 k_9 k_10 e_5 dtc dtp dcp) ?_
          refine z_put (e := zO 5 [zR (some pg), zR (some po), zR (some pt), zR (some pc), zR (some pp), zJ (wnF O y_2 8)]) rfl k_7 (Nat.le_of_ble_eq_true rfl) ⟨_, rfl⟩ rfl ?_
          intro g_14 e_15 f_16
          have k_17 := (f_16 po (zne k_8 k_7 (by nofun))).trans k_8
          have k_18 := (f_16 pt (zne k_9 k_7 (by nofun))).trans k_9
          have k_19 := (f_16 pc (zne k_10 k_7 (by nofun))).trans k_10
          have k_20 := (f_16 pp (zne e_5 k_7 (by nofun))).trans e_5
          refine z_ico (x := (nI 1)) rfl rfl ?_
          refine z_ret rfl ⟨_, rfl, Or.inr rfl⟩ ?_
          exact Or.inl ⟨rfl, _, _, e_15, k_20, fun y hy hz => (f_16 y hy).trans (f_6 y hz), wn_ok hsr hcl hx x_4 (fun z => h_11 (lg_0.mpr z)) hmn⟩
      · replace h_12 := Nat.not_le.mp h_12
        omega
set_option maxHeartbeats 2000000 in
theorem ip_s {d : Nat} {h : zH} {s pg po pt pc pp : Nat} {fo : Int64} {K : Nat → Int32} {O C : Nat → Int64} {vO : Nat → Prop} {kp : Nat → Nat} {x : Int64} {e : Nat} {T : Nat → Int64} (HI : ipP s pg po pt pc pp K O C vO kp (d + 3) e) (dtc : pt ≠ pc) (dtp : pt ≠ pp) (dcp : pc ≠ pp) (hsr : srK K O vO kp) (hx : okX vO x) (hcl : clK C) (he : mnN O x 8 ≤ e + 1) (he8 : e < 8) (hs : h s = some (srO pg po pt pc pp fo)) (hK : h po = some (zaI 1 48 K)) (hO : h pt = some (zaJ 8 O)) (hC : h pc = some (zaJ 48 C)) (hT : h pp = some (zaJ 8 T)) : zCall (d + 5) 52 [zR (some s), zJ x, zI (nI (8 - (e + 1)))] h 0 0 (ipQ s pg po pt pc pp fo C kp h x) := by
  refine zCall.of (d := d + 4) (T := tb_52) (L := [some (zR (some s)), some (zJ x), none, some (zI (nI (8 - (e + 1)))), none, none, none]) (Nat.le_of_ble_eq_true rfl) rfl rfl ?_
  refine z_ald rfl rfl ?_
  refine z_lld rfl rfl ?_
  refine z_call (as := [zR (some s), zJ x]) (r := []) (mc' := 0) (ms' := 0) rfl rfl rfl (Nat.le_of_ble_eq_true rfl) (by omega) (by omega) (rc0 rfl hs) (k_X5_narrowed hs hK hO hC hT dtc dtp dcp hsr hx) (by rintro _ _ ⟨_, _, e, _⟩; cases e) ?_
  rintro g_1 _ ⟨y_2, T_3, e9, x_4, e_5, f_6⟩; cases e9
  · skip
    have k_7 := (f_6 s (zne hs hT (by nofun))).trans hs
    have k_8 := (f_6 po (zne hK hT (by nofun))).trans hK
    have k_9 := (f_6 pt dtp).trans hO
    have k_10 := (f_6 pc dcp).trans hC
    refine z_lst (ls' := [some (zR (some s)), some (zJ x), none, some (zI (nI (8 - (e + 1)))), some (zJ y_2), none, none]) rfl (Nat.le_of_ble_eq_true rfl) rfl ?_
    refine z_lld rfl rfl ?_
    refine z_lco (x := 0) rfl rfl ?_
    refine z_lcm (v := lg_cmp y_2 0) rfl rfl ?_
    refine z_if rfl (fun h_11 => ?_) (fun h_11 => ?_)
    · replace h_11 : (lg_cmp y_2 0) = 0 := h_11
      refine z_ico (x := (nI 0)) rfl rfl ?_
      refine z_ret rfl ⟨_, rfl, Or.inl rfl⟩ ?_
      have y0 := lg_0.mp h_11
      refine Or.inr ⟨rfl, _, k_7, e_5, fun y hy hz => f_6 y hz, fun c a b => ?_⟩
      have t := (x_4.2.2 c a b 0 (by omega)).2.2
      rw [y0, tst_0] at t
      cases t
    · replace h_11 : ¬ ((lg_cmp y_2 0) = 0) := h_11
      refine z_ild rfl rfl ?_
      refine z_ico (x := (nI 8)) rfl rfl ?_
      refine z_cmpN (by omega) (by omega) rfl (fun h_12 => ?_) (fun h_12 => ?_)
      · replace h_12 : 8 - (e + 1) ≤ 8 := h_12
        refine z_ald rfl rfl ?_
        refine z_lld rfl rfl ?_
        refine z_callF (as := [zR (some s), zJ y_2]) (r := []) (v := some (zI (oI (mpF O y_2 8).1))) rfl rfl rfl (Nat.le_of_ble_eq_true rfl) (by omega) (by omega) (rc0 rfl k_7) (k_X5_mostPressing k_7 k_9) ?_
        refine z_ist (ls' := [some (zR (some s)), some (zJ x), none, some (zI (nI (8 - (e + 1)))), some (zJ y_2), none, some (zI (oI (mpF O y_2 8).1))]) rfl (Nat.le_of_ble_eq_true rfl) rfl ?_
        have hy : okX vO y_2 := fun o ho t => hx o ho (x_4.1 o ho t)
        have mns := mn_sub (O := O) x_4.1 8
        refine z_ild rfl rfl ?_
        refine z_ico (x := (-1)) rfl rfl ?_
        refine z_cmp rfl (fun h_13 => ?_) (fun h_13 => ?_)
        · replace h_13 : ¬ (oI (mpF O y_2 8).1) = (-1) := h_13
          obtain ⟨pq, hpq⟩ := oI_some h_13
          have mp := mp_some hpq
          have mpos := mn_pos mp.1 mp.2.1
          rw [hpq]
          refine z_ok (ls' := [some (zR (some s)), some (zJ x), none, some (zI (nI (8 - (e + 1)))), some (zJ y_2), none, some (zI (nI pq))]) rfl ?_
          refine z_ald rfl rfl ?_
          refine z_ild rfl rfl ?_
          refine z_lld rfl rfl ?_
          refine z_ild rfl rfl ?_
          refine z_call (as := [zR (some s), zI (nI pq), zJ y_2, zI (nI (8 - (e + 1)))]) (r := []) (mc' := 0) (ms' := 0) rfl rfl rfl (Nat.le_of_ble_eq_true rfl) (by omega) (by omega) (rc0 rfl k_7) (k_X5_isPossibleWithOneOf HI dtc dtp dcp hsr hy mp.1 mp.2.1 (by omega) (by omega) k_7 k_8 k_9 k_10 e_5) (by rintro _ _ (⟨e, _⟩ | ⟨e, _⟩) <;> cases e) ?_
          rintro g_14 _ (⟨e9, f_15, T_16, e_17, e_18, f_19, o_21, l_22, t_23, x_20⟩ | ⟨e9, T_16, e_17, e_18, f_19, x_20⟩) <;> cases e9
          · skip
            have k_24 := (f_19 po (zne k_8 k_7 (by nofun)) (zne k_8 e_5 (by nofun))).trans k_8
            have k_25 := (f_19 pt (zne k_9 k_7 (by nofun)) dtp).trans k_9
            have k_26 := (f_19 pc (zne k_10 k_7 (by nofun)) dcp).trans k_10
            refine z_ret rfl ⟨_, rfl, Or.inr rfl⟩ ?_
            have t9 := t_23
            rw [tst_and, Bool.and_eq_true] at t9
            exact Or.inl ⟨rfl, _, _, e_17, e_18, fun y hy hz => (f_19 y hy hz).trans (f_6 y hz), fd_sub x_4.1 (fd_sub (st_sub hsr (hy _ (by omega) t9.1) t9.1) x_20)⟩
          · skip
            have k_27 := (f_19 po (zne k_8 k_7 (by nofun)) (zne k_8 e_5 (by nofun))).trans k_8
            have k_28 := (f_19 pt (zne k_9 k_7 (by nofun)) dtp).trans k_9
            have k_29 := (f_19 pc (zne k_10 k_7 (by nofun)) dcp).trans k_10
            refine z_ret rfl ⟨_, rfl, Or.inl rfl⟩ ?_
            refine Or.inr ⟨rfl, _, e_17, e_18, fun y hy hz => (f_19 y hy hz).trans (f_6 y hz), fun c a b => ?_⟩
            have ca := x_4.2.2 c a b
            obtain ⟨k1, k2, k3⟩ := ca pq mp.1
            have vo := hy _ (by omega) k3
            have nn : ¬ 40 ≤ c pq := fun z => by
              obtain ⟨j, ej⟩ : ∃ j, c pq = 40 + j := ⟨c pq - 40, by omega⟩
              have kj := (hsr.2.2 j (by omega)).2
              rw [← ej, k2] at kj
              rw [ej, ← kj, mp.2.2] at k3
              cases k3
            exact x_20 (c pq) (by omega) (by rw [tst_and, k3, (hsr.2.1 pq mp.1 (c pq) (by omega)).mpr ⟨vo, k2⟩]; rfl) c (chs_st hsr hy mp.1 ca) b
        · replace h_13 : (oI (mpF O y_2 8).1) = (-1) := Decidable.of_not_not h_13
          have hmn : (mpF O y_2 8).1 = none := oI_none h_13
          refine z_ald rfl rfl ?_
          refine z_ald rfl rfl ?_
          refine z_lld rfl rfl ?_
          refine z_callF (as := [zR (some s), zJ y_2]) (r := [zR (some s)]) (v := some (zJ (wnF O y_2 8))) rfl rfl rfl (Nat.le_of_ble_eq_true rfl) (by omega) (by omega) (rc0 rfl k_7) (k_X5_withNoneWherePossible k_7 k_8 k_9 k_10 e_5 dtc dtp dcp) ?_
          refine z_put (e := zO 5 [zR (some pg), zR (some po), zR (some pt), zR (some pc), zR (some pp), zJ (wnF O y_2 8)]) rfl k_7 (Nat.le_of_ble_eq_true rfl) ⟨_, rfl⟩ rfl ?_
          intro g_30 e_31 f_32
          have k_33 := (f_32 po (zne k_8 k_7 (by nofun))).trans k_8
          have k_34 := (f_32 pt (zne k_9 k_7 (by nofun))).trans k_9
          have k_35 := (f_32 pc (zne k_10 k_7 (by nofun))).trans k_10
          have k_36 := (f_32 pp (zne e_5 k_7 (by nofun))).trans e_5
          refine z_ico (x := (nI 1)) rfl rfl ?_
          refine z_ret rfl ⟨_, rfl, Or.inr rfl⟩ ?_
          exact Or.inl ⟨rfl, _, _, e_31, k_36, fun y hy hz => (f_32 y hy).trans (f_6 y hz), wn_ok hsr hcl hx x_4 (fun z => h_11 (lg_0.mpr z)) hmn⟩
      · replace h_12 := Nat.not_le.mp h_12
        omega
theorem ip_all {s pg po pt pc pp : Nat} {K : Nat → Int32} {O C : Nat → Int64} {vO : Nat → Prop} {kp : Nat → Nat} (dtc : pt ≠ pc) (dtp : pt ≠ pp) (dcp : pc ≠ pp) (hsr : srK K O vO kp) (hcl : clK C) (d : Nat) : ∀ e, e ≤ 8 → ipP s pg po pt pc pp K O C vO kp (2 * e + (d + 5)) e
  | 0, _ => fun h x fo T hs hK hO hC hT hx hm => ip_0 dtc dtp dcp hsr hx hcl hm hs hK hO hC hT
  | e + 1, he => fun h x fo T hs hK hO hC hT hx hm => by
    have IH := ip_all (s := s) (pg := pg) (po := po) dtc dtp dcp hsr hcl d e (by omega)
    rw [show 2 * e + (d + 5) = (2 * e + d + 2) + 3 by omega] at IH
    rw [show 2 * (e + 1) + (d + 5) = (2 * e + d + 2) + 5 by omega]
    exact ip_s IH dtc dtp dcp hsr hx hcl hm (by omega) hs hK hO hC hT
