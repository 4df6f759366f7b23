/-- which options there are: versions, and each package's none -/
def vK (vO : Nat → Prop) (v : Nat) : Prop := ∀ o, vO o → o < v ∨ ∃ q, q < 8 ∧ o = 40 + q
theorem tst_ap {O : Nat → Int64} {x : Int64} {p j : Nat} : tst (x &&& O p) j = true ↔ tst x j = true ∧ tst (O p) j = true := by rw [tst_and, Bool.and_eq_true]
section
variable {K : Nat → Int32} {O C : Nat → Int64} {vO : Nat → Prop} {kp : Nat → Nat} {r : rA} {v p : Nat} {x y fo : Int64} {pin : Option Nat}
theorem fm_some (hsr : srK K O vO kp) (hvk : vK vO v) (hx : okX vO x) (hp : p < 8) (hy : ∀ j, j < 64 → tst y j = true → tst (x &&& O p) j = true) {j : Nat} (hj : j < 64) (t : tst y j = true) : ∃ o, fmO r v y p pin = some o ∧ o < 48 ∧ tst y o = true ∧ vO o ∧ kp o = p := by
  have key : ∃ o, fmO r v y p pin = some o := by
    cases e : fmO r v y p pin with
    | some o => exact ⟨o, rfl⟩
    | none =>
      exfalso
      unfold fmO at e
      split at e
      · cases e
      · rename_i t40
        have a := tst_ap.mp (hy j hj t)
        have b := (hsr.2.1 p hp j hj).mp a.2
        have hm : hmF r y v = none := by
          split at e
          · exact e
          · split at e
            · cases e
            · exact e
        rcases hvk j b.1 with g | ⟨q, hq, g⟩
        · rw [hm_none v hm j g] at t
          cases t
        · have := (hsr.2.2 q hq).2
          rw [← g, b.2] at this
          rw [g, ← this] at t
          exact t40 t
  obtain ⟨o, e⟩ := key
  have to := fm_in e
  have ho : o < 64 := by
    refine Nat.lt_of_not_le (fun g => ?_)
    have : tst y o = false := by
      unfold tst
      exact BitVec.getLsbD_of_ge _ _ g
    rw [this] at to
    cases to
  have a := tst_ap.mp (hy o ho to)
  have b := (hsr.2.1 p hp o ho).mp a.2
  exact ⟨o, e, (hsr.1 o b.1).1, to, b.1, b.2⟩
/-- a choice from a set in which p is settled has that option -/
theorem chs_own (hsr : srK K O vO kp) (hx : okX vO x) {o : Nat} (ho : vO o) (hp : p < 8) {c : Nat → Nat} (k : chs kp (stL O x p o) c) : c p = o := by
  obtain ⟨k1, k2, k3⟩ := k p hp
  rw [tst_stL (by have := (hsr.1 o ho).1; omega) (by omega), Bool.or_eq_true, Bool.and_eq_true] at k3
  rcases k3 with g | g
  · rw [(hsr.2.1 p hp (c p) (by omega)).mpr ⟨hx _ (by omega) g.1, k2⟩] at g
    cases g.2
  · exact of_decide_eq_true g
/-- what was found has just one option of a package -/
theorem fd_own {f : Int64} {c : Nat → Nat} (k : chs kp x c) (hf : ∀ o, o < 64 → (tst f o = true ↔ ∃ p, p < 8 ∧ o = c p)) {o : Nat} (ho : o < 64) (hk : kp o = p) (t : tst f o = true) : c p = o := by
  obtain ⟨q, hq, e⟩ := (hf o ho).mp t
  rw [e, (k q hq).2.1] at hk
  rw [← hk, e]
end
set_option maxHeartbeats 2000000 in
theorem kl_fp {d : Nat} {Q : zQ}  {s pg po pt pc pp pl v p : Nat} {K : Nat → Int32} {O C : Nat → Int64} {vO : Nat → Prop} {kp : Nat → Nat} {x : Int64} {g : zH} {r : rA} {A : Nat → Nat} {pin : Option Nat} (dtc : pt ≠ pc) (dtp : pt ≠ pp) (dcp : pc ≠ pp) (hsr : srK K O vO kp) (hcl : clK C) (hvk : vK vO v) (hx : okX vO x) (hp : p < 8) (hpin : ∀ q, pin = some q → q < 40) (gs : g s = none) (gpp : g pp = none)  : ∀ k, k ≤ 48 → ∀ (h : zH) (y fo : Int64) (T : Nat → Int64) (x8 : Option zV) (hs : h s = some (srO pg po pt pc pp fo)) (hK : h po = some (zaI 1 48 K)) (hO : h pt = some (zaJ 8 O)) (hC : h pc = some (zaJ 48 C)) (hT : h pp = some (zaJ 8 T)) (hr : rgI h g r v pg pl A) (hy : ∀ j, j < 64 → tst y j = true → tst (x &&& O p) j = true) (him : ∀ j, j < 64 → tst (x &&& O p) j = true → tst y j = false → ∀ c, chs kp x c → c p = j → ¬ ncl C c) (hfd : fdO C kp x fo) (hb : cbN y 64 + k ≤ 48) (hQ : ∀ h' f T' o y', h' s = some (srO pg po pt pc pp f) → h' pp = some (zaJ 8 T') → (∀ z, z ≠ s → z ≠ pp → h' z = h z) → fmO r v y' p pin = some o → (o < 48 ∧ vO o ∧ kp o = p ∧ tst x o = true) → (∀ j, j < 64 → tst (x &&& O p) j = true → tst y' j = false → ∀ c, chs kp x c → c p = j → ¬ ncl C c) → (∃ c, chs kp x c ∧ ncl C c ∧ c p = o ∧ ∀ j, j < 64 → (tst f j = true ↔ ∃ q, q < 8 ∧ j = c q)) → Q h' (.inl (some (zI (nI o))))), zEv (2 * 8 + (d + 5)) tb_49 0 0 Q 13 [some (zR (some s)), some (zJ x), none, some (zI (nI p)), some (zI (oI pin)), some (zJ y), none, some (zI (nI k)), x8] [] h 0 0 := by
  refine dn 48 (fun k hk ih h y fo T x8 hs hK hO hC hT hr hy him hfd hb hQ => ?_)
  obtain ⟨c0, f1, f2, f3⟩ := hfd
  obtain ⟨m1, m2, m3⟩ := f1 p hp
  have a0 : tst (x &&& O p) (c0 p) = true := tst_ap.mpr ⟨m3, (hsr.2.1 p hp _ (by omega)).mpr ⟨hx _ (by omega) m3, m2⟩⟩
  have t0 : tst y (c0 p) = true := bt_f (fun z => him _ (by omega) a0 z c0 f1 rfl f2)
  have cp := cb_pos (n := 64) (by omega) t0
  refine z_ild rfl rfl ?_
  refine z_ico (x := (nI 48)) rfl rfl ?_
  refine z_cmpN (by omega) (by omega) rfl (fun h_1 => ?_) (fun h_1 => ?_)
  · replace h_1 : 48 ≤ k := h_1
    refine z_ico (x := (-1)) rfl rfl ?_
    refine z_ret rfl ⟨_, rfl⟩ ?_
    omega
  · replace h_1 := Nat.not_le.mp h_1
    refine z_lld rfl rfl ?_
    refine z_lco (x := 0) rfl rfl ?_
    refine z_lcm (v := lg_cmp y 0) rfl rfl ?_
    refine z_if rfl (fun h_2 => ?_) (fun h_2 => ?_)
    · replace h_2 : (lg_cmp y 0) = 0 := h_2
      refine z_ico (x := (-1)) rfl rfl ?_
      refine z_ret rfl ⟨_, rfl⟩ ?_
      have y0 := lg_0.mp h_2
      rw [y0, tst_0] at t0
      cases t0
    · replace h_2 : ¬ ((lg_cmp y 0) = 0) := h_2
      refine z_ald rfl rfl ?_
      refine z_lld rfl rfl ?_
      refine z_ild rfl rfl ?_
      refine z_ild rfl rfl ?_
      refine z_callF (as := [zR (some s), zJ y, zI (nI p), zI (oI pin)]) (r := []) (v := some (zI (oI (fmO r v y p pin)))) rfl rfl rfl (Nat.le_of_ble_eq_true rfl) (by omega) (by omega) (rc0 rfl hs) (k_X5_foremost hr hs hp hpin) ?_
      refine z_ist (ls' := [some (zR (some s)), some (zJ x), none, some (zI (nI p)), some (zI (oI pin)), some (zJ y), none, some (zI (nI k)), some (zI (oI (fmO r v y p pin)))]) rfl (Nat.le_of_ble_eq_true rfl) rfl ?_
      obtain ⟨o, eo, o48, ot, ov, ok⟩ := fm_some (r := r) (pin := pin) hsr hvk hx hp hy (by omega) t0
      have ox := (tst_ap.mp (hy o (by omega) ot)).1
      rw [eo]
      refine z_ok (ls' := [some (zR (some s)), some (zJ x), none, some (zI (nI p)), some (zI (oI pin)), some (zJ y), none, some (zI (nI k)), some (zI (nI o))]) rfl ?_
      refine z_ild rfl rfl ?_
      refine z_ico (x := (-1)) rfl rfl ?_
      refine z_cmp rfl (fun h_3 => ?_) (fun h_3 => ?_)
      · replace h_3 : ¬ (nI o) = (-1) := h_3
        refine z_ald rfl rfl ?_
        refine z_get rfl hs rfl ?_
        refine z_ild rfl rfl ?_
        refine z_callF (as := [zJ fo, zI (nI o)]) (r := []) (v := some (zI (bI (tst fo o)))) rfl rfl rfl (Nat.le_of_ble_eq_true rfl) (by omega) (by omega) (rc1 rfl) (k_X5_holds (by omega)) ?_
        refine z_ifB1 rfl (fun b_4 => ?_) (fun b_4 => ?_)
        · refine z_ild rfl rfl ?_
          refine z_ret rfl ⟨_, rfl⟩ ?_
          exact hQ _ _ _ o y hs hT (fun _ _ _ => rfl) eo ⟨o48, ov, ok, ox⟩ him ⟨c0, f1, f2, fd_own f1 f3 (by omega) ok b_4, f3⟩
        · refine z_ald rfl rfl ?_
          refine z_ald rfl rfl ?_
          refine z_lld rfl rfl ?_
          refine z_ild rfl rfl ?_
          refine z_ild rfl rfl ?_
          refine z_callF (as := [zR (some s), zJ x, zI (nI p), zI (nI o)]) (r := [zR (some s)]) (v := some (zJ (stL O x p o))) rfl rfl rfl (Nat.le_of_ble_eq_true rfl) (by omega) (by omega) (rc0 rfl hs) (k_X5_settled hs hK hO hC hT dtc dtp dcp (by omega) (by omega)) ?_
          refine z_ico (x := (nI 0)) rfl rfl ?_
          refine z_call (as := [zR (some s), zJ (stL O x p o), zI (nI 0)]) (r := []) (mc' := 0) (ms' := 0) rfl rfl rfl (Nat.le_of_ble_eq_true rfl) (by omega) (by omega) (rc0 rfl hs) (ip_all dtc dtp dcp hsr hcl d 8 (Nat.le_refl _) _ _ _ _ hs hK hO hC hT (st_ok hsr hx ov) (mn_8 8)) (by rintro _ _ (⟨e, _⟩ | ⟨e, _⟩) <;> cases e) ?_
          rintro g_5 _ (⟨e9, f_6, T_7, e_8, e_9, f_10, x_11⟩ | ⟨e9, T_7, e_8, e_9, f_10, x_11⟩) <;> cases e9
          · skip
            have k_12 := (f_10 po (zne hK hs (by nofun)) (zne hK hT (by nofun))).trans hK
            have k_13 := (f_10 pt (zne hO hs (by nofun)) dtp).trans hO
            have k_14 := (f_10 pc (zne hC hs (by nofun)) dcp).trans hC
            refine z_ifN (by omega) rfl (fun h_15 => ?_) (fun h_15 => ?_)
            · replace h_15 : 1 = 0 := h_15
              omega
            · replace h_15 : ¬ (1 = 0) := h_15
              refine z_ild rfl rfl ?_
              refine z_ret rfl ⟨_, rfl⟩ ?_
              obtain ⟨c1, k1, k2, k3⟩ := x_11
              exact hQ _ _ _ o y e_8 e_9 f_10 eo ⟨o48, ov, ok, ox⟩ him ⟨c1, chs_sub (st_sub hsr ov ox) k1, k2, chs_own hsr hx ov hp k1, k3⟩
          · skip
            have k_16 := (f_10 po (zne hK hs (by nofun)) (zne hK hT (by nofun))).trans hK
            have k_17 := (f_10 pt (zne hO hs (by nofun)) dtp).trans hO
            have k_18 := (f_10 pc (zne hC hs (by nofun)) dcp).trans hC
            refine z_ifN (by omega) rfl (fun h_19 => ?_) (fun h_19 => ?_)
            · replace h_19 : 0 = 0 := h_19
              refine z_lld rfl rfl ?_
              refine z_lco (x := 1) rfl rfl ?_
              refine z_ild rfl rfl ?_
              refine z_lsh (v := zlsh 0 1 (nI o)) rfl rfl ?_
              refine z_lco (x := -1) rfl rfl ?_
              refine z_lbi (v := (zlsh 0 1 (nI o)) ^^^ (-1)) rfl rfl ?_
              refine z_lbi (v := y &&& ((zlsh 0 1 (nI o)) ^^^ (-1))) rfl rfl ?_
              refine z_lst (ls' := [some (zR (some s)), some (zJ x), none, some (zI (nI p)), some (zI (oI pin)), some (zJ (y &&& ((zlsh 0 1 (nI o)) ^^^ (-1)))), none, some (zI (nI k)), some (zI (nI o))]) rfl (Nat.le_of_ble_eq_true rfl) rfl ?_
              refine z_inc (x' := (nI (k + 1))) (ls' := [some (zR (some s)), some (zJ x), none, some (zI (nI p)), some (zI (oI pin)), some (zJ (y &&& ((zlsh 0 1 (nI o)) ^^^ (-1)))), none, some (zI (nI (k + 1))), some (zI (nI o))]) rfl rfl (nI_1 _) rfl ?_
              refine z_go rfl ?_
              have y9 : ∀ j, j < 64 → tst (y &&& (zlsh 0 1 (nI o) ^^^ -1)) j = (tst y j && !decide (j = o)) := fun j hj => by rw [tst_and, tst_not _ hj, tst_sh (by omega) hj]
              have s9 : ∀ j, j < 64 → tst (y &&& (zlsh 0 1 (nI o) ^^^ -1)) j = true → tst y j = true := fun j hj t => by rw [y9 j hj, Bool.and_eq_true] at t; exact t.1
              have n9 := cb_lt s9 (fun z => by have := y9 o (by omega); rw [z, ot, decide_eq_true rfl] at this; cases this)
              refine ih (by omega) _ _ _ _ _ e_8 k_16 k_17 k_18 e_9 (rg_fr hr hs hT gs gpp f_10) (fun j hj t => hy j hj (s9 j hj t)) (fun j hj a t c b e => ?_) ⟨c0, f1, f2, f3⟩ (by omega) (fun h' f T' o y' a b q => hQ h' f T' o y' a b (fun z hz hw => (q z hz hw).trans (f_10 z hz hw)))
              rw [y9 j hj] at t
              by_cases z : j = o
              · intro nn
                refine x_11 c ?_ nn
                have := chs_st hsr hx hp b
                rw [e, z] at this
                exact this
              · rw [decide_eq_false z, Bool.not_false, Bool.and_true] at t
                exact him j hj a t c b e
            · replace h_19 : ¬ (0 = 0) := h_19
              omega
      · replace h_3 : (nI o) = (-1) := Decidable.of_not_not h_3
        exact absurd h_3 (nI_ne1 (by omega))
set_option maxHeartbeats 1000000 in
theorem k_X5_firstPossible {d : Nat} {h : zH} {s pg po pt pc pp pl v p : Nat} {K : Nat → Int32} {O C : Nat → Int64} {vO : Nat → Prop} {kp : Nat → Nat} {x : Int64} {g : zH} {r : rA} {A : Nat → Nat} {pin : Option Nat} {fo : Int64} {T : Nat → Int64} (dtc : pt ≠ pc) (dtp : pt ≠ pp) (dcp : pc ≠ pp) (hsr : srK K O vO kp) (hcl : clK C) (hvk : vK vO v) (hx : okX vO x) (hp : p < 8) (hpin : ∀ q, pin = some q → q < 40) (gs : g s = none) (gpp : g pp = none) (hs : h s = some (srO pg po pt pc pp fo)) (hK : h po = some (zaI 1 48 K)) (hO : h pt = some (zaJ 8 O)) (hC : h pc = some (zaJ 48 C)) (hT : h pp = some (zaJ 8 T)) (hr : rgI h g r v pg pl A) (hfd : fdO C kp x fo) : zCall (2 * 8 + (d + 5) + 1) 49 [zR (some s), zJ x, zI (nI p), zI (oI pin)] h 0 0 (fun h' o' => ∃ f T' o y', o' = .inl (some (zI (nI o))) ∧ h' s = some (srO pg po pt pc pp f) ∧ h' pp = some (zaJ 8 T') ∧ (∀ z, z ≠ s → z ≠ pp → h' z = h z) ∧ fmO r v y' p pin = some o ∧ (o < 48 ∧ vO o ∧ kp o = p ∧ tst x o = true) ∧ (∀ j, j < 64 → tst (x &&& O p) j = true → tst y' j = false → ∀ c, chs kp x c → c p = j → ¬ ncl C c) ∧ (∃ c, chs kp x c ∧ ncl C c ∧ c p = o ∧ ∀ j, j < 64 → (tst f j = true ↔ ∃ q, q < 8 ∧ j = c q))) := by
  refine zCall.of (d := 2 * 8 + (d + 5)) (T := tb_49) (L := [some (zR (some s)), some (zJ x), none, some (zI (nI p)), some (zI (oI pin)), none, none, none, none]) (Nat.le_of_ble_eq_true rfl) rfl rfl ?_
  refine z_lld rfl rfl ?_
  refine z_ald rfl rfl ?_
  refine z_get rfl hs rfl ?_
  refine z_ild rfl rfl ?_
  refine z_lald rfl hO (by omega) (by omega) ?_
  refine z_lbi (v := x &&& (O p)) rfl rfl ?_
  refine z_lst (ls' := [some (zR (some s)), some (zJ x), none, some (zI (nI p)), some (zI (oI pin)), some (zJ (x &&& (O p))), none, none, none]) rfl (Nat.le_of_ble_eq_true rfl) rfl ?_
  refine z_ico (x := (nI 0)) rfl rfl ?_
  refine z_ist (ls' := [some (zR (some s)), some (zJ x), none, some (zI (nI p)), some (zI (oI pin)), some (zJ (x &&& (O p))), none, some (zI (nI 0)), none]) rfl (Nat.le_of_ble_eq_true rfl) rfl ?_
  have hxa : okX vO (x &&& O p) := fun j hj t => hx j hj (tst_ap.mp t).1
  have hb := cb_ok hsr hxa
  exact kl_fp (d := d) dtc dtp dcp hsr hcl hvk hx hp hpin gs gpp 0 (by omega) h (x &&& O p) fo T _ hs hK hO hC hT hr (fun j _ t => t) (fun j _ a b => by rw [a] at b; cases b) hfd (by omega) (fun h' f T' o y' a1 a2 a3 a4 a5 a6 a7 => ⟨f, T', o, y', rfl, a1, a2, a3, a4, a5, a6, a7⟩)
