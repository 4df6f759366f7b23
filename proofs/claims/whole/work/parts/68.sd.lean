/-- the tables of a search: which options there are (vO), and of which package (kp) -/
def srK (K : Nat → Int32) (O : Nat → Int64) (vO : Nat → Prop) (kp : Nat → Nat) : Prop := (∀ o, vO o → o < 48 ∧ K o = nI (kp o) ∧ kp o < 8) ∧ (∀ p, p < 8 → ∀ o, o < 64 → (tst (O p) o = true ↔ vO o ∧ kp o = p)) ∧ (∀ p, p < 8 → vO (40 + p) ∧ kp (40 + p) = p)
def okX (vO : Nat → Prop) (x : Int64) : Prop := ∀ o, o < 64 → tst x o = true → vO o
def gpF (x : Int64) (C T : Nat → Int64) (kp : Nat → Nat) : Nat → Nat → Int64
  | 0 => upToL T 0 8
  | k + 1 => if tst x k = true then vp_updL (gpF x C T kp k) (kp k) (gpF x C T kp k (kp k) ||| (C k ^^^ -1)) else gpF x C T kp k
theorem gpF_iff {x : Int64} {C T : Nat → Int64} {kp : Nat → Nat} {p o : Nat} (hp : p < 8) (ho : o < 64) : ∀ k, tst (gpF x C T kp k p) o = true ↔ ∃ a, a < k ∧ tst x a = true ∧ kp a = p ∧ tst (C a) o = false
  | 0 => by
    rw [gpF, upToL, if_pos hp, tst_0]
    exact ⟨fun h => (by cases h), fun ⟨a, h, _⟩ => absurd h (Nat.not_lt_zero _)⟩
  | k + 1 => by
    have ih := gpF_iff (x := x) (C := C) (T := T) (kp := kp) hp ho k
    rw [gpF]
    by_cases t : tst x k = true
    · rw [if_pos t]
      by_cases e : kp k = p
      · have u : vp_updL (gpF x C T kp k) (kp k) (gpF x C T kp k (kp k) ||| (C k ^^^ -1)) p = gpF x C T kp k p ||| (C k ^^^ -1) := by rw [e]; simp [vp_updL]
        rw [u, tst_or, tst_not _ ho]
        constructor
        · intro g
          rcases (Bool.or_eq_true _ _).mp g with g | g
          · obtain ⟨a, h1, h2⟩ := ih.mp g
            exact ⟨a, by omega, h2⟩
          · exact ⟨k, by omega, t, e, by simpa using g⟩
        · intro ⟨a, h1, h2, h3, h4⟩
          by_cases ak : a = k
          · rw [ak] at h4
            rw [h4]; exact Bool.or_true _
          · rw [ih.mpr ⟨a, by omega, h2, h3, h4⟩]; rfl
      · have u : vp_updL (gpF x C T kp k) (kp k) (gpF x C T kp k (kp k) ||| (C k ^^^ -1)) p = gpF x C T kp k p := by
          simp [vp_updL]
          intro g
          exact absurd g.symm e
        rw [u, ih]
        constructor
        · exact fun ⟨a, h1, h2⟩ => ⟨a, by omega, h2⟩
        · exact fun ⟨a, h1, h2, h3, h4⟩ => ⟨a, by
            have : a ≠ k := fun z => e (z ▸ h3)
            omega, h2, h3, h4⟩
    · rw [if_neg t, ih]
      constructor
      · exact fun ⟨a, h1, h2⟩ => ⟨a, by omega, h2⟩
      · exact fun ⟨a, h1, h2, h3, h4⟩ => ⟨a, by
          have : a ≠ k := fun z => t (z ▸ h2)
          omega, h2, h3, h4⟩
def anF (T : Nat → Int64) (y : Int64) : Nat → Int64
  | 0 => y
  | p + 1 => anF T y p &&& T p
theorem anF_iff {T : Nat → Int64} {y : Int64} {o : Nat} : ∀ k, tst (anF T y k) o = true ↔ tst y o = true ∧ ∀ p, p < k → tst (T p) o = true
  | 0 => ⟨fun h => ⟨h, fun p hp => absurd hp (Nat.not_lt_zero _)⟩, fun h => h.1⟩
  | k + 1 => by
    rw [anF, tst_and, Bool.and_eq_true, anF_iff k]
    constructor
    · exact fun ⟨⟨a, b⟩, c⟩ => ⟨a, fun p hp => by by_cases e : p = k; (rw [e]; exact c); exact b p (by omega)⟩
    · exact fun ⟨a, b⟩ => ⟨⟨a, fun p hp => b p (by omega)⟩, b k (by omega)⟩
/-- a choice of options from x, one for each package -/
def chs (kp : Nat → Nat) (x : Int64) (c : Nat → Nat) : Prop := ∀ p, p < 8 → c p < 48 ∧ kp (c p) = p ∧ tst x (c p) = true
/-- none of which clash -/
def ncl (C : Nat → Int64) (c : Nat → Nat) : Prop := ∀ p, p < 8 → ∀ q, q < 8 → tst (C (c p)) (c q) = false
/-- y is what narrowing leaves of x -/
def narO (C : Nat → Int64) (kp : Nat → Nat) (x y : Int64) : Prop := (∀ o, o < 64 → tst y o = true → tst x o = true) ∧ (∀ o, o < 64 → tst y o = true → ∀ p, p < 8 → ∃ a, a < 48 ∧ tst y a = true ∧ kp a = p ∧ tst (C a) o = false) ∧ ∀ c, chs kp x c → ncl C c → chs kp y c
theorem nar_step {C T : Nat → Int64} {kp : Nat → Nat} {y : Int64} {c : Nat → Nat} (hc : chs kp y c) (hn : ncl C c) : chs kp (anF (gpF y C T kp 48) y 8) c := fun p hp => by
  obtain ⟨h1, h2, h3⟩ := hc p hp
  refine ⟨h1, h2, (anF_iff 8).mpr ⟨h3, fun q hq => (gpF_iff hq (by omega) 48).mpr ?_⟩⟩
  obtain ⟨k1, k2, k3⟩ := hc q hq
  exact ⟨c q, k1, k3, k2, hn q hq p hp⟩
theorem nar_fix {C T : Nat → Int64} {kp : Nat → Nat} {y : Int64} (he : anF (gpF y C T kp 48) y 8 = y) {o : Nat} (ho : o < 64) (ht : tst y o = true) {p : Nat} (hp : p < 8) : ∃ a, a < 48 ∧ tst y a = true ∧ kp a = p ∧ tst (C a) o = false := by
  rw [← he] at ht
  exact (gpF_iff hp ho 48).mp (((anF_iff 8).mp ht).2 p hp)
theorem cb_ok {vO : Nat → Prop} {K : Nat → Int32} {O : Nat → Int64} {kp : Nat → Nat} (hsr : srK K O vO kp) {x : Int64} (hx : okX vO x) : cbN x 64 ≤ 48 := by
  rw [cb_48 (fun o h1 h2 => Bool.eq_false_iff.mpr (fun t => by have := (hsr.1 o (hx o h2 t)).1; omega))]
  exact cb_le x 48
set_option maxHeartbeats 1000000 in
theorem kl_gp {d : Nat} {Q : zQ}  {s pg po pt pc pp : Nat} {fo : Int64} {K : Nat → Int32} {O C T : Nat → Int64} {x : Int64} {kp : Nat → Nat} {vO : Nat → Prop} (dtc : pt ≠ pc) (dtp : pt ≠ pp) (dcp : pc ≠ pp) (hsr : srK K O vO kp) (hx : okX vO x)  : ∀ k, k ≤ 48 → ∀ (h : zH) (hs : h s = some (srO pg po pt pc pp fo)) (hK : h po = some (zaI 1 48 K)) (hO : h pt = some (zaJ 8 O)) (hC : h pc = some (zaJ 48 C)) (hT2 : h pp = some (zaJ 8 (gpF x C T kp k))) (hQ : ∀ h', h' pp = some (zaJ 8 (gpF x C T kp 48)) → (∀ y, y ≠ pp → h' y = h y) → Q h' (.inl none)), zEv (d + 1) tb_55 0 0 Q 10 [some (zR (some s)), some (zJ x), none, some (zI (nI k))] [] h 0 0 := by
  refine dn 48 (fun k hk ih h hs hK hO hC hT2 hQ => ?_)
  refine z_ild rfl rfl ?_
  refine z_ico (x := (nI 48)) rfl rfl ?_
  refine z_cmpN (by omega) (by omega) rfl (fun h_1 => ?_) (fun h_1 => ?_)
  · replace h_1 : 48 ≤ k := h_1
    refine z_rtv rfl ?_
    have e : k = 48 := by omega
    subst e
    exact hQ _ hT2 (fun _ _ => rfl)
  · replace h_1 := Nat.not_le.mp h_1
    refine z_lld rfl rfl ?_
    refine z_ild rfl rfl ?_
    refine z_callF (as := [zJ x, zI (nI k)]) (r := []) (v := some (zI (bI (tst x k)))) rfl rfl rfl (Nat.le_of_ble_eq_true rfl) (by omega) (by omega) (rc1 rfl) (k_X5_holds (by omega)) ?_
    refine z_ifB0 rfl (fun b_2 => ?_) (fun b_2 => ?_)
    · refine z_inc (x' := (nI (k + 1))) (ls' := [some (zR (some s)), some (zJ x), none, some (zI (nI (k + 1)))]) rfl rfl (nI_1 _) rfl ?_
      refine z_go rfl ?_
      have h9 : gpF x C T kp (k + 1) = gpF x C T kp k := by rw [gpF, if_neg (by rw [b_2]; nofun)]
      exact ih (by omega) _ hs hK hO hC (by rw [h9]; exact hT2) hQ
    · obtain ⟨_, ek, hk8⟩ := hsr.1 k (hx k (by omega) b_2)
      refine z_ald rfl rfl ?_
      refine z_get rfl hs rfl ?_
      refine z_ald rfl rfl ?_
      refine z_get rfl hs rfl ?_
      refine z_ild rfl rfl ?_
      refine z_iald rfl hK (by omega) (by omega) ?_
      refine z_top (v2 := zI (nI (kp k))) (congrArg zI ek) ?_
      refine z_dup2 rfl rfl rfl ?_
      refine z_lald rfl hT2 (by omega) (by omega) ?_
      refine z_ald rfl rfl ?_
      refine z_get rfl hs rfl ?_
      refine z_ild rfl rfl ?_
      refine z_lald rfl hC (by omega) (by omega) ?_
      refine z_lco (x := -1) rfl rfl ?_
      refine z_lbi (v := (C k) ^^^ (-1)) rfl rfl ?_
      refine z_lbi (v := ((gpF x C T kp k) (kp k)) ||| ((C k) ^^^ (-1))) rfl rfl ?_
      refine z_last rfl hT2 (by omega) (by omega) ?_
      intro g_3 e_4 f_5
      have k_6 := (f_5 s (zne hs hT2 (by nofun))).trans hs
      have k_7 := (f_5 po (zne hK hT2 (by nofun))).trans hK
      have k_8 := (f_5 pt dtp).trans hO
      have k_9 := (f_5 pc dcp).trans hC
      refine z_inc (x' := (nI (k + 1))) (ls' := [some (zR (some s)), some (zJ x), none, some (zI (nI (k + 1)))]) rfl rfl (nI_1 _) rfl ?_
      refine z_go rfl ?_
      have h9 : gpF x C T kp (k + 1) = vp_updL (gpF x C T kp k) (kp k) (gpF x C T kp k (kp k) ||| (C k ^^^ -1)) := by rw [gpF, if_pos b_2]
      exact ih (by omega) _ k_6 k_7 k_8 k_9 (by rw [h9]; exact e_4) (fun h' e f => hQ h' e (fun y hy => (f y hy).trans (f_5 y hy)))
set_option maxHeartbeats 1000000 in
theorem k_X5_gatherPartners {d : Nat} {h : zH} {s pg po pt pc pp : Nat} {fo : Int64} {K : Nat → Int32} {O C T : Nat → Int64} {x : Int64} {kp : Nat → Nat} {vO : Nat → Prop} (hs : h s = some (srO pg po pt pc pp fo)) (hK : h po = some (zaI 1 48 K)) (hO : h pt = some (zaJ 8 O)) (hC : h pc = some (zaJ 48 C)) (hT : h pp = some (zaJ 8 T)) (dtc : pt ≠ pc) (dtp : pt ≠ pp) (dcp : pc ≠ pp) (hsr : srK K O vO kp) (hx : okX vO x) : zCall (d + 2) 55 [zR (some s), zJ x] h 0 0 (fun h' o => o = .inl none ∧ h' pp = some (zaJ 8 (gpF x C T kp 48)) ∧ (∀ y, y ≠ pp → h' y = h y)) := by
  refine zCall.of (d := d + 1) (T := tb_55) (L := [some (zR (some s)), some (zJ x), none, none]) (Nat.le_of_ble_eq_true rfl) rfl rfl ?_
  refine z_ald rfl rfl ?_
  refine z_get rfl hs rfl ?_
  refine z_lco (x := 0) rfl rfl ?_
  refine z_call (as := [zR (some pp), zJ 0]) (r := []) (mc' := 0) (ms' := 0) rfl rfl rfl (Nat.le_of_ble_eq_true rfl) (by omega) (by omega) (rc1 rfl) (k_J7_fill_d0a16 (by omega) hT) (by rintro _ _ ⟨e, _⟩; cases e) ?_
  rintro g_1 _ ⟨e9, e_2, f_3⟩; cases e9
  · skip
    have k_4 := (f_3 s (zne hs hT (by nofun))).trans hs
    have k_5 := (f_3 po (zne hK hT (by nofun))).trans hK
    have k_6 := (f_3 pt dtp).trans hO
    have k_7 := (f_3 pc dcp).trans hC
    refine z_ico (x := (nI 0)) rfl rfl ?_
    refine z_ist (ls' := [some (zR (some s)), some (zJ x), none, some (zI (nI 0))]) rfl (Nat.le_of_ble_eq_true rfl) rfl ?_
    exact kl_gp dtc dtp dcp hsr hx 0 (by omega) _ k_4 k_5 k_6 k_7 e_2 (fun h' e f => ⟨rfl, e, fun y hy => (f y hy).trans (f_3 y hy)⟩)
set_option maxHeartbeats 1000000 in
theorem kl_an {d : Nat} {Q : zQ} {h : zH} {s pg po pt pc pp : Nat} {fo : Int64} {T : Nat → Int64} {x y b2 : Int64} {i : Nat} (hs : h s = some (srO pg po pt pc pp fo)) (hT : h pp = some (zaJ 8 T)) (hQ : zEv (d + 2) tb_54 0 0 Q 46 [some (zR (some s)), some (zJ x), none, some (zJ (anF T y 8)), none, some (zI (nI i)), some (zJ b2), none, some (zI (nI 8))] [] h 0 0) : ∀ k, k ≤ 8 → zEv (d + 2) tb_54 0 0 Q 23 [some (zR (some s)), some (zJ x), none, some (zJ (anF T y k)), none, some (zI (nI i)), some (zJ b2), none, some (zI (nI k))] [] h 0 0 := by
  refine dn 8 (fun k hk ih  => ?_)
  refine z_ild rfl rfl ?_
  refine z_ico (x := (nI 8)) rfl rfl ?_
  refine z_cmpN (by omega) (by omega) rfl (fun h_1 => ?_) (fun h_1 => ?_)
  · replace h_1 : 8 ≤ k := h_1
    have e : k = 8 := by omega
    subst e
    exact hQ
  · replace h_1 := Nat.not_le.mp h_1
    refine z_lld rfl rfl ?_
    refine z_ald rfl rfl ?_
    refine z_get rfl hs rfl ?_
    refine z_ild rfl rfl ?_
    refine z_lald rfl hT (by omega) (by omega) ?_
    refine z_lbi (v := (anF T y k) &&& (T k)) rfl rfl ?_
    refine z_lst (ls' := [some (zR (some s)), some (zJ x), none, some (zJ ((anF T y k) &&& (T k))), none, some (zI (nI i)), some (zJ b2), none, some (zI (nI k))]) rfl (Nat.le_of_ble_eq_true rfl) rfl ?_
    refine z_inc (x' := (nI (k + 1))) (ls' := [some (zR (some s)), some (zJ x), none, some (zJ ((anF T y k) &&& (T k))), none, some (zI (nI i)), some (zJ b2), none, some (zI (nI (k + 1)))]) rfl rfl (nI_1 _) rfl ?_
    refine z_go rfl ?_
    exact ih (by omega)
set_option maxHeartbeats 1000000 in
theorem kl_nr {d : Nat} {Q : zQ}  {s pg po pt pc pp : Nat} {fo : Int64} {K : Nat → Int32} {O C : Nat → Int64} {x : Int64} {kp : Nat → Nat} {vO : Nat → Prop} (dtc : pt ≠ pc) (dtp : pt ≠ pp) (dcp : pc ≠ pp) (hsr : srK K O vO kp) (hx : okX vO x)  : ∀ k, k ≤ 49 → ∀ (h : zH) (y : Int64) (T : Nat → Int64) (x6 x8 : Option zV) (hs : h s = some (srO pg po pt pc pp fo)) (hK : h po = some (zaI 1 48 K)) (hO : h pt = some (zaJ 8 O)) (hC : h pc = some (zaJ 48 C)) (hT : h pp = some (zaJ 8 T)) (hy : ∀ o, o < 64 → tst y o = true → tst x o = true) (hc : ∀ c, chs kp x c → ncl C c → chs kp y c) (hb : cbN y 64 + k ≤ 48) (hQ : ∀ h' y' T', narO C kp x y' → h' pp = some (zaJ 8 T') → (∀ z, z ≠ pp → h' z = h z) → Q h' (.inl (some (zJ y')))), zEv (d + 2) tb_54 0 0 Q 5 [some (zR (some s)), some (zJ x), none, some (zJ y), none, some (zI (nI k)), x6, none, x8] [] h 0 0 := by
  refine dn 49 (fun k hk ih h y T x6 x8 hs hK hO hC hT hy hc hb hQ => ?_)
  refine z_ild rfl rfl ?_
  refine z_ico (x := (nI 48)) rfl rfl ?_
  refine z_cmpN (by omega) (by omega) rfl (fun h_1 => ?_) (fun h_1 => ?_)
  · replace h_1 : 48 < k := h_1
    refine z_lld rfl rfl ?_
    refine z_ret rfl ⟨_, rfl⟩ ?_
    omega
  · replace h_1 := Nat.not_lt.mp h_1
    refine z_lld rfl rfl ?_
    refine z_lst (ls' := [some (zR (some s)), some (zJ x), none, some (zJ y), none, some (zI (nI k)), some (zJ y), none, x8]) rfl (Nat.le_of_ble_eq_true rfl) rfl ?_
    refine z_ald rfl rfl ?_
    refine z_lld rfl rfl ?_
    refine z_call (as := [zR (some s), zJ y]) (r := []) (mc' := 0) (ms' := 0) rfl rfl rfl (Nat.le_of_ble_eq_true rfl) (by omega) (by omega) (rc0 rfl hs) (k_X5_gatherPartners hs hK hO hC hT dtc dtp dcp hsr (fun o ho t => hx o ho (hy o ho t))) (by rintro _ _ ⟨e, _⟩; cases e) ?_
    rintro g_2 _ ⟨e9, e_3, f_4⟩; cases e9
    · skip
      have k_5 := (f_4 s (zne hs hT (by nofun))).trans hs
      have k_6 := (f_4 po (zne hK hT (by nofun))).trans hK
      have k_7 := (f_4 pt dtp).trans hO
      have k_8 := (f_4 pc dcp).trans hC
      refine z_ico (x := (nI 0)) rfl rfl ?_
      refine z_ist (ls' := [some (zR (some s)), some (zJ x), none, some (zJ y), none, some (zI (nI k)), some (zJ y), none, some (zI (nI 0))]) rfl (Nat.le_of_ble_eq_true rfl) rfl ?_
      refine kl_an (d := d) (y := y) k_5 e_3 ?_ 0 (by omega)
      refine z_lld rfl rfl ?_
      refine z_lld rfl rfl ?_
      refine z_lcm (v := lg_cmp (anF (gpF y C T kp 48) y 8) y) rfl rfl ?_
      refine z_if rfl (fun h_9 => ?_) (fun h_9 => ?_)
      · replace h_9 : ¬ (lg_cmp (anF (gpF y C T kp 48) y 8) y) = 0 := h_9
        refine z_inc (x' := (nI (k + 1))) (ls' := [some (zR (some s)), some (zJ x), none, some (zJ (anF (gpF y C T kp 48) y 8)), none, some (zI (nI (k + 1))), some (zJ y), none, some (zI (nI 8))]) rfl rfl (nI_1 _) rfl ?_
        refine z_go rfl ?_
        have sub : ∀ o, o < 64 → tst (anF (gpF y C T kp 48) y 8) o = true → tst y o = true := fun o _ t => ((anF_iff 8).mp t).1
        have hlt := cb_lt sub (fun e => h_9 (lg_0.mpr e))
        exact ih (by omega) _ (anF (gpF y C T kp 48) y 8) _ _ _ k_5 k_6 k_7 k_8 e_3 (fun o ho t => hy o ho (sub o ho t)) (fun c a b => nar_step (hc c a b) b) (by omega) (fun h' y' T' a b f => hQ h' y' T' a b (fun z hz => (f z hz).trans (f_4 z hz)))
      · replace h_9 : (lg_cmp (anF (gpF y C T kp 48) y 8) y) = 0 := Decidable.of_not_not h_9
        refine z_lld rfl rfl ?_
        refine z_ret rfl ⟨_, rfl⟩ ?_
        have e := lg_0.mp h_9
        rw [e]
        exact hQ _ _ _ ⟨hy, fun o ho t p hp => nar_fix e ho t hp, hc⟩ e_3 (fun z hz => f_4 z hz)
set_option maxHeartbeats 1000000 in
theorem k_X5_narrowed {d : Nat} {h : zH} {s pg po pt pc pp : Nat} {fo : Int64} {K : Nat → Int32} {O C T : Nat → Int64} {x : Int64} {kp : Nat → Nat} {vO : Nat → Prop} (hs : h s = some (srO pg po pt pc pp fo)) (hK : h po = some (zaI 1 48 K)) (hO : h pt = some (zaJ 8 O)) (hC : h pc = some (zaJ 48 C)) (hT : h pp = some (zaJ 8 T)) (dtc : pt ≠ pc) (dtp : pt ≠ pp) (dcp : pc ≠ pp) (hsr : srK K O vO kp) (hx : okX vO x) : zCall (d + 3) 54 [zR (some s), zJ x] h 0 0 (fun h' o => ∃ y T', o = .inl (some (zJ y)) ∧ narO C kp x y ∧ h' pp = some (zaJ 8 T') ∧ (∀ z, z ≠ pp → h' z = h z)) := by
  refine zCall.of (d := d + 2) (T := tb_54) (L := [some (zR (some s)), some (zJ x), none, none, none, none, none, none, none]) (Nat.le_of_ble_eq_true rfl) rfl rfl ?_
  refine z_lld rfl rfl ?_
  refine z_lst (ls' := [some (zR (some s)), some (zJ x), none, some (zJ x), none, none, none, none, none]) rfl (Nat.le_of_ble_eq_true rfl) rfl ?_
  refine z_ico (x := (nI 0)) rfl rfl ?_
  refine z_ist (ls' := [some (zR (some s)), some (zJ x), none, some (zJ x), none, some (zI (nI 0)), none, none, none]) rfl (Nat.le_of_ble_eq_true rfl) rfl ?_
  have hb := cb_ok hsr hx
  exact kl_nr dtc dtp dcp hsr hx 0 (by omega) h x T _ _ hs hK hO hC hT (fun o _ t => t) (fun c a _ => a) hb (fun h' y' T' a b f => ⟨y', T', rfl, a, b, f⟩)
