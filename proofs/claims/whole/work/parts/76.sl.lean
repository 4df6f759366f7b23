def scF (C : Nat → Int64) (a b : Nat) : Nat → Int64 := vp_updL (vp_updL C a (C a ||| zlsh 0 1 (nI b))) b (vp_updL C a (C a ||| zlsh 0 1 (nI b)) b ||| zlsh 0 1 (nI a))
theorem upL_s (f : Nat → Int64) (k : Nat) (x : Int64) : vp_updL f k x k = x := by simp [vp_updL]
theorem upL_n (f : Nat → Int64) {k j : Nat} (x : Int64) (h : j ≠ k) : vp_updL f k x j = f j := by simp [vp_updL, h]
theorem sc_iff {C : Nat → Int64} {a b i j : Nat} (ha : a < 64) (hb : b < 64) (hj : j < 64) : tst (scF C a b i) j = true ↔ tst (C i) j = true ∨ (i = a ∧ j = b) ∨ (i = b ∧ j = a) := by
  unfold scF
  by_cases e : i = b
  · subst e
    rw [upL_s]
    by_cases g : i = a
    · subst g
      rw [upL_s, tst_or, tst_or, tst_sh ha hj, Bool.or_eq_true, Bool.or_eq_true]
      constructor
      · rintro ((h | h) | h)
        · exact Or.inl h
        · exact Or.inr (Or.inl ⟨rfl, of_decide_eq_true h⟩)
        · exact Or.inr (Or.inl ⟨rfl, of_decide_eq_true h⟩)
      · rintro (h | ⟨_, h⟩ | ⟨_, h⟩)
        · exact Or.inl (Or.inl h)
        · exact Or.inr (decide_eq_true h)
        · exact Or.inr (decide_eq_true h)
    · rw [upL_n _ _ g, tst_or, tst_sh ha hj, Bool.or_eq_true]
      constructor
      · rintro (h | h)
        · exact Or.inl h
        · exact Or.inr (Or.inr ⟨rfl, of_decide_eq_true h⟩)
      · rintro (h | ⟨h, _⟩ | ⟨_, h⟩)
        · exact Or.inl h
        · exact absurd h g
        · exact Or.inr (decide_eq_true h)
  · rw [upL_n _ _ e]
    by_cases g : i = a
    · subst g
      rw [upL_s, tst_or, tst_sh hb hj, Bool.or_eq_true]
      constructor
      · rintro (h | h)
        · exact Or.inl h
        · exact Or.inr (Or.inl ⟨rfl, of_decide_eq_true h⟩)
      · rintro (h | ⟨_, h⟩ | ⟨h, _⟩)
        · exact Or.inl h
        · exact Or.inr (decide_eq_true h)
        · exact absurd h e
    · rw [upL_n _ _ g]
      exact ⟨Or.inl, fun h => h.elim id (fun h => h.elim (fun h => absurd h.1 g) (fun h => absurd h.1 e))⟩
def lnA (r : rA) (v0 : Nat) (C : Nat → Int64) : Nat → Nat → Int64
  | 0 => C
  | p + 1 => if hnB r v0 p = true then scF (lnA r v0 C p) v0 (40 + p) else lnA r v0 C p
def lnB (r : rA) (v0 : Nat) (C : Nat → Int64) : Nat → Nat → Int64
  | 0 => lnA r v0 C 8
  | i + 1 => if (exB r v0 i || exB r i v0) = true then scF (lnB r v0 C i) v0 i else lnB r v0 C i
/-- what learning does to the clashes -/
theorem lnA_iff {r : rA} {v0 : Nat} {C : Nat → Int64} (hv : v0 < 40) {i j : Nat} (hj : j < 64) : ∀ k, k ≤ 8 → (tst (lnA r v0 C k i) j = true ↔ tst (C i) j = true ∨ ∃ p, p < k ∧ hnB r v0 p = true ∧ ((i = v0 ∧ j = 40 + p) ∨ (i = 40 + p ∧ j = v0)))
  | 0, _ => ⟨Or.inl, fun h => h.elim id (fun ⟨p, h, _⟩ => absurd h (Nat.not_lt_zero _))⟩
  | k + 1, hk => by
    have ih := lnA_iff (r := r) (C := C) hv (i := i) hj k (by omega)
    rw [lnA]
    by_cases w : hnB r v0 k = true
    · rw [if_pos w, sc_iff (by omega) (by omega) hj, ih]
      constructor
      · rintro ((h | ⟨p, a, b⟩) | h)
        · exact Or.inl h
        · exact Or.inr ⟨p, by omega, b⟩
        · exact Or.inr ⟨k, by omega, w, h⟩
      · rintro (h | ⟨p, a, b, c⟩)
        · exact Or.inl (Or.inl h)
        · by_cases e : p = k
          · rw [e] at c; exact Or.inr c
          · exact Or.inl (Or.inr ⟨p, by omega, b, c⟩)
    · rw [if_neg w, ih]
      constructor
      · rintro (h | ⟨p, a, b⟩)
        · exact Or.inl h
        · exact Or.inr ⟨p, by omega, b⟩
      · rintro (h | ⟨p, a, b, c⟩)
        · exact Or.inl h
        · exact Or.inr ⟨p, by
            have : p ≠ k := fun z => w (z ▸ b)
            omega, b, c⟩
theorem lnB_iff {r : rA} {v0 : Nat} {C : Nat → Int64} (hv : v0 < 40) {i j : Nat} (hj : j < 64) : ∀ k, k ≤ 40 → (tst (lnB r v0 C k i) j = true ↔ tst (lnA r v0 C 8 i) j = true ∨ ∃ a, a < k ∧ (exB r v0 a || exB r a v0) = true ∧ ((i = v0 ∧ j = a) ∨ (i = a ∧ j = v0)))
  | 0, _ => ⟨Or.inl, fun h => h.elim id (fun ⟨p, h, _⟩ => absurd h (Nat.not_lt_zero _))⟩
  | k + 1, hk => by
    have ih := lnB_iff (r := r) (C := C) hv (i := i) hj k (by omega)
    rw [lnB]
    by_cases w : (exB r v0 k || exB r k v0) = true
    · rw [if_pos w, sc_iff (by omega) (by omega) hj, ih]
      constructor
      · rintro ((h | ⟨p, a, b⟩) | h)
        · exact Or.inl h
        · exact Or.inr ⟨p, by omega, b⟩
        · exact Or.inr ⟨k, by omega, w, h⟩
      · rintro (h | ⟨p, a, b, c⟩)
        · exact Or.inl (Or.inl h)
        · by_cases e : p = k
          · rw [e] at c; exact Or.inr c
          · exact Or.inl (Or.inr ⟨p, by omega, b, c⟩)
    · rw [if_neg w, ih]
      constructor
      · rintro (h | ⟨p, a, b⟩)
        · exact Or.inl h
        · exact Or.inr ⟨p, by omega, b⟩
      · rintro (h | ⟨p, a, b, c⟩)
        · exact Or.inl h
        · exact Or.inr ⟨p, by
            have : p ≠ k := fun z => w (z ▸ b)
            omega, b, c⟩
theorem rg_fr1 {h h' g : zH} {r : rA} {v pg pl p : Nat} {A : Nat → Nat} {e : zE} (hr : rgI h g r v pg pl A) (hp : h p = some e) (n1 : ∀ fs, zO 2 fs ≠ e) (n2 : ∀ m f, zaR 4 m f ≠ e) (n3 : ∀ fs, zO 3 fs ≠ e) (gp : g p = none) (fr : ∀ y, y ≠ p → h' y = h y) : rgI h' g r v pg pl A := by
  obtain ⟨a, ⟨f, b, c⟩, d, q, l⟩ := hr
  refine ⟨(fr _ (zne a hp (n1 _))).trans a, ⟨f, (fr _ (zne b hp (n2 _ _))).trans b, c⟩, d, fun i hi => ?_, fun y z w => ?_⟩
  · obtain ⟨pv, pw, pr, pd, pk, m, yk, x1, x2⟩ := q i hi
    exact ⟨pv, pw, pr, pd, pk, m, yk, (fr _ (zne x1 hp (n3 _))).trans x1, x2⟩
  · rw [fr y (fun z => by rw [z, gp] at w; cases w)]
    exact l y z w
set_option maxHeartbeats 1000000 in
theorem k_X5_setClash {d : Nat} {h : zH} {s pg po pt pc pp a b : Nat} {fo : Int64} {C : Nat → Int64} (hs : h s = some (srO pg po pt pc pp fo)) (hC : h pc = some (zaJ 48 C)) (ha : a < 48) (hb : b < 48) : zCall (d + 1) 46 [zR (some s), zI (nI a), zI (nI b)] h 0 0 (fun h' o => o = .inl none ∧ h' pc = some (zaJ 48 (scF C a b)) ∧ (∀ y, y ≠ pc → h' y = h y)) := by
  refine zCall.of (d := d) (T := tb_46) (L := [some (zR (some s)), some (zI (nI a)), some (zI (nI b))]) (Nat.le_of_ble_eq_true rfl) rfl rfl ?_
  refine z_ald rfl rfl ?_
  refine z_get rfl hs rfl ?_
  refine z_ild rfl rfl ?_
  refine z_dup2 rfl rfl rfl ?_
  refine z_lald rfl hC (by omega) (by omega) ?_
  refine z_lco (x := 1) rfl rfl ?_
  refine z_ild rfl rfl ?_
  refine z_lsh (v := zlsh 0 1 (nI b)) rfl rfl ?_
  refine z_lbi (v := (C a) ||| (zlsh 0 1 (nI b))) rfl rfl ?_
  refine z_last rfl hC (by omega) (by omega) ?_
  intro g_1 e_2 f_3
  have k_4 := (f_3 s (zne hs hC (by nofun))).trans hs
  refine z_ald rfl rfl ?_
  refine z_get rfl k_4 rfl ?_
  refine z_ild rfl rfl ?_
  refine z_dup2 rfl rfl rfl ?_
  refine z_lald rfl e_2 (by omega) (by omega) ?_
  refine z_lco (x := 1) rfl rfl ?_
  refine z_ild rfl rfl ?_
  refine z_lsh (v := zlsh 0 1 (nI a)) rfl rfl ?_
  refine z_lbi (v := ((vp_updL C a ((C a) ||| (zlsh 0 1 (nI b)))) b) ||| (zlsh 0 1 (nI a))) rfl rfl ?_
  refine z_last rfl e_2 (by omega) (by omega) ?_
  intro g_5 e_6 f_7
  have k_8 := (f_7 s (zne k_4 e_2 (by nofun))).trans k_4
  refine z_rtv rfl ?_
  exact ⟨rfl, e_6, fun y hy => (f_7 y hy).trans (f_3 y hy)⟩
set_option maxHeartbeats 1000000 in
theorem kl_l2 {d : Nat} {Q : zQ}  {s pg po pt pc pp pl v v0 : Nat} {fo : Int64} {C : Nat → Int64} {g : zH} {r : rA} {A : Nat → Nat} (gpc : g pc = none) (hv0 : v0 < v) (hv : v ≤ 40)  : ∀ k, k ≤ v → ∀ (h : zH) (x4 : Option zV) (hs : h s = some (srO pg po pt pc pp fo)) (hC : h pc = some (zaJ 48 (lnB r v0 C k))) (h1 : h pg = some (zO 2 [zR (some pl), zI (nI v)])) (hr : rgI h g r v pg pl A) (hQ : ∀ h', h' pc = some (zaJ 48 (lnB r v0 C v)) → (∀ y, y ≠ pc → h' y = h y) → Q h' (.inl none)), zEv (d + 6) tb_45 0 0 Q 69 [some (zR (some s)), some (zI (nI v0)), some (zR (some ((A v0)))), some (zI (nI k)), x4] [] h 0 0 := by
  refine dn v (fun k hk ih h x4 hs hC h1 hr hQ => ?_)
  obtain ⟨fsv, cv⟩ := rel_cell (hr.2.2.2.1 v0 hv0)
  refine z_ild rfl rfl ?_
  refine z_ald rfl rfl ?_
  refine z_get rfl hs rfl ?_
  refine z_get rfl h1 rfl ?_
  refine z_cmpN (by omega) (by omega) rfl (fun h_1 => ?_) (fun h_1 => ?_)
  · replace h_1 : v ≤ k := h_1
    refine z_rtv rfl ?_
    have e : k = v := by omega
    subst e
    exact hQ _ hC (fun _ _ => rfl)
  · replace h_1 := Nat.not_le.mp h_1
    refine z_ald rfl rfl ?_
    refine z_get rfl hs rfl ?_
    refine z_ild rfl rfl ?_
    refine z_callF (as := [zR (some pg), zI (nI k)]) (r := []) (v := some (zR (some ((A k))))) rfl rfl rfl (Nat.le_of_ble_eq_true rfl) (by omega) (by omega) (rc0 rfl h1) (k_X2_at hr (by omega)) ?_
    obtain ⟨fsk, ck⟩ := rel_cell (hr.2.2.2.1 k (by omega))
    refine z_ast (ls' := [some (zR (some s)), some (zI (nI v0)), some (zR (some ((A v0)))), some (zI (nI k)), some (zR (some ((A k))))]) rfl (Nat.le_of_ble_eq_true rfl) rfl ?_
    refine z_ald rfl rfl ?_
    refine z_nlP rfl ?_
    refine z_ald rfl rfl ?_
    refine z_ald rfl rfl ?_
    refine z_callF (as := [zR (some ((A v0))), zR (some ((A k)))]) (r := []) (v := some (zI (bI (exB r v0 k)))) rfl rfl rfl (Nat.le_of_ble_eq_true rfl) (by omega) (by omega) (rc0 rfl cv) (k_X3_excludes hr.2.2.2.2 (hr.2.2.2.1 v0 hv0) (hr.2.2.2.1 k (by omega))) ?_
    refine z_ifB1 rfl (fun b_2 => ?_) (fun b_2 => ?_)
    · refine z_ald rfl rfl ?_
      refine z_ild rfl rfl ?_
      refine z_ild rfl rfl ?_
      refine z_call (as := [zR (some s), zI (nI v0), zI (nI k)]) (r := []) (mc' := 0) (ms' := 0) rfl rfl rfl (Nat.le_of_ble_eq_true rfl) (by omega) (by omega) (rc0 rfl hs) (k_X5_setClash hs hC (by omega) (by omega)) (by rintro _ _ ⟨e, _⟩; cases e) ?_
      rintro g_3 _ ⟨e9, e_4, f_5⟩; cases e9
      · skip
        have k_6 := (f_5 s (zne hs hC (by nofun))).trans hs
        have k_7 := (f_5 pg (zne h1 hC (by nofun))).trans h1
        have k_8 := (f_5 ((A v0)) (zne cv hC (by nofun))).trans cv
        have k_9 := (f_5 ((A k)) (zne ck hC (by nofun))).trans ck
        refine z_inc (x' := (nI (k + 1))) (ls' := [some (zR (some s)), some (zI (nI v0)), some (zR (some ((A v0)))), some (zI (nI (k + 1))), some (zR (some ((A k))))]) rfl rfl (nI_1 _) rfl ?_
        refine z_go rfl ?_
        have h9 : lnB r v0 C (k + 1) = scF (lnB r v0 C k) v0 k := by rw [lnB, if_pos (by rw [b_2]; rfl)]
        exact ih (by omega) _ _ k_6 (by rw [h9]; exact e_4) k_7 (rg_fr1 hr hC (by nofun) (by nofun) (by nofun) gpc f_5) (fun h' e f => hQ h' e (fun y hy => (f y hy).trans (f_5 y hy)))
    · refine z_ald rfl rfl ?_
      refine z_ald rfl rfl ?_
      refine z_callF (as := [zR (some ((A k))), zR (some ((A v0)))]) (r := []) (v := some (zI (bI (exB r k v0)))) rfl rfl rfl (Nat.le_of_ble_eq_true rfl) (by omega) (by omega) (rc0 rfl ck) (k_X3_excludes hr.2.2.2.2 (hr.2.2.2.1 k (by omega)) (hr.2.2.2.1 v0 hv0)) ?_
      refine z_ifB0 rfl (fun b_10 => ?_) (fun b_10 => ?_)
      · refine z_inc (x' := (nI (k + 1))) (ls' := [some (zR (some s)), some (zI (nI v0)), some (zR (some ((A v0)))), some (zI (nI (k + 1))), some (zR (some ((A k))))]) rfl rfl (nI_1 _) rfl ?_
        refine z_go rfl ?_
        have h9 : lnB r v0 C (k + 1) = lnB r v0 C k := by rw [lnB, if_neg (by rw [b_2, b_10]; nofun)]
        exact ih (by omega) _ _ hs (by rw [h9]; exact hC) h1 hr hQ
      · refine z_ald rfl rfl ?_
        refine z_ild rfl rfl ?_
        refine z_ild rfl rfl ?_
        refine z_call (as := [zR (some s), zI (nI v0), zI (nI k)]) (r := []) (mc' := 0) (ms' := 0) rfl rfl rfl (Nat.le_of_ble_eq_true rfl) (by omega) (by omega) (rc0 rfl hs) (k_X5_setClash hs hC (by omega) (by omega)) (by rintro _ _ ⟨e, _⟩; cases e) ?_
        rintro g_11 _ ⟨e9, e_12, f_13⟩; cases e9
        · skip
          have k_14 := (f_13 s (zne hs hC (by nofun))).trans hs
          have k_15 := (f_13 pg (zne h1 hC (by nofun))).trans h1
          have k_16 := (f_13 ((A v0)) (zne cv hC (by nofun))).trans cv
          have k_17 := (f_13 ((A k)) (zne ck hC (by nofun))).trans ck
          refine z_inc (x' := (nI (k + 1))) (ls' := [some (zR (some s)), some (zI (nI v0)), some (zR (some ((A v0)))), some (zI (nI (k + 1))), some (zR (some ((A k))))]) rfl rfl (nI_1 _) rfl ?_
          refine z_go rfl ?_
          have h9 : lnB r v0 C (k + 1) = scF (lnB r v0 C k) v0 k := by rw [lnB, if_pos (by rw [b_2, b_10]; rfl)]
          exact ih (by omega) _ _ k_14 (by rw [h9]; exact e_12) k_15 (rg_fr1 hr hC (by nofun) (by nofun) (by nofun) gpc f_13) (fun h' e f => hQ h' e (fun y hy => (f y hy).trans (f_13 y hy)))
set_option maxHeartbeats 1000000 in
theorem kl_l1 {d : Nat} {Q : zQ}  {s pg po pt pc pp pl v v0 : Nat} {fo : Int64} {C : Nat → Int64} {g : zH} {r : rA} {A : Nat → Nat} (gpc : g pc = none) (hv0 : v0 < v) (hv : v ≤ 40)  : ∀ k, k ≤ 8 → ∀ (h : zH) (x4 : Option zV) (hs : h s = some (srO pg po pt pc pp fo)) (hC : h pc = some (zaJ 48 (lnA r v0 C k))) (h1 : h pg = some (zO 2 [zR (some pl), zI (nI v)])) (hr : rgI h g r v pg pl A) (hQ : ∀ h', h' pc = some (zaJ 48 (lnB r v0 C v)) → (∀ y, y ≠ pc → h' y = h y) → Q h' (.inl none)), zEv (d + 6) tb_45 0 0 Q 38 [some (zR (some s)), some (zI (nI v0)), some (zR (some ((A v0)))), some (zI (nI k)), x4] [] h 0 0 := by
  refine dn 8 (fun k hk ih h x4 hs hC h1 hr hQ => ?_)
  obtain ⟨fsv, cv⟩ := rel_cell (hr.2.2.2.1 v0 hv0)
  refine z_ild rfl rfl ?_
  refine z_ico (x := (nI 8)) rfl rfl ?_
  refine z_cmpN (by omega) (by omega) rfl (fun h_1 => ?_) (fun h_1 => ?_)
  · replace h_1 : 8 ≤ k := h_1
    refine z_ico (x := (nI 0)) rfl rfl ?_
    refine z_ist (ls' := [some (zR (some s)), some (zI (nI v0)), some (zR (some ((A v0)))), some (zI (nI 0)), x4]) rfl (Nat.le_of_ble_eq_true rfl) rfl ?_
    have e : k = 8 := by omega
    subst e
    exact kl_l2 gpc hv0 hv 0 (by omega) _ _ hs hC h1 hr hQ
  · replace h_1 := Nat.not_le.mp h_1
    refine z_ald rfl rfl ?_
    refine z_ild rfl rfl ?_
    refine z_callF (as := [zR (some ((A v0))), zI (nI k)]) (r := []) (v := some (zI (bI (hnB r v0 k)))) rfl rfl rfl (Nat.le_of_ble_eq_true rfl) (by omega) (by omega) (rc0 rfl cv) (k_X3_hasNeedOf hr.2.2.2.2 (hr.2.2.2.1 v0 hv0) (by omega)) ?_
    refine z_ifB0 rfl (fun b_2 => ?_) (fun b_2 => ?_)
    · refine z_inc (x' := (nI (k + 1))) (ls' := [some (zR (some s)), some (zI (nI v0)), some (zR (some ((A v0)))), some (zI (nI (k + 1))), x4]) rfl rfl (nI_1 _) rfl ?_
      refine z_go rfl ?_
      have h9 : lnA r v0 C (k + 1) = lnA r v0 C k := by rw [lnA, if_neg (by rw [b_2]; nofun)]
      exact ih (by omega) _ _ hs (by rw [h9]; exact hC) h1 hr hQ
    · refine z_ald rfl rfl ?_
      refine z_ild rfl rfl ?_
      refine z_ico (x := (nI 40)) rfl rfl ?_
      refine z_ild rfl rfl ?_
      refine z_ibi (v := (nI (40 + k))) rfl (nI_add _ _) ?_
      refine z_call (as := [zR (some s), zI (nI v0), zI (nI (40 + k))]) (r := []) (mc' := 0) (ms' := 0) rfl rfl rfl (Nat.le_of_ble_eq_true rfl) (by omega) (by omega) (rc0 rfl hs) (k_X5_setClash hs hC (by omega) (by omega)) (by rintro _ _ ⟨e, _⟩; cases e) ?_
      rintro g_3 _ ⟨e9, e_4, f_5⟩; cases e9
      · skip
        have k_6 := (f_5 s (zne hs hC (by nofun))).trans hs
        have k_7 := (f_5 pg (zne h1 hC (by nofun))).trans h1
        have k_8 := (f_5 ((A v0)) (zne cv hC (by nofun))).trans cv
        refine z_inc (x' := (nI (k + 1))) (ls' := [some (zR (some s)), some (zI (nI v0)), some (zR (some ((A v0)))), some (zI (nI (k + 1))), x4]) rfl rfl (nI_1 _) rfl ?_
        refine z_go rfl ?_
        have h9 : lnA r v0 C (k + 1) = scF (lnA r v0 C k) v0 (40 + k) := by rw [lnA, if_pos b_2]
        exact ih (by omega) _ _ k_6 (by rw [h9]; exact e_4) k_7 (rg_fr1 hr hC (by nofun) (by nofun) (by nofun) gpc f_5) (fun h' e f => hQ h' e (fun y hy => (f y hy).trans (f_5 y hy)))
set_option maxHeartbeats 1000000 in
theorem k_X5_learn {d : Nat} {h : zH} {s pg po pt pc pp pl v v0 : Nat} {fo : Int64} {K : Nat → Int32} {O C : Nat → Int64} {g : zH} {r : rA} {A : Nat → Nat} (gpo : g po = none) (gpt : g pt = none) (gpc : g pc = none) (dtc : pt ≠ pc) (hv0 : v0 < v) (hr : rgI h g r v pg pl A) (hs : h s = some (srO pg po pt pc pp fo)) (hK : h po = some (zaI 1 48 K)) (hO : h pt = some (zaJ 8 O)) (hC : h pc = some (zaJ 48 C)) : zCall (d + 7) 45 [zR (some s), zI (nI v0), zR (some ((A v0)))] h 0 0 (fun h' o => o = .inl none ∧ h' po = some (zaI 1 48 (upd K v0 (nI (pkN r v0)))) ∧ h' pt = some (zaJ 8 (vp_updL O (pkN r v0) (O (pkN r v0) ||| zlsh 0 1 (nI v0)))) ∧ h' pc = some (zaJ 48 (lnB r v0 C v)) ∧ (∀ y, y ≠ po → y ≠ pt → y ≠ pc → h' y = h y)) := by
  have h1 := hr.1
  have hv := hr.2.2.1
  have hg := hr.2.2.2.2
  obtain ⟨pvR, pwR, prR, pdR, pkR, mR, yR, cR, _, ⟨e16R, pk8R⟩, e17R, ⟨e14R, m5R⟩, ⟨tvR, _, ⟨fdR, cdR, tdR⟩, ⟨frR, crR, trR⟩⟩⟩ := relI_h hg (hr.2.2.2.1 v0 hv0)
  obtain ⟨fsvR, cvR⟩ := vr_cell tvR
  refine zCall.of (d := d + 6) (T := tb_45) (L := [some (zR (some s)), some (zI (nI v0)), some (zR (some ((A v0)))), none, none]) (Nat.le_of_ble_eq_true rfl) rfl rfl ?_
  refine z_ild rfl rfl ?_
  refine z_ifN (by omega) rfl (fun h_1 => ?_) (fun h_1 => ?_)
  · replace h_1 : v0 < 0 := h_1
    omega
  · replace h_1 := Nat.not_lt.mp h_1
    refine z_ild rfl rfl ?_
    refine z_ico (x := (nI 40)) rfl rfl ?_
    refine z_cmpN (by omega) (by omega) rfl (fun h_2 => ?_) (fun h_2 => ?_)
    · replace h_2 : v0 < 40 := h_2
      refine z_ald rfl rfl ?_
      refine z_get rfl hs rfl ?_
      refine z_ild rfl rfl ?_
      refine z_ald rfl rfl ?_
      refine z_get rfl cR rfl ?_
      refine z_iast (x' := (nI pkR)) rfl hK (by omega) (by omega) rfl ?_
      intro g_3 e_4 f_5
      have k_6 := (f_5 s (zne hs hK (by nofun))).trans hs
      have k_7 := (f_5 pt (zne hO hK (by nofun))).trans hO
      have k_8 := (f_5 pc (zne hC hK (by nofun))).trans hC
      have k_9 := (f_5 pg (zne h1 hK (by nofun))).trans h1
      have k_10 := (f_5 ((A v0)) (zne cR hK (by nofun))).trans cR
      refine z_ald rfl rfl ?_
      refine z_get rfl k_6 rfl ?_
      refine z_ald rfl rfl ?_
      refine z_get rfl k_10 rfl ?_
      refine z_dup2 rfl rfl rfl ?_
      refine z_lald rfl k_7 (by omega) (by omega) ?_
      refine z_lco (x := 1) rfl rfl ?_
      refine z_ild rfl rfl ?_
      refine z_lsh (v := zlsh 0 1 (nI v0)) rfl rfl ?_
      refine z_lbi (v := (O pkR) ||| (zlsh 0 1 (nI v0))) rfl rfl ?_
      refine z_last rfl k_7 (by omega) (by omega) ?_
      intro g_11 e_12 f_13
      have k_14 := (f_13 s (zne k_6 k_7 (by nofun))).trans k_6
      have k_15 := (f_13 pc (Ne.symm dtc)).trans k_8
      have k_16 := (f_13 pg (zne k_9 k_7 (by nofun))).trans k_9
      have k_17 := (f_13 ((A v0)) (zne k_10 k_7 (by nofun))).trans k_10
      have k_18 := (f_13 po (zne e_4 k_7 (by nofun))).trans e_4
      refine z_ico (x := (nI 0)) rfl rfl ?_
      refine z_ist (ls' := [some (zR (some s)), some (zI (nI v0)), some (zR (some ((A v0)))), some (zI (nI 0)), none]) rfl (Nat.le_of_ble_eq_true rfl) rfl ?_
      have r1 := rg_fr1 hr hK (by nofun) (by nofun) (by nofun) gpo f_5
      have r2 := rg_fr1 r1 k_7 (by nofun) (by nofun) (by nofun) gpt f_13
      have ek : pkN r v0 = pkR := by rw [pkN, e16R, nI_clamp (by omega)]
      rw [ek]
      exact kl_l1 gpc hv0 hr.2.2.1 0 (by omega) _ _ k_14 k_15 k_16 r2 (fun h' e f => ⟨rfl, (f _ (zne k_18 k_15 (by nofun))).trans k_18, (f _ dtc).trans e_12, e, fun y hy hz hw => (f y hw).trans ((f_13 y hz).trans (f_5 y hy))⟩)
    · replace h_2 := Nat.not_lt.mp h_2
      omega
