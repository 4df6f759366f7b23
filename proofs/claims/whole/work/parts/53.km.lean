theorem ext_mut3 {M : Nat → Prop} {g h g' h' h2 : zH} (x : ext M g h g' h') {p r u : Nat} {e e' e2 : zE} (fr : ∀ y, y ≠ p → y ≠ r → y ≠ u → h2 y = h' y) (hp : h p = none ∨ M p) (hg : g' p = none) (hn : h2 p = some e) (hp' : h r = none ∨ M r) (hg' : g' r = none) (hn' : h2 r = some e') (hp2 : h u = none ∨ M u) (hg2 : g' u = none) (hn2 : h2 u = some e2) : ext M g h g' h2 := by
  have ne : ∀ y w, g' w = none → (∃ v, g' y = some v) → y ≠ w := fun y w a b c => by obtain ⟨v, b⟩ := b; rw [c, a] at b; cases b
  have nm : ∀ y w, (h w = none ∨ M w) → h y ≠ none → ¬ M y → y ≠ w := fun y w a b c d => by
    rcases a with a | a
    · rw [d] at b; exact b a
    · rw [d] at c; exact c a
  refine ⟨x.1, ?_, x.2.2.1, ?_, ?_⟩
  · intro y v q
    rw [fr y (ne _ _ hg ⟨v, q⟩) (ne _ _ hg' ⟨v, q⟩) (ne _ _ hg2 ⟨v, q⟩)]
    exact x.2.1 y v q
  · intro y q
    by_cases a : y = p
    · rw [a, hn]; nofun
    · by_cases b : y = r
      · rw [b, hn']; nofun
      · by_cases c : y = u
        · rw [c, hn2]; nofun
        · rw [fr y a b c]; exact x.2.2.2.1 y q
  · intro y q m
    rw [fr y (nm _ _ hp q m) (nm _ _ hp' q m) (nm _ _ hp2 q m)]
    exact x.2.2.2.2 y q m
/-- the requirements of a release by packages, and the packages in their order -/
def ndA (g : zH) (f : Nat → Option Nat) (D : List (Nat × List sV)) : Prop := ∀ k, k < 8 → (D.lookup k = none → f k = none) ∧ (∀ l, D.lookup k = some l → ∃ r, f k = some r ∧ rqAt g r (qOf l))
def ndO (fd : Nat → Int32) (D : List (Nat × List sV)) : Prop := ∀ i q, (D.map (·.1))[i]? = some q → fd i = nI q
theorem ndA_mono {g g' : zH} (l : hle g g') {f : Nat → Option Nat} {D : List (Nat × List sV)} (h : ndA g f D) : ndA g' f D := fun k hk => ⟨(h k hk).1, fun x hx => by obtain ⟨r, a, b⟩ := (h k hk).2 x hx; exact ⟨r, a, rqAt_mono l b⟩⟩
theorem look_app {D : List (Nat × List sV)} {q k : Nat} {l : List sV} (h : D.lookup q = none) : (D ++ [(q, l)]).lookup k = if k = q then some l else D.lookup k := by
  induction D with
  | nil =>
    by_cases e : k = q
    · simp [e]
    · have : (k == q) = false := by simpa using e
      simp [List.lookup, e, this]
  | cons d D ih =>
    obtain ⟨a, b⟩ := d
    rw [List.lookup_cons] at h
    rw [List.cons_append, List.lookup_cons, List.lookup_cons]
    cases e : q == a with
    | true => rw [e] at h; cases h
    | false =>
      rw [e] at h
      have ih := ih h
      cases e2 : k == a with
      | false => exact ih
      | true =>
        have g1 : k = a := by simpa using e2
        have g2 : ¬ q = a := by simpa using e
        rw [if_neg (by omega)]
theorem nd_step {g g' : zH} {f : Nat → Option Nat} {D : List (Nat × List sV)} {q r : Nat} {l : List sV} (h : ndA g f D) (hl : hle g g') (hq : D.lookup q = none) (tr : rqAt g' r (qOf l)) : ndA g' (va_up f q (some r)) (D ++ [(q, l)]) := by
  intro k hk
  rw [look_app hq]
  by_cases e : k = q
  · subst e
    rw [if_pos rfl, va_up_s]
    exact ⟨fun x => (by cases x), fun x hx => by cases hx; exact ⟨r, rfl, tr⟩⟩
  · rw [if_neg e, va_up_n _ _ e]
    exact ndA_mono hl h k hk
theorem no_step {fd : Nat → Int32} {D : List (Nat × List sV)} {k q : Nat} {l : List sV} (h : ndO fd D) (hk : D.length = k) : ndO (upd fd k (nI q)) (D ++ [(q, l)]) := by
  intro i x hx
  rw [List.map_append] at hx
  have hm : (D.map (·.1)).length = k := by rw [List.length_map, hk]
  by_cases e : i = k
  · subst e
    rw [← hm, List.getElem?_append_right (Nat.le_refl _), Nat.sub_self] at hx
    cases hx
    simp [upd]
  · have hi : i < (D.map (·.1)).length := by
      have := (List.getElem?_eq_some_iff.mp hx).1
      rw [List.length_append] at this
      have : i < (D.map (·.1)).length + 1 := this
      omega
    rw [List.getElem?_append_left hi] at hx
    rw [← h i x hx]
    simp [upd, e]
/-- a VERSION: where its three numbers end, where it ends -/
abbrev e3F (t : Nat → Int32) (n a : Nat) : Nat := spn isDg t n (spn isDg t n (spn isDg t n a + 1) + 1)
def veE (t : Nat → Int32) (n a : Nat) : Nat := pbE t n (bwE t n (e3F t n a))
def veR (t : Nat → Int32) (n a : Nat) : Prop := nb3 t n a ∧ ¬ bwB t n (e3F t n a) ∧ ¬ pbB t n (bwE t n (e3F t n a)) ∧ veE t n a - a ≤ 24
def veN (t : Nat → Int32) (n a : Nat) : Prop := nb0 t n a ∨ nb1 t n a ∨ nb2 t n a ∨ (nb3 t n a ∧ (bwB t n (e3F t n a) ∨ pbB t n (bwE t n (e3F t n a)) ∨ 24 < veE t n a - a))
def veV (t : Nat → Int32) (n a : Nat) : vV := (nI (nmN t n a), nI (nmN t n (spn isDg t n a + 1)), nI (nmN t n (spn isDg t n (spn isDg t n a + 1) + 1)), bwE t n (e3F t n a) - (e3F t n a + 1), fun j => t (e3F t n a + 1 + j))
/-- bytes that a version is written with -/
def vch (x : Int32) : Bool := isWd x || decide (x = nI 46) || decide (x = nI 43)
theorem vch_wd {x : Int32} (h : isWd x = true) : vch x = true := by simp [vch, h]
theorem wrF_ch {nb : Bool} {t : Nat → Int32} {n : Nat} : ∀ (k a j : Nat), a ≤ j → j < (wrF nb t n k a).1 → vch (t j) = true
  | 0, a, j, h1, h2 => by
    have h2 : j < a := h2
    omega
  | k + 1, a, j, h1, h2 => by
    have hin : j < spn isWd t n a → vch (t j) = true := fun g => vch_wd (spn_all (n := n) h1 g)
    rw [wrF] at h2
    split at h2
    · exact hin h2
    · split at h2
      · rename_i g1 g2
        by_cases e : j < spn isWd t n a
        · exact hin e
        · by_cases e2 : j = spn isWd t n a
          · have g3 := ((at_ahd (by omega)).mp g2).2
            rw [e2, g3]
            decide +kernel
          · exact wrF_ch k (spn isWd t n a + 1) j (by omega) h2
      · exact hin h2
theorem tx_vch {n : Nat} {t tc : Nat → Int32} (hx : txR n t tc) {j : Nat} (hj : j < n) (hv : vch (t j) = true) : tc j = t j := by
  rcases hx j hj with e | ⟨e1, e2⟩
  · exact e
  · have : vch (t j) = false := by simp [vch, tx_wd1 e2, (tx_big (c := 46) (by omega) e2).1, (tx_big (c := 43) (by omega) e2).1]
    rw [this] at hv
    cases hv
theorem dg_ch {t : Nat → Int32} {n a j : Nat} (h1 : a ≤ j) (h2 : j < spn isDg t n a) : vch (t j) = true := vch_wd (dg_wd (spn_all (n := n) h1 h2))
theorem ve_ch {t : Nat → Int32} {n a : Nat} (h : nb3 t n a) {j : Nat} (h1 : a ≤ j) (h2 : j < veE t n a) : vch (t j) = true := by
  have d1 := h.2.1.1.2
  have d2 := h.2.2.2.1.1.2
  by_cases c1 : j < spn isDg t n a
  · exact dg_ch h1 c1
  · by_cases c2 : j = spn isDg t n a
    · rw [c2, d1]; decide +kernel
    · by_cases c3 : j < spn isDg t n (spn isDg t n a + 1)
      · exact dg_ch (by omega) c3
      · by_cases c4 : j = spn isDg t n (spn isDg t n a + 1)
        · rw [c4, d2]; decide +kernel
        · by_cases c5 : j < e3F t n a
          · exact dg_ch (by omega) c5
          · by_cases c6 : j < bwE t n (e3F t n a)
            · unfold bwE at c6
              split at c6
              · rename_i g
                by_cases c7 : j = e3F t n a
                · rw [c7, g.2]; decide +kernel
                · exact wrF_ch _ _ _ (by omega) c6
              · omega
            · unfold veE pbE at h2
              split at h2
              · rename_i g
                by_cases c7 : j = bwE t n (e3F t n a)
                · rw [c7, g.2]; decide +kernel
                · exact wrF_ch _ _ _ (by omega) h2
              · omega
theorem ve_bytes {t tc : Nat → Int32} {n a : Nat} (hx : txR n t tc) (hn : veE t n a ≤ n) (h : nb3 t n a) {j : Nat} (hj : j < veE t n a - a) : va_cpy tc (fun _ => 0) a 0 (veE t n a - a) j = t (a + j) := by
  unfold va_cpy
  rw [if_pos ⟨Nat.zero_le _, by omega⟩, Nat.sub_zero]
  exact tx_vch hx (by omega) (ve_ch h (by omega) (by omega))
/-- what a release is made of, but its own cell and the two arrays that its requirements are laid in -/
def rl0 (g : zH) (pv pw : Nat) (V : vV) (m : Nat) (wb : Nat → Int32) : Prop := vrAt g pv V ∧ ∃ fb, g pw = some (zaI 0 m fb) ∧ ∀ j, j < m → fb j = wb j
theorem rl0_mono {g h : zH} (l : hle g h) {pv pw m : Nat} {V : vV} {wb : Nat → Int32} (k : rl0 g pv pw V m wb) : rl0 h pv pw V m wb := by
  obtain ⟨a, fb, b, c⟩ := k
  exact ⟨vrAt_mono l a, fb, l _ _ b, c⟩
set_option maxHeartbeats 1000000 in
theorem k_X3_init {d : Nat} {h : zH} {q pk pv pw : Nat} {g : zH} (hg : hle g h) (gq : g q = none) (h1 : h q = some (zO 3 [zI (nI 0), zR none, zR none, zR none, zR none, zI (nI 0), zI (bI false)])) : zCall (d + 1) 35 [zR (some q), zI (nI pk), zR (some pv), zR (some pw)] h 2 13 (fun h' o => ∃ pr pd, o = .inl none ∧ h pr = none ∧ h pd = none ∧ h' q = some (zO 3 [zI (nI pk), zR (some pv), zR (some pw), zR (some pr), zR (some pd), zI (nI 0), zI (bI false)]) ∧ h' pr = some (zaR 5 8 (fun _ => none)) ∧ h' pd = some (zaI 1 5 (fun _ => 0)) ∧ pr ≠ pd ∧ (∀ y, y ≠ q → y ≠ pr → y ≠ pd → h' y = h y)) := by
  refine zCall.of (d := d) (T := tb_35) (L := [some (zR (some q)), some (zI (nI pk)), some (zR (some pv)), some (zR (some pw))]) (Nat.le_of_ble_eq_true rfl) rfl rfl ?_
  have x0 : ext (fun y => y = q) g h g h := ext_refl hg
  refine z_ald rfl rfl ?_
  refine z_oin rfl (Nat.le_of_ble_eq_true rfl) ?_
  refine z_ald rfl rfl ?_
  refine z_ico (x := (nI 8)) rfl rfl ?_
  refine z_newR rfl (by omega) (by omega) (by omega) ?_
  intro q_1 g_2 h_3 e_4 f_5
  have k_6 := (f_5 q (zn0 h1 h_3)).trans h1
  have n_8 := ext_new x0 h_3
  have n_9 := ext_gn x0 h_3
  have x_7 := ext_mut x0 f_5 (Or.inl n_8) n_9 e_4
  refine z_put (e := zO 3 [zI (nI 0), zR none, zR none, zR (some q_1), zR none, zI (nI 0), zI (bI false)]) rfl k_6 (Nat.le_of_ble_eq_true rfl) ⟨_, rfl⟩ rfl ?_
  intro g_10 e_11 f_12
  have k_13 := (f_12 q_1 (zne e_4 k_6 (by nofun))).trans e_4
  have x_14 := ext_mut x_7 f_12 (Or.inr rfl) gq e_11
  refine z_ald rfl rfl ?_
  refine z_ico (x := (nI 5)) rfl rfl ?_
  refine z_newI (e := zaI 1 5 ((fun _ => 0))) rfl (by omega) (by omega) (by omega) rfl ?_
  intro q_15 g_16 h_17 e_18 f_19
  have k_20 := (f_19 q_1 (zn0 k_13 h_17)).trans k_13
  have k_21 := (f_19 q (zn0 e_11 h_17)).trans e_11
  have n_23 := ext_new x_14 h_17
  have n_24 := ext_gn x_14 h_17
  have x_22 := ext_mut x_14 f_19 (Or.inl n_23) n_24 e_18
  refine z_put (e := zO 3 [zI (nI 0), zR none, zR none, zR (some q_1), zR (some q_15), zI (nI 0), zI (bI false)]) rfl k_21 (Nat.le_of_ble_eq_true rfl) ⟨_, rfl⟩ rfl ?_
  intro g_25 e_26 f_27
  have k_28 := (f_27 q_1 (zne k_20 k_21 (by nofun))).trans k_20
  have k_29 := (f_27 q_15 (zne e_18 k_21 (by nofun))).trans e_18
  have x_30 := ext_mut x_22 f_27 (Or.inr rfl) gq e_26
  refine z_ald rfl rfl ?_
  refine z_ild rfl rfl ?_
  refine z_put (e := zO 3 [zI (nI pk), zR none, zR none, zR (some q_1), zR (some q_15), zI (nI 0), zI (bI false)]) rfl e_26 (Nat.le_of_ble_eq_true rfl) ⟨_, rfl⟩ rfl ?_
  intro g_31 e_32 f_33
  have k_34 := (f_33 q_1 (zne k_28 e_26 (by nofun))).trans k_28
  have k_35 := (f_33 q_15 (zne k_29 e_26 (by nofun))).trans k_29
  have x_36 := ext_mut x_30 f_33 (Or.inr rfl) gq e_32
  refine z_ald rfl rfl ?_
  refine z_ald rfl rfl ?_
  refine z_put (e := zO 3 [zI (nI pk), zR (some pv), zR none, zR (some q_1), zR (some q_15), zI (nI 0), zI (bI false)]) rfl e_32 (Nat.le_of_ble_eq_true rfl) ⟨_, rfl⟩ rfl ?_
  intro g_37 e_38 f_39
  have k_40 := (f_39 q_1 (zne k_34 e_32 (by nofun))).trans k_34
  have k_41 := (f_39 q_15 (zne k_35 e_32 (by nofun))).trans k_35
  have x_42 := ext_mut x_36 f_39 (Or.inr rfl) gq e_38
  refine z_ald rfl rfl ?_
  refine z_ald rfl rfl ?_
  refine z_put (e := zO 3 [zI (nI pk), zR (some pv), zR (some pw), zR (some q_1), zR (some q_15), zI (nI 0), zI (bI false)]) rfl e_38 (Nat.le_of_ble_eq_true rfl) ⟨_, rfl⟩ rfl ?_
  intro g_43 e_44 f_45
  have k_46 := (f_45 q_1 (zne k_40 e_38 (by nofun))).trans k_40
  have k_47 := (f_45 q_15 (zne k_41 e_38 (by nofun))).trans k_41
  have x_48 := ext_mut x_42 f_45 (Or.inr rfl) gq e_44
  refine z_rtv rfl ?_
  exact ⟨q_1, q_15, rfl, h_3, n_23, e_44, k_46, k_47, (zne k_46 k_47 (by nofun)), fun y hy hz hw => (f_45 y hy).trans ((f_39 y hy).trans ((f_33 y hy).trans ((f_27 y hy).trans ((f_19 y hw).trans ((f_12 y hy).trans (f_5 y hz))))))⟩
set_option maxHeartbeats 1000000 in
theorem k_add_n {d : Nat} {h : zH} {q pr pd r k : Nat} {pk : Int32} {pv pw : Option Nat} {yk : Bool} {f : Nat → Option Nat} {fd : Nat → Int32} {fsr : List zV} (h1 : h q = some (zO 3 [zI (pk), zR pv, zR pw, zR (some pr), zR (some pd), zI (nI k), zI (bI yk)])) (h2 : h pr = some (zaR 5 8 f)) (h3 : h pd = some (zaI 1 5 fd)) (hr : h r = some (zO 4 fsr)) : zPure (d + 2) 36 [zR (some q), zI (-1), zR (some r)] h (some (zI (nI 0))) := by
  refine zCall.of (d := d + 1) (T := tb_36) (L := [some (zR (some q)), some (zI (-1)), some (zR (some r))]) (Nat.le_of_ble_eq_true rfl) rfl rfl ?_
  refine z_ild rfl rfl ?_
  refine z_callF (as := [zI (-1)]) (r := []) (v := some (zI (bI (isPk (-1))))) rfl rfl rfl (Nat.le_of_ble_eq_true rfl) (by omega) (by omega) (rc1 rfl) k_X9_isPack ?_
  refine z_ifB0 rfl (fun b_1 => ?_) (fun b_1 => ?_)
  · refine z_ico (x := (nI 0)) rfl rfl ?_
    refine z_ret rfl ⟨_, rfl, Or.inl rfl⟩ ?_
    exact ⟨rfl, rfl⟩
  · exact absurd b_1 (by decide +kernel)
set_option maxHeartbeats 1000000 in
theorem k_X3_add {d : Nat} {h : zH} {q pr pd r k : Nat} {pk : Int32} {pv pw : Option Nat} {yk : Bool} {f : Nat → Option Nat} {fd : Nat → Int32} {fsr : List zV} {j : Nat} (h1 : h q = some (zO 3 [zI (pk), zR pv, zR pw, zR (some pr), zR (some pd), zI (nI k), zI (bI yk)])) (h2 : h pr = some (zaR 5 8 f)) (h3 : h pd = some (zaI 1 5 fd)) (hr : h r = some (zO 4 fsr)) (hj : j < 8) (hk : k < 5) : zCall (d + 2) 36 [zR (some q), zI (nI j), zR (some r)] h 0 0 (fun h' o => (o = .inl (some (zI (nI 1))) ∧ f j = none ∧ h' q = some (zO 3 [zI (pk), zR pv, zR pw, zR (some pr), zR (some pd), zI (nI (k + 1)), zI (bI yk)]) ∧ h' pr = some (zaR 5 8 (va_up f j (some r))) ∧ h' pd = some (zaI 1 5 (upd fd k (nI j))) ∧ (∀ y, y ≠ q → y ≠ pr → y ≠ pd → h' y = h y)) ∨ (o = .inl (some (zI (nI 0))) ∧ ¬ f j = none ∧ h = h')) := by
  refine zCall.of (d := d + 1) (T := tb_36) (L := [some (zR (some q)), some (zI (nI j)), some (zR (some r))]) (Nat.le_of_ble_eq_true rfl) rfl rfl ?_
  refine z_ild rfl rfl ?_
  refine z_callF (as := [zI (nI j)]) (r := []) (v := some (zI (bI (isPk (nI j))))) rfl rfl rfl (Nat.le_of_ble_eq_true rfl) (by omega) (by omega) (rc1 rfl) k_X9_isPack ?_
  refine z_ifB0 rfl (fun b_1 => ?_) (fun b_1 => ?_)
  · rw [isPk_n hj] at b_1; cases b_1
  · refine z_ald rfl rfl ?_
    refine z_get rfl h1 rfl ?_
    refine z_ild rfl rfl ?_
    refine z_aald rfl h2 (by omega) (by omega) ?_
    refine z_nn rfl (fun h_2 => ?_) (fun h_2 => ?_)
    · skip
      refine z_ico (x := (nI 0)) rfl rfl ?_
      refine z_ret rfl ⟨_, rfl, Or.inl rfl⟩ ?_
      exact Or.inr ⟨rfl, h_2, rfl⟩
    · skip
      refine z_ald rfl rfl ?_
      refine z_get rfl h1 rfl ?_
      refine z_ico (x := (nI 5)) rfl rfl ?_
      refine z_cmpN (by omega) (by omega) rfl (fun h_3 => ?_) (fun h_3 => ?_)
      · replace h_3 : ¬ k = 5 := h_3
        refine z_ald rfl rfl ?_
        refine z_get rfl h1 rfl ?_
        refine z_ild rfl rfl ?_
        refine z_ald rfl rfl ?_
        refine z_aast rfl h2 (by omega) (by omega) (fun q e => by cases e; exact ⟨_, hr⟩) ?_
        intro g_4 e_5 f_6
        have k_7 := (f_6 q (zne h1 h2 (by nofun))).trans h1
        have k_8 := (f_6 pd (zne h3 h2 (by nofun))).trans h3
        have k_9 := (f_6 r (zne hr h2 (by nofun))).trans hr
        refine z_ald rfl rfl ?_
        refine z_get rfl k_7 rfl ?_
        refine z_ald rfl rfl ?_
        refine z_get rfl k_7 rfl ?_
        refine z_ild rfl rfl ?_
        refine z_iast (x' := (nI j)) rfl k_8 (by omega) (by omega) rfl ?_
        intro g_10 e_11 f_12
        have k_13 := (f_12 q (zne k_7 k_8 (by nofun))).trans k_7
        have k_14 := (f_12 r (zne k_9 k_8 (by nofun))).trans k_9
        have k_15 := (f_12 pr (zne e_5 k_8 (by nofun))).trans e_5
        refine z_ald rfl rfl ?_
        refine z_dup rfl rfl ?_
        refine z_get rfl k_13 rfl ?_
        refine z_ico (x := (nI 1)) rfl rfl ?_
        refine z_ibi (v := (nI (k + 1))) rfl (nI_add _ _) ?_
        refine z_put (e := zO 3 [zI (pk), zR pv, zR pw, zR (some pr), zR (some pd), zI (nI (k + 1)), zI (bI yk)]) rfl k_13 (Nat.le_of_ble_eq_true rfl) ⟨_, rfl⟩ rfl ?_
        intro g_16 e_17 f_18
        have k_19 := (f_18 r (zne k_14 k_13 (by nofun))).trans k_14
        have k_20 := (f_18 pr (zne k_15 k_13 (by nofun))).trans k_15
        have k_21 := (f_18 pd (zne e_11 k_13 (by nofun))).trans e_11
        refine z_ico (x := (nI 1)) rfl rfl ?_
        refine z_ret rfl ⟨_, rfl, Or.inr rfl⟩ ?_
        exact Or.inl ⟨rfl, h_2, e_17, k_20, k_21, fun y hy hz hw => (f_18 y hy).trans ((f_12 y hw).trans (f_6 y hz))⟩
      · replace h_3 : k = 5 := Decidable.of_not_not h_3
        omega
set_option maxHeartbeats 4000000 in
theorem k_X1_release {d : Nat} {h : zH} {p pb pn n a : Nat} {t tc : Nat → Int32} {pk : Nat} {nf : Nat → Int32} {g : zH} (hx : txR n t tc) (hn : n ≤ 160) (ha : a ≤ n) (h1 : h p = some (rdO pb n a pn)) (h2 : h pb = some (zaI 0 160 tc)) (h3 : h pn = some (zaI 1 3 nf)) (hf : ∀ j, j < 160 → fits .byte (.int (tc j)) = true) (hg : hle g h) (gp : g p = none) (gn : g pn = none) : zCall (d + 6) 12 [zR (some p), zI (nI pk)] h (2 * n + 6) (4 * n + 48) (fun h' o => (∃ q pv pw pr pd g' F, o = .inl (some (zR (some q))) ∧ veR t n a ∧ a ≤ veE t n a ∧ veE t n a ≤ n ∧ h' p = some (rdO pb n (veE t n a) pn) ∧ h' pn = some (zaI 1 3 F) ∧ ext (fun y => y = p ∨ y = pn) g h g' h' ∧ (h q = none ∧ g' q = none ∧ h' q = some (zO 3 [zI (nI pk), zR (some pv), zR (some pw), zR (some pr), zR (some pd), zI (nI 0), zI (bI false)])) ∧ (h pr = none ∧ g' pr = none ∧ h' pr = some (zaR 5 8 (fun _ => none))) ∧ (h pd = none ∧ g' pd = none ∧ h' pd = some (zaI 1 5 (fun _ => 0))) ∧ rl0 g' pv pw (veV t n a) (veE t n a - a) (fun j => t (a + j))) ∨ (o = .inl (some (zR none)) ∧ veN t n a ∧ ∃ g', ext (fun y => y = p ∨ y = pn) g h g' h')) := by
  refine zCall.of (d := d + 5) (T := tb_12) (L := [some (zR (some p)), some (zI (nI pk)), none, none, none]) (Nat.le_of_ble_eq_true rfl) rfl rfl ?_
  have x0 : ext (fun y => y = p ∨ y = pn) g h g h := ext_refl hg
  refine z_ald rfl rfl ?_
  refine z_get rfl h1 rfl ?_
  refine z_ist (ls' := [some (zR (some p)), some (zI (nI pk)), some (zI (nI a)), none, none]) rfl (Nat.le_of_ble_eq_true rfl) rfl ?_
  refine z_ald rfl rfl ?_
  refine z_call (as := [zR (some p)]) (r := []) (mc' := 0) (ms' := 0) rfl rfl rfl (Nat.le_of_ble_eq_true rfl) (by omega) (by omega) (rc0 rfl h1) (k_X1_numbers hx hn (a := a) (by omega) h1 h2 h3) (by rintro _ _ (⟨e, _⟩ | ⟨e, _⟩ | ⟨e, _⟩ | ⟨e, _⟩) <;> cases e) ?_
  rintro g_1 _ (⟨e9, x_2, b_3, F_5, l_4, e_6, e_7, f_8⟩ | ⟨e9, x_2, e_6, F_5, e_7, v_9, f_8⟩ | ⟨e9, x_2, e_6, F_5, e_7, v_9, f_8⟩ | ⟨e9, x_2, e_6, F_5, e_7, v_9, f_8⟩) <;> cases e9
  · skip
    have k_10 := (f_8 pb (zne h2 h1 (by nofun)) (zne h2 h3 (by nofun))).trans h2
    have x_11 := ext_mut2 x0 f_8 (Or.inr (Or.inl rfl)) gp e_6 (Or.inr (Or.inr rfl)) gn e_7
    refine z_ico (x := (nI 3)) rfl rfl ?_
    refine z_cmpN (by omega) (by omega) rfl (fun h_12 => ?_) (fun h_12 => ?_)
    · replace h_12 : 0 = 3 := h_12
      omega
    · replace h_12 : ¬ (0 = 3) := h_12
      refine z_nul rfl ?_
      refine z_ret rfl ⟨_, rfl⟩ ?_
      exact Or.inr ⟨rfl, Or.inl x_2, _, x_11⟩
  · skip
    have e_6_a := nb_le1 (by omega) x_2
    have k_13 := (f_8 pb (zne h2 h1 (by nofun)) (zne h2 h3 (by nofun))).trans h2
    have x_14 := ext_mut2 x0 f_8 (Or.inr (Or.inl rfl)) gp e_6 (Or.inr (Or.inr rfl)) gn e_7
    refine z_ico (x := (nI 3)) rfl rfl ?_
    refine z_cmpN (by omega) (by omega) rfl (fun h_15 => ?_) (fun h_15 => ?_)
    · replace h_15 : 1 = 3 := h_15
      omega
    · replace h_15 : ¬ (1 = 3) := h_15
      refine z_nul rfl ?_
      refine z_ret rfl ⟨_, rfl⟩ ?_
      exact Or.inr ⟨rfl, Or.inr (Or.inl x_2), _, x_14⟩
  · skip
    have e_6_a := nb_le2 (by omega) x_2
    have k_16 := (f_8 pb (zne h2 h1 (by nofun)) (zne h2 h3 (by nofun))).trans h2
    have x_17 := ext_mut2 x0 f_8 (Or.inr (Or.inl rfl)) gp e_6 (Or.inr (Or.inr rfl)) gn e_7
    refine z_ico (x := (nI 3)) rfl rfl ?_
    refine z_cmpN (by omega) (by omega) rfl (fun h_18 => ?_) (fun h_18 => ?_)
    · replace h_18 : 2 = 3 := h_18
      omega
    · replace h_18 : ¬ (2 = 3) := h_18
      refine z_nul rfl ?_
      refine z_ret rfl ⟨_, rfl⟩ ?_
      exact Or.inr ⟨rfl, Or.inr (Or.inr (Or.inl x_2)), _, x_17⟩
  · skip
    have e_6_a := nb_le3 (by omega) x_2
    have k_19 := (f_8 pb (zne h2 h1 (by nofun)) (zne h2 h3 (by nofun))).trans h2
    have x_20 := ext_mut2 x0 f_8 (Or.inr (Or.inl rfl)) gp e_6 (Or.inr (Or.inr rfl)) gn e_7
    refine z_ico (x := (nI 3)) rfl rfl ?_
    refine z_cmpN (by omega) (by omega) rfl (fun h_21 => ?_) (fun h_21 => ?_)
    · replace h_21 : 3 = 3 := h_21
      refine z_ald rfl rfl ?_
      refine z_call (as := [zR (some p)]) (r := []) (mc' := (2 * n + 1)) (ms' := (4 * n)) rfl rfl rfl (Nat.le_of_ble_eq_true rfl) (by omega) (by omega) (rc0 rfl e_6) (k_X1_words hx hn (a := spn isDg t n (spn isDg t n (spn isDg t n a + 1) + 1)) (by omega) e_6 k_19 hf x_20.2.1 gp) (by rintro _ _ (⟨_, _, e, _⟩ | ⟨e, _⟩) <;> cases e) ?_
      rintro g_22 _ (⟨q_24, u_25, e9, x_23, e_26, x_27, t_28⟩ | ⟨e9, x_23, b_29, u_25, l_30, e_26, x_27⟩) <;> cases e9
      · skip
        have e_26_a := bwE_le (t := t) (n := n) (a := spn isDg t n (spn isDg t n (spn isDg t n a + 1) + 1)) (by omega)
        have k_31 := (x_27.2.2.2.2 pb (some_nn k_19) (zne k_19 e_6 (by nofun))).trans k_19
        have k_32 := (x_27.2.2.2.2 pn (some_nn e_7) (zne e_7 e_6 (by nofun))).trans e_7
        have n_33 := x_27.2.2.1 p gp (some_nn e_6)
        have n_34 := x_27.2.2.1 pn gn (some_nn e_7)
        have x_35 := ext_call x_20 x_27 (fun y e => by rw [show y = p from e]; exact (Or.inr (Or.inl rfl)))
        obtain ⟨L_q_24, F_q_24, cw_q_24, _⟩ := wsP_mono x_35.2.1 t_28
        refine z_ast (ls' := [some (zR (some p)), some (zI (nI pk)), some (zI (nI a)), some (zR (some q_24)), none]) rfl (Nat.le_of_ble_eq_true rfl) rfl ?_
        refine z_ald rfl rfl ?_
        refine z_nlP rfl ?_
        refine z_ald rfl rfl ?_
        refine z_call (as := [zR (some p)]) (r := []) (mc' := 0) (ms' := 0) rfl rfl rfl (Nat.le_of_ble_eq_true rfl) (by omega) (by omega) (rc0 rfl e_26) (k_X1_skipBuild hx hn (a := bwE t n (spn isDg t n (spn isDg t n (spn isDg t n a + 1) + 1))) (by omega) e_26 k_31) (by rintro _ _ (⟨e, _⟩ | ⟨e, _⟩) <;> cases e) ?_
        rintro g_36 _ (⟨e9, x_37, e_40, f_41⟩ | ⟨e9, x_37, b_38, l_39, e_40, f_41⟩) <;> cases e9
        · skip
          have e_40_a := pbE_le (t := t) (n := n) (a := bwE t n (spn isDg t n (spn isDg t n (spn isDg t n a + 1) + 1))) (by omega)
          have k_42 := (f_41 pb (zne k_31 e_26 (by nofun))).trans k_31
          have k_43 := (f_41 pn (zne k_32 e_26 (by nofun))).trans k_32
          have k_44 := (f_41 q_24 (zne cw_q_24 e_26 (by nofun))).trans cw_q_24
          have x_45 := ext_mut x_35 f_41 (Or.inr (Or.inl rfl)) n_33 e_40
          refine z_ifN (by omega) rfl (fun h_46 => ?_) (fun h_46 => ?_)
          · replace h_46 : 1 = 0 := h_46
            omega
          · replace h_46 : ¬ (1 = 0) := h_46
            refine z_ald rfl rfl ?_
            refine z_get rfl e_40 rfl ?_
            refine z_ild rfl rfl ?_
            refine z_ibi (v := (nI (pbE t n (bwE t n (spn isDg t n (spn isDg t n (spn isDg t n a + 1) + 1))) - a))) rfl (pk_sub (by omega)) ?_
            refine z_ico (x := (nI 24)) rfl rfl ?_
            refine z_cmpN (by omega) (by omega) rfl (fun h_47 => ?_) (fun h_47 => ?_)
            · replace h_47 : pbE t n (bwE t n (spn isDg t n (spn isDg t n (spn isDg t n a + 1) + 1))) - a ≤ 24 := h_47
              refine z_new rfl (by omega) (by omega) ?_
              intro q_48 g_49 h_50 e_51 f_52
              have k_53 := (f_52 pb (zn0 k_42 h_50)).trans k_42
              have k_54 := (f_52 pn (zn0 k_43 h_50)).trans k_43
              have k_55 := (f_52 q_24 (zn0 k_44 h_50)).trans k_44
              have k_56 := (f_52 p (zn0 e_40 h_50)).trans e_40
              have n_58 := ext_new x_45 h_50
              have n_59 := ext_gn x_45 h_50
              have x_57 := ext_mut x_45 f_52 (Or.inl n_58) n_59 e_51
              replace e_51 : g_49 q_48 = some (zO 7 [zI (nI 0), zI (nI 0), zI (nI 0), zR none]) := e_51
              refine z_dup rfl rfl ?_
              refine z_ald rfl rfl ?_
              refine z_get rfl k_56 rfl ?_
              refine z_ico (x := (nI 0)) rfl rfl ?_
              refine z_iald rfl k_54 (by omega) (by omega) ?_
              refine z_top (v2 := zI (nI (nmN t n a))) (congrArg zI v_9.1) ?_
              refine z_ald rfl rfl ?_
              refine z_get rfl k_56 rfl ?_
              refine z_ico (x := (nI 1)) rfl rfl ?_
              refine z_iald rfl k_54 (by omega) (by omega) ?_
              refine z_top (v2 := zI (nI (nmN t n (spn isDg t n a + 1)))) (congrArg zI v_9.2.1) ?_
              refine z_ald rfl rfl ?_
              refine z_get rfl k_56 rfl ?_
              refine z_ico (x := (nI 2)) rfl rfl ?_
              refine z_iald rfl k_54 (by omega) (by omega) ?_
              refine z_top (v2 := zI (nI (nmN t n (spn isDg t n (spn isDg t n a + 1) + 1)))) (congrArg zI v_9.2.2) ?_
              refine z_ald rfl rfl ?_
              refine z_call (as := [zR (some q_48), zI (nI (nmN t n a)), zI (nI (nmN t n (spn isDg t n a + 1))), zI (nI (nmN t n (spn isDg t n (spn isDg t n a + 1) + 1))), zR (some q_24)]) (r := [zR (some q_48)]) (mc' := 0) (ms' := 0) rfl rfl rfl (Nat.le_of_ble_eq_true rfl) (by omega) (by omega) (rc2 rfl) (k_X7_init e_51) (by rintro _ _ ⟨e, _⟩; cases e) ?_
              rintro g_60 _ ⟨e9, e_61, f_62⟩; cases e9
              · skip
                have k_63 := (f_62 pb (zne k_53 e_51 (by nofun))).trans k_53
                have k_64 := (f_62 pn (zne k_54 e_51 (by nofun))).trans k_54
                have k_65 := (f_62 q_24 (zne k_55 e_51 (by nofun))).trans k_55
                have k_66 := (f_62 p (zne k_56 e_51 (by nofun))).trans k_56
                have x_67 := ext_mut x_57 f_62 (Or.inl n_58) n_59 e_61
                refine z_ast (ls' := [some (zR (some p)), some (zI (nI pk)), some (zI (nI a)), some (zR (some q_24)), some (zR (some q_48))]) rfl (Nat.le_of_ble_eq_true rfl) rfl ?_
                obtain ⟨u_68, x_69, l_70, c_71, o_72⟩ := ext_frzE x_67 (Or.inl n_58) n_59 e_61
                have n_73 := (o_72 p (zne k_66 e_61 (by nofun))).trans n_33
                have n_74 := (o_72 pn (zne k_64 e_61 (by nofun))).trans n_34
                have t_75 := wsP_mono l_70 t_28
                have t_76 := vr_of c_71 t_75 (by omega) (by omega)
                refine z_new rfl (by omega) (by omega) ?_
                intro q_77 g_78 h_79 e_80 f_81
                have k_82 := (f_81 pb (zn0 k_63 h_79)).trans k_63
                have k_83 := (f_81 pn (zn0 k_64 h_79)).trans k_64
                have k_84 := (f_81 q_24 (zn0 k_65 h_79)).trans k_65
                have k_85 := (f_81 p (zn0 k_66 h_79)).trans k_66
                have k_86 := (f_81 q_48 (zn0 e_61 h_79)).trans e_61
                have n_88 := ext_new x_69 h_79
                have n_89 := ext_gn x_69 h_79
                have x_87 := ext_mut x_69 f_81 (Or.inl n_88) n_89 e_80
                replace e_80 : g_78 q_77 = some (zO 3 [zI (nI 0), zR none, zR none, zR none, zR none, zI (nI 0), zI (bI false)]) := e_80
                refine z_dup rfl rfl ?_
                refine z_ild rfl rfl ?_
                refine z_ald rfl rfl ?_
                refine z_ald rfl rfl ?_
                refine z_get rfl k_85 rfl ?_
                refine z_ild rfl rfl ?_
                refine z_ald rfl rfl ?_
                refine z_get rfl k_85 rfl ?_
                refine z_call (as := [zR (some pb), zI (nI a), zI (nI (pbE t n (bwE t n (spn isDg t n (spn isDg t n (spn isDg t n a + 1) + 1)))))]) (r := [zR (some q_48), zI (nI pk), zR (some q_77), zR (some q_77)]) (mc' := 1) (ms' := (pbE t n (bwE t n (spn isDg t n (spn isDg t n (spn isDg t n a + 1) + 1))) - a)) rfl rfl rfl (Nat.le_of_ble_eq_true rfl) (by omega) (by omega) (rc1 rfl) (k_J7_copyOfRange_39247 (by omega) (by omega) (by omega) hf (by omega) k_82) (by rintro _ _ ⟨_, e, _⟩; cases e) ?_
                rintro g_91 _ ⟨q_90, e9, h_92, e_93, f_94⟩; cases e9
                · skip
                  have d_95 := (zn0 k_82 h_92)
                  have k_96 := (f_94 pb (zn0 k_82 h_92)).trans k_82
                  have k_97 := (f_94 pn (zn0 k_83 h_92)).trans k_83
                  have k_98 := (f_94 q_24 (zn0 k_84 h_92)).trans k_84
                  have k_99 := (f_94 p (zn0 k_85 h_92)).trans k_85
                  have k_100 := (f_94 q_48 (zn0 k_86 h_92)).trans k_86
                  have k_101 := (f_94 q_77 (zn0 e_80 h_92)).trans e_80
                  have n_103 := ext_new x_87 h_92
                  have n_104 := ext_gn x_87 h_92
                  have x_102 := ext_mut x_87 f_94 (Or.inl n_103) n_104 e_93
                  refine z_call (as := [zR (some q_77), zI (nI pk), zR (some q_48), zR (some q_90)]) (r := [zR (some q_77)]) (mc' := 2) (ms' := 13) rfl rfl rfl (Nat.le_of_ble_eq_true rfl) (by omega) (by omega) (rc2 rfl) (k_X3_init (g := u_68) x_102.2.1 n_89 k_101) (by rintro _ _ ⟨_, _, e, _⟩; cases e) ?_
                  rintro g_105 _ ⟨q_106, q_107, e9, h_108, h_109, e_110, e_111, e_112, d_113, f_114⟩; cases e9
                  · skip
                    have k_115 := (f_114 pb (zne k_96 k_101 (by nofun)) (zn0 k_96 h_108) (zn0 k_96 h_109)).trans k_96
                    have d_116 := (zn0 k_97 h_109)
                    have k_117 := (f_114 pn (zne k_97 k_101 (by nofun)) (zn0 k_97 h_108) d_116).trans k_97
                    have k_118 := (f_114 q_24 (zne k_98 k_101 (by nofun)) (zn0 k_98 h_108) (zn0 k_98 h_109)).trans k_98
                    have k_119 := (f_114 p (zne k_99 k_101 (by nofun)) (zn0 k_99 h_108) (zn0 k_99 h_109)).trans k_99
                    have k_120 := (f_114 q_48 (zne k_100 k_101 (by nofun)) (zn0 k_100 h_108) (zn0 k_100 h_109)).trans k_100
                    have k_121 := (f_114 q_90 (zne e_93 k_101 (by nofun)) (zn0 e_93 h_108) (zn0 e_93 h_109)).trans e_93
                    have n_122 := ext_new x_102 h_108
                    have n_123 := ext_gn x_102 h_108
                    have n_124 := ext_new x_102 h_109
                    have n_125 := ext_gn x_102 h_109
                    have x_126 := ext_mut3 x_102 f_114 (Or.inl n_88) n_89 e_110 (Or.inl n_122) n_123 e_111 (Or.inl n_124) n_125 e_112
                    refine z_ret rfl ⟨_, rfl⟩ ?_
                    obtain ⟨u_127, x_128, l_129, c_130, o_131⟩ := ext_frzE x_126 (Or.inl n_103) n_104 k_121
                    have n_132 := (o_131 p (zne k_119 k_121 (by nofun))).trans n_73
                    have n_133 := (o_131 pn (zne k_117 k_121 (by nofun))).trans n_74
                    have n_134 := (o_131 q_77 (zne e_110 k_121 (by nofun))).trans n_89
                    have n_135 := (o_131 q_106 (zne e_111 k_121 (by nofun))).trans n_123
                    have n_136 := (o_131 q_107 (zne e_112 k_121 (by nofun))).trans n_125
                    have c_137 := l_129 _ _ c_71
                    have t_138 := wsP_mono l_129 t_75
                    have t_139 := vrAt_mono l_129 t_76
                    exact Or.inl ⟨_, _, _, _, _, _, _, rfl, ⟨x_2, x_23, x_37, h_47⟩, (by show a ≤ pbE t n (bwE t n (spn isDg t n (spn isDg t n (spn isDg t n a + 1) + 1))); omega), (by show pbE t n (bwE t n (spn isDg t n (spn isDg t n (spn isDg t n a + 1) + 1))) ≤ n; omega), k_119, k_117, x_128, ⟨n_88, n_134, e_110⟩, ⟨n_122, n_135, e_111⟩, ⟨n_124, n_136, e_112⟩, t_139, _, c_130, fun j hj => ve_bytes hx (by show pbE t n (bwE t n (spn isDg t n (spn isDg t n (spn isDg t n a + 1) + 1))) ≤ n; omega) x_2 hj⟩
            · replace h_47 := Nat.not_le.mp h_47
              refine z_nul rfl ?_
              refine z_ret rfl ⟨_, rfl⟩ ?_
              exact Or.inr ⟨rfl, Or.inr (Or.inr (Or.inr ⟨x_2, Or.inr (Or.inr h_47)⟩)), _, x_45⟩
        · skip
          have k_140 := (f_41 pb (zne k_31 e_26 (by nofun))).trans k_31
          have k_141 := (f_41 pn (zne k_32 e_26 (by nofun))).trans k_32
          have k_142 := (f_41 q_24 (zne cw_q_24 e_26 (by nofun))).trans cw_q_24
          have x_143 := ext_mut x_35 f_41 (Or.inr (Or.inl rfl)) n_33 e_40
          refine z_ifN (by omega) rfl (fun h_144 => ?_) (fun h_144 => ?_)
          · replace h_144 : 0 = 0 := h_144
            refine z_nul rfl ?_
            refine z_ret rfl ⟨_, rfl⟩ ?_
            exact Or.inr ⟨rfl, Or.inr (Or.inr (Or.inr ⟨x_2, Or.inr (Or.inl x_37)⟩)), _, x_143⟩
          · replace h_144 : ¬ (0 = 0) := h_144
            omega
      · skip
        have k_145 := (x_27.2.2.2.2 pb (some_nn k_19) (zne k_19 e_6 (by nofun))).trans k_19
        have k_146 := (x_27.2.2.2.2 pn (some_nn e_7) (zne e_7 e_6 (by nofun))).trans e_7
        have n_147 := x_27.2.2.1 p gp (some_nn e_6)
        have n_148 := x_27.2.2.1 pn gn (some_nn e_7)
        have x_149 := ext_call x_20 x_27 (fun y e => by rw [show y = p from e]; exact (Or.inr (Or.inl rfl)))
        refine z_ast (ls' := [some (zR (some p)), some (zI (nI pk)), some (zI (nI a)), some (zR none), none]) rfl (Nat.le_of_ble_eq_true rfl) rfl ?_
        refine z_ald rfl rfl ?_
        refine z_nlZ rfl ?_
        refine z_nul rfl ?_
        refine z_ret rfl ⟨_, rfl⟩ ?_
        exact Or.inr ⟨rfl, Or.inr (Or.inr (Or.inr ⟨x_2, Or.inl x_23⟩)), _, x_149⟩
    · replace h_21 : ¬ (3 = 3) := h_21
      omega
