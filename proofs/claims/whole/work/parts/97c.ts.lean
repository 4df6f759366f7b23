/-! The calls that read, that search, and those that never throw. -/
theorem oEq_r : ∀ a : Option vV, oEq a a
  | none => oEq_n
  | some _ => oEq_s rfl
theorem sEq_refl (s : sV) : sEq s s := ⟨oEq_r _, oEq_r _, rfl, oEq_r _, rfl⟩
section
variable {h g h1 : zH} {K A : Nat → Nat} {q : Nat} {qa : Nat → Nat} {po c n a v f : Nat} {b : Bool} {r : rA}
def cdP (e : Nat) : Nat := if e = 2 then 1 else if e = 0 then 2 else if e = 1 then 3 else 4
theorem ag_publish (I : lwI h g K A q qa po c n a b v f r) (x : Int32) : zCall 29 75 [zR (some (K 0)), zI x] h (42 * n + 180) (84 * n + 452) (agQ h K q qa po 125 [zI x] (c, n, a, b, v, f, r) cdP false [0, 1, 2, 3]) := by
  have st := I.1
  have hI := I.2.1
  have hv := hI.1.1
  obtain ⟨tc, _, _, hn, _⟩ := st.2.1
  have pR : pF r (pubF n r).2.2 := pub_pF
  have hR : rVs (pubF n r).2.2 v := rVs_pF hI pR (pub_10.trans hI.2.2.2.2.1)
  have hst : ∀ {h1 : zH} g' A', stC h1 g' K A' 0 v f r → stC h1 g' K A' 0 v f (pubF n r).2.2 := fun g' A' z => st_pF z hI pR
  rcases pk_cs x with ⟨p, hp, e⟩ | ⟨hx, hxx⟩
  · subst e
    refine zCall_mono _ _ _ _ _ _ _ _ (fun h1 o z => ?_) (k_X9_publish (d := 20) st hI hp)
    rcases z with ⟨y1, rfl, pp⟩ | ⟨y1, y2, y3, rfl, pp⟩ | ⟨y1, y2, y3, y4, rfl, pp⟩ | ⟨y1, y2, y3, y4, rfl, ⟨m, len, hH⟩, pp⟩
    · exact ag_fun I pp (by omega) (c_publish2 (d := 22) hn (pub_le hn) hp y1) hst rfl hR (Or.inr (Or.inr ⟨0, rfl, rfl, by decide, by decide⟩)) (rs_e (by decide))
    · exact ag_fun I pp (by omega) (c_publish3 (d := 22) hn (pub_le hn) hp y1 hv y2 hR.1.2.1 y3) hst rfl hR (Or.inr (Or.inr ⟨1, rfl, rfl, by decide, by decide⟩)) (rs_e (by decide))
    · exact ag_fun I pp (by omega) (c_publish4 (d := 22) hn (pub_le hn) hp y1 hv y2 hR.1.2.1 y3 y4) hst rfl hR (Or.inr (Or.inr ⟨3, rfl, rfl, by decide, by decide⟩)) (rs_e (by decide))
    · exact ag_fun I pp (by omega) (c_publish0 (d := 22) hn (pub_le hn) hp y1 hv y2 hR.1.2.1 y3 y4 hH.2.2.2.1.2 hH.2.2.2.1.1) (fun _ _ z => z) rfl (pb_V hR hH (pb_O hH)).1 (Or.inl ⟨_, rfl, rfl, rfl⟩) rs_v
  · refine zCall_mono _ _ _ _ _ _ _ _ (fun h1 o z => ?_) (k_publishX (d := 20) st hxx)
    obtain ⟨rfl, pp⟩ := z
    exact ag_fun I pp (by omega) (c_publishX (d := 22) hn (pub_le hn) hx) hst rfl hR (Or.inr (Or.inr ⟨2, rfl, rfl, by decide, by decide⟩)) (rs_e (by decide))
def cdW (e : Nat) : Nat := if e = 2 then 1 else 2
theorem rq_at {R : rA} {y : Nat} (hK : rqK R y) : R 12 y = nI (cnt R y) ∧ cnt R y ≤ 5 ∧ ∀ m, m < cnt R y → rowOK R (41 + 4 * y + m) := ⟨hK.1, by have := hK.2.1; omega, fun m hm => (hK.2.2 m hm).1⟩
theorem ag_want (I : lwI h g K A q qa po c n a b v f r) (x : Int32) : zCall 29 77 [zR (some (K 0)), zI x] h (8 * n + 37) (16 * n + 91) (agQ h K q qa po 129 [zI x] (c, n, a, b, v, f, r) cdW true [0, 2]) := by
  have st := I.1
  have hI := I.2.1
  obtain ⟨tc, _, _, hn, _⟩ := st.2.1
  have pR : pF r (rqR 213 n 0 r).2.2 := rqR_pF (Nat.zero_le _) ⟨by omega, by omega⟩
  have hR : rVs (rqR 213 n 0 r).2.2 v := rVs_pF hI pR (rqR_10.trans hI.2.2.2.2.1)
  have hst : ∀ {h1 : zH} g' A', stC h1 g' K A' 0 v f r → stC h1 g' K A' 0 v f (rqR 213 n 0 r).2.2 := fun g' A' z => st_pF z hI pR
  rcases pk_cs x with ⟨p, hp, e⟩ | ⟨hx, hxx⟩
  · subst e
    refine zCall_mono _ _ _ _ _ _ _ _ (fun h1 o z => ?_) (k_X9_want (d := 20) st hI hp)
    rcases z with ⟨y1, y3, rfl, pp⟩ | ⟨y1, rfl, pp⟩
    · exact ag_fun I pp (by omega) (c_want0 (d := 22) hn hp y1) (fun _ _ z => z) rfl (wt_rVs hp hR y3) (Or.inr (Or.inl ⟨rfl, rfl, rfl⟩)) rs_n
    · exact ag_fun I pp (by omega) (c_want2 (d := 22) hn hp y1) hst rfl hR (Or.inr (Or.inr ⟨0, rfl, rfl, by decide, by decide⟩)) (rs_e (by decide))
  · refine zCall_mono _ _ _ _ _ _ _ _ (fun h1 o z => ?_) (k_wantX (d := 20) st hxx)
    obtain ⟨rfl, pp⟩ := z
    exact ag_fun I pp (by omega) (c_wantX (d := 22) hn hx) hst rfl hR (Or.inr (Or.inr ⟨2, rfl, rfl, by decide, by decide⟩)) (rs_e (by decide))
theorem ag_meets (I : lwI h g K A q qa po c n a b v f r) (x : Int32) : zCall 29 84 [zR (some (K 0)), zI x] h (8 * n + 37) (16 * n + 91) (agQ h K q qa po 144 [zI x] (c, n, a, b, v, f, r) cdW false [0, 2]) := by
  have st := I.1
  have hI := I.2.1
  have hv := hI.1.1
  obtain ⟨tc, _, _, hn, _⟩ := st.2.1
  have pR : pF r (rqR 213 n 0 r).2.2 := rqR_pF (Nat.zero_le _) ⟨by omega, by omega⟩
  have hR : rVs (rqR 213 n 0 r).2.2 v := rVs_pF hI pR (rqR_10.trans hI.2.2.2.2.1)
  have hst : ∀ {h1 : zH} g' A', stC h1 g' K A' 0 v f r → stC h1 g' K A' 0 v f (rqR 213 n 0 r).2.2 := fun g' A' z => st_pF z hI pR
  rcases ve_cs x hv with ⟨i, hi, e⟩ | ⟨hx, hxx⟩
  · subst e
    refine zCall_mono _ _ _ _ _ _ _ _ (fun h1 o z => ?_) (k_X9_meets (d := 20) st hi)
    rcases z with ⟨y1, y3, rfl, pp⟩ | ⟨y1, rfl, pp⟩
    · have q3 := rq_at y3
      have ev : imF (qR (rqR 213 n 0 r).2.2 213) (rowV r i) = maF (rqR 213 n 0 r).2.2 213 i := by
        rw [ma_eq (hR.1.2.1 i hi).1 y3]
        exact imF_cg rfl (fun k hk => sEq_refl _) (sm_row ((pF_sm pR).1 i (by omega)).1 (hI.1.2.1 i hi)).2
      exact ag_fun I pp (by omega) (c_meets0 (d := 22) hn hv hi (hR.1.2.1 i hi) q3.1 q3.2.1 q3.2.2 y1) hst rfl hR (Or.inl ⟨_, rfl, by rw [ev], rfl⟩) rs_v
    · exact ag_fun I pp (by omega) (c_meets2 (d := 22) hn hv hi y1) hst rfl hR (Or.inr (Or.inr ⟨0, rfl, rfl, by decide, by decide⟩)) (rs_e (by decide))
  · refine zCall_mono _ _ _ _ _ _ _ _ (fun h1 o z => ?_) (k_meetsX (d := 20) st hxx)
    obtain ⟨rfl, pp⟩ := z
    exact ag_fun I pp (by omega) (c_meetsX (d := 22) hn hx) hst rfl hR (Or.inr (Or.inr ⟨2, rfl, rfl, by decide, by decide⟩)) (rs_e (by decide))
/-- the best one, on both sides -/
theorem best_eq {R : rA} {p : Nat} (hI : rVs r v) (pR : pF r R) (hR : rVs R v) (hK : rqK R 213) : ∀ k, k ≤ v → bsF R (nI p) k = oI (hgF r p (qR R 213) k)
  | 0, _ => rfl
  | k + 1, hk => by
    have hv := hI.1.1
    have ih := best_eq (p := p) hI pR hR hK k (by omega)
    have sm := pF_sm pR
    have im : maF R 213 k = imF (qR R 213) (rowV r k) := by
      rw [ma_eq (hR.1.2.1 k (by omega)).1 hK]
      exact (imF_cg rfl (fun k hk => sEq_refl _) (sm_row (sm.1 k (by omega)).1 (hI.1.2.1 k (by omega))).2).symm
    rw [bsF, hgF, ih, pR.2.1 16 (by omega), pR.2.1 17 (by omega), im]
    by_cases c1 : r 16 k = nI p
    · rw [if_pos c1]
      by_cases c2 : r 17 k = 0
      · rw [if_pos c2]
        by_cases c3 : imF (qR R 213) (rowV r k) = true
        · rw [if_pos c3, if_pos (And.intro c1 (And.intro c2 c3))]
          cases e : hgF r p (qR R 213) k with
          | none => exact if_pos rfl
          | some j =>
            have hj := hgF_lt k j e
            show (if nI j = -1 then nI k else if ordF R k (wsz R k) (nI j).toNatClampNeg (wsz R (nI j).toNatClampNeg) ≤ 0 then nI j else nI k) = nI (if ordV (rowV r j) (rowV r k) < 0 then k else j)
            rw [if_neg (nI_ne1 (by omega)), nI_clamp (by omega), ord_eq, ← ordV_cg (sm_row (sm.1 k (by omega)).1 (hI.1.2.1 k (by omega))).2 (sm_row (sm.1 j (by omega)).1 (hI.1.2.1 j (by omega))).2]
            by_cases z : ordV (rowV r j) (rowV r k) < 0
            · rw [if_pos z, if_neg (fun w => by
                have := ord_pos.mpr z
                rw [Int32.lt_iff_toInt_lt] at this
                rw [Int32.le_iff_toInt_le] at w
                omega)]
            · rw [if_neg z, if_pos (Classical.byContradiction (fun w => z (ord_pos.mp (by
                rw [Int32.lt_iff_toInt_lt]
                rw [Int32.le_iff_toInt_le] at w
                omega))))]
        · rw [if_neg c3, if_neg (fun w => c3 w.2.2)]
      · rw [if_neg c2, if_neg (fun w => c2 w.2.1)]
    · rw [if_neg c1, if_neg (fun w => c1 w.1)]
theorem ag_best (I : lwI h g K A q qa po c n a b v f r) (x : Int32) : zCall 29 85 [zR (some (K 0)), zI x] h (8 * n + 37) (16 * n + 91) (agQ h K q qa po 145 [zI x] (c, n, a, b, v, f, r) cdW false [0, 2]) := by
  have st := I.1
  have hI := I.2.1
  have hv := hI.1.1
  obtain ⟨tc, _, _, hn, _⟩ := st.2.1
  have pR : pF r (rqR 213 n 0 r).2.2 := rqR_pF (Nat.zero_le _) ⟨by omega, by omega⟩
  have hR : rVs (rqR 213 n 0 r).2.2 v := rVs_pF hI pR (rqR_10.trans hI.2.2.2.2.1)
  have hst : ∀ {h1 : zH} g' A', stC h1 g' K A' 0 v f r → stC h1 g' K A' 0 v f (rqR 213 n 0 r).2.2 := fun g' A' z => st_pF z hI pR
  rcases pk_cs x with ⟨p, hp, e⟩ | ⟨hx, hxx⟩
  · subst e
    refine zCall_mono _ _ _ _ _ _ _ _ (fun h1 o z => ?_) (k_X9_best (d := 20) st hp)
    rcases z with ⟨y1, y3, rfl, pp⟩ | ⟨y1, rfl, pp⟩
    · have q3 := rq_at y3
      exact ag_fun I pp (by omega) (c_best0 (d := 22) hn hv hp hR.1.2.1 q3.1 q3.2.1 q3.2.2 y1) hst rfl hR (Or.inl ⟨_, rfl, by rw [best_eq hI pR hR y3 v (Nat.le_refl _)], rfl⟩) rs_v
    · exact ag_fun I pp (by omega) (c_best2 (d := 22) hn hv hp y1) hst rfl hR (Or.inr (Or.inr ⟨0, rfl, rfl, by decide, by decide⟩)) (rs_e (by decide))
  · refine zCall_mono _ _ _ _ _ _ _ _ (fun h1 o z => ?_) (k_bestX (d := 20) st hxx)
    obtain ⟨rfl, pp⟩ := z
    exact ag_fun I pp (by omega) (c_bestX (d := 22) hn hv hx) hst rfl hR (Or.inr (Or.inr ⟨2, rfl, rfl, by decide, by decide⟩)) (rs_e (by decide))
/-! solve -/
theorem ag_solve (I : lwI h g K A q qa po c n a b v f r) : zCall 29 79 [zR (some (K 0))] h 1 6 (agQ h K q qa po 138 [] (c, n, a, b, v, f, r) cd1 false [1]) := by
  have st := I.1
  have hI := I.2.1
  have hv := hI.1.1
  have hc := c_solve (q := q) (qa := qa) (d := 22) (c := c) (n := n) (a := a) (f := f) (b := b) hv hI.1.2.1 (fun k hk => rq_at (hI.2.1.1 k (by omega))) hI.1.2.2.2.1 hI.2.1.2.1
  refine zCall_mono _ _ _ _ _ _ _ _ (fun h1 o z => ?_) (k_X9_solve (d := 5) st hI)
  rcases z with ⟨rfl, pp, hno⟩ | ⟨G, rfl, pp, ⟨tg, htg⟩, hG, hG3⟩
  · obtain ⟨o1, g', A', o2, st', o3⟩ := po_own I pp (by omega)
    refine ⟨o1, rs_e (by decide), g', A', o2, fun t w => w = some (zI (nI 0)) ∧ ∃ r', t = (1, n, a, b, v, f, r') ∧ ∀ j, j < 25 → r' j = r j, fun h2 hr => zCall_mono _ _ _ _ _ _ _ _ (fun h3 o z => ?_) (hc h2 hr), ?_⟩
    · obtain ⟨t, z1, z2, r', z3⟩ := z
      rcases z3 with ⟨e1, e2, e3, e4⟩ | ⟨t9, e1, e2, _⟩
      · exact ⟨t, z1, z2, _, e2, rfl, r', e1, e3⟩
      · exact absurd e2 (hno t9)
    · rintro c9 n9 a9 b9 v9 f9 r9 w9 ⟨ew, r', e1, e2⟩
      cases e1
      exact ⟨⟨st_r st' hI.1 hI.2.1.1 (rSm_of (fun j hj => e2 j (by omega))) (e2 2 (by omega)) (fun i _ => by rw [e2 17 (by omega)]) (fun i _ => by rw [e2 20 (by omega)]) (fun i _ => by rw [e2 21 (by omega)]) (fun i _ => by rw [e2 22 (by omega)]) (fun i _ => by rw [e2 24 (by omega)]), rVs_id hI (fun j hj => e2 j (by omega)), o3⟩, Or.inr ⟨rfl, _, ew⟩, rel1 (w := w9) rfl⟩
  · obtain ⟨o1, g', A', o2, st', o3⟩ := po_own I pp (by omega)
    have hn22 : ∀ j, j ≠ 22 → rwr r 22 G j = r j := fun j hj => rwr_n hj
    have h22 : rwr r 22 G 22 = G := rwr_s _ _ _
    have hI0 : rVs (rwr r 22 G) v := rVs_of hI (fun j hj => hn22 j (by omega)) (by rw [hn22 17 (by omega)]; exact hI.2.2.2.1) (fun k hk => by rw [w0, hn22 20 (by omega)]; exact hI.2.1.2.1 k hk) (by rw [hn22 21 (by omega)]; exact hI.2.1.2.2.2) (by rw [h22]; exact hG3)
    refine ⟨o1, rs_v, g', A', o2, fun t w => ∃ r', t = (0, n, a, b, v, f, r') ∧ (∀ j, j < 25 → j ≠ 22 → r' j = r j) ∧ (∀ k, k < 8 → r' 22 k = G k) ∧ w = some (zI (nI (cntF G 8))), fun h2 hr => zCall_mono _ _ _ _ _ _ _ _ (fun h3 o z => ?_) (hc h2 hr), ?_⟩
    · obtain ⟨t, z1, z2, r', z3⟩ := z
      rcases z3 with ⟨e1, e2, e3, e4⟩ | ⟨t9, e1, e2, e3, e4, e5, e6⟩
      · exact absurd htg (e4 tg)
      · have eG := hG t9 e2 e3
        exact ⟨t, z1, z2, _, e6, r', e1, e4, fun k hk => (e5 k hk).trans (eG k hk), by rw [cntF_c 8 eG]⟩
    · rintro c9 n9 a9 b9 v9 f9 r9 w9 ⟨r', e1, e2, e3, e4⟩
      cases e1
      refine ⟨⟨st_r st' hI0.1 hI0.2.1.1 (rSm_of (fun j hj => (e2 j (by omega) (by omega)).trans (hn22 j (by omega)).symm)) ((e2 2 (by omega) (by omega)).trans (hn22 2 (by omega)).symm) (fun i _ => by rw [e2 17 (by omega) (by omega), hn22 17 (by omega)]) (fun i _ => by rw [e2 20 (by omega) (by omega), hn22 20 (by omega)]) (fun i _ => by rw [e2 21 (by omega) (by omega), hn22 21 (by omega)]) (fun i hi => by rw [h22]; exact e3 i hi) (fun i _ => by rw [e2 24 (by omega) (by omega), hn22 24 (by omega)]), rVs_of hI (fun j hj => e2 j (by omega) (by omega)) (by rw [e2 17 (by omega) (by omega)]; exact hI.2.2.2.1) (fun k hk => by rw [w0, e2 20 (by omega) (by omega)]; exact hI.2.1.2.1 k hk) (by rw [e2 21 (by omega) (by omega)]; exact hI.2.1.2.2.2) (fun p hp => by rw [e3 p hp]; exact hG3 p hp), o3⟩, Or.inr ⟨rfl, _, e4⟩, Or.inl ⟨_, rfl, e4, rfl⟩⟩
/-! those that never throw -/
theorem ag_lock (I : lwI h g K A q qa po c n a b v f r) : zCall 30 81 [zR (some (K 0))] h 0 0 (agQ h K q qa po 141 [] (c, n, a, b, v, f, r) cd1 false []) := by
  have st := I.1
  have hI := I.2.1
  refine zCall_mono _ _ _ _ _ _ _ _ (fun h1 o z => ?_) (k_X9_lock (d := 28) st hI)
  obtain ⟨rfl, p⟩ := z
  have e : ∀ p, p < 8 → rfil r 21 (r 22) 8 21 p = r 22 p := fun p hp => fil_lt hp
  exact ag_fun I p (by omega) (c_lock (d := 28)) (fun _ _ z => z) rfl (rVs_21 hI (fun j hj => rfil_n hj) (fun p hp => by rw [e p hp]; exact (hI.2.2.1 p hp).imp id (fun ⟨i, x, y, _⟩ => ⟨i, x, y⟩))) (Or.inl ⟨_, rfl, by rw [cntF_c 8 e], rfl⟩) rs_v
theorem ag_unlock (I : lwI h g K A q qa po c n a b v f r) : zCall 30 83 [zR (some (K 0))] h 0 0 (agQ h K q qa po 143 [] (c, n, a, b, v, f, r) cd1 false []) := by
  have st := I.1
  have hI := I.2.1
  refine zCall_mono _ _ _ _ _ _ _ _ (fun h1 o z => ?_) (k_X9_unlock (d := 28) st hI)
  obtain ⟨rfl, p⟩ := z
  exact ag_fun I p (by omega) (c_unlock (d := 28)) (fun _ _ z => z) rfl (rVs_21 hI (fun j hj => rfil_n hj) (fun p hp => Or.inl (fil_lt hp))) (Or.inl ⟨_, rfl, rfl, rfl⟩) rs_v
theorem yk_cb (r : rA) : ∀ k, ykN r k = cntB (r 17) k
  | 0 => rfl
  | k + 1 => by rw [ykN, cntB, yk_cb r k]
theorem ag_told (I : lwI h g K A q qa po c n a b v f r) (x : Int32) : zCall 30 88 [zR (some (K 0)), zI x] h 0 0 (agQ h K q qa po 148 [zI x] (c, n, a, b, v, f, r) cd1 false []) := by
  have st := I.1
  have hI := I.2.1
  have hv := hI.1.1
  by_cases h0 : x = nI 0
  · subst h0
    refine zCall_mono _ _ _ _ _ _ _ _ (fun h1 o z => ?_) (k_told0 (d := 28) st)
    obtain ⟨rfl, rfl⟩ := z
    exact ag_fun I (po_id st) (by omega) (c_told0 (d := 28) hv) (fun _ _ z => z) rfl hI (Or.inl ⟨_, rfl, rfl, rfl⟩) rs_v
  by_cases g1 : x = nI 1
  · subst g1
    refine zCall_mono _ _ _ _ _ _ _ _ (fun h1 o z => ?_) (k_told1 (d := 28) st)
    obtain ⟨rfl, rfl⟩ := z
    exact ag_fun I (po_id st) (by omega) (c_told1 (d := 28) hv) (fun _ _ z => z) rfl hI (Or.inl ⟨_, rfl, by rw [yk_cb], rfl⟩) rs_v
  by_cases h2 : x = nI 2
  · subst h2
    refine zCall_mono _ _ _ _ _ _ _ _ (fun h1 o z => ?_) (k_told2 (d := 28) st)
    obtain ⟨rfl, rfl⟩ := z
    exact ag_fun I (po_id st) (by omega) (c_told2 (d := 28) hv) (fun _ _ z => z) rfl hI (Or.inl ⟨_, rfl, rfl, rfl⟩) rs_v
  by_cases h3 : x = nI 3
  · subst h3
    refine zCall_mono _ _ _ _ _ _ _ _ (fun h1 o z => ?_) (k_told3 (d := 28) st)
    obtain ⟨rfl, rfl⟩ := z
    exact ag_fun I (po_id st) (by omega) (c_told3 (d := 28) hv) (fun _ _ z => z) rfl hI (Or.inl ⟨_, rfl, rfl, rfl⟩) rs_v
  by_cases h4 : x = nI 4
  · subst h4
    refine zCall_mono _ _ _ _ _ _ _ _ (fun h1 o z => ?_) (k_told4 (d := 28) st)
    obtain ⟨rfl, rfl⟩ := z
    exact ag_fun I (po_id st) (by omega) (c_told4 (d := 28) hv) (fun _ _ z => z) rfl hI (Or.inl ⟨_, rfl, rfl, rfl⟩) rs_v
  refine zCall_mono _ _ _ _ _ _ _ _ (fun h1 o z => ?_) (k_toldX (d := 28) st h0 g1 h2 h3 h4)
  obtain ⟨rfl, rfl⟩ := z
  exact ag_fun I (po_id st) (by omega) (c_toldX (d := 28) hv h0 g1 h2 h3 h4) (fun _ _ z => z) rfl hI (Or.inl ⟨_, rfl, rfl, rfl⟩) rs_v
theorem ag_write (I : lwI h g K A q qa po c n a b v f r) : zCall 30 89 [zR (some (K 0))] h 0 0 (agQ h K q qa po 150 [] (c, n, a, b, v, f, r) cd1 false []) := by
  have st := I.1
  have hI := I.2.1
  have hv := hI.1.1
  refine zCall_mono _ _ _ _ _ _ _ _ (fun h1 o z => ?_) (k_X9_write (d := 26) st hI)
  obtain ⟨rfl, p⟩ := z
  have hC2 : ∀ p, p < 8 → r 22 p = -1 ∨ ∃ i, i < 40 ∧ r 22 p = nI i ∧ ∃ m, m ≤ 24 ∧ r 18 i = nI m := fun p hp => (hI.2.2.1 p hp).imp id (fun z => by
    obtain ⟨i, a, b, _⟩ := z
    obtain ⟨m, m1, m2, _⟩ := hI.2.2.2.2.2.1 i a
    exact ⟨i, by omega, b, m, m1, m2⟩)
  exact ag_fun I p (by omega) (c_write (d := 28) hC2) (fun _ _ z => z) rfl (rVs_id hI (fun j hj => wfF_n r 8 j (by omega))) (Or.inl ⟨_, rfl, rfl, rfl⟩) rs_v
end
