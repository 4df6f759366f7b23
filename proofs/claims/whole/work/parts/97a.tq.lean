/-! The class's constructors. -/
def kIni (k : Nat) : Nat → Int32 := fun j => if 40 ≤ j ∧ j < 40 + k then nI (j - 40) else 0
def oIni (k : Nat) : Nat → Int64 := fun j => if j < k then zlsh 0 1 (nI (40 + j)) else 0
theorem kIni_s (k : Nat) : upd (kIni k) (40 + k) (nI k) = kIni (k + 1) := by
  funext j
  unfold upd kIni
  by_cases e : j = 40 + k
  · rw [if_pos e, if_pos (by omega), show j - 40 = k by omega]
  · rw [if_neg e]
    by_cases c : 40 ≤ j ∧ j < 40 + k
    · rw [if_pos c, if_pos (by omega)]
    · rw [if_neg c, if_neg (by omega)]
theorem oIni_s (k : Nat) : vp_updL (oIni k) k (zlsh 0 1 (nI (40 + k))) = oIni (k + 1) := by
  funext j
  by_cases e : j = k
  · rw [e, upL_s]; unfold oIni; rw [if_pos (by omega)]
  · rw [upL_n _ _ e]
    unfold oIni
    by_cases c : j < k
    · rw [if_pos c, if_pos (by omega)]
    · rw [if_neg c, if_neg (by omega)]
theorem kIni_0 : kIni 0 = fun _ => 0 := by funext j; exact if_neg (by omega)
theorem oIni_0 : oIni 0 = fun _ => 0 := by funext j; exact if_neg (by omega)
theorem ext_mut5 {M : Nat → Prop} {g h g' h' h2 : zH} (x : ext M g h g' h') {p r u v w : Nat} {e1 e2 e3 e4 e5 : zE} (fr : ∀ y, y ≠ p → y ≠ r → y ≠ u → y ≠ v → y ≠ w → h2 y = h' y) (hp : h p = none ∨ M p) (hg : g' p = none) (hn : h2 p = some e1) (hp2 : h r = none ∨ M r) (hg2 : g' r = none) (hn2 : h2 r = some e2) (hp3 : h u = none ∨ M u) (hg3 : g' u = none) (hn3 : h2 u = some e3) (hp4 : h v = none ∨ M v) (hg4 : g' v = none) (hn4 : h2 v = some e4) (hp5 : h w = none ∨ M w) (hg5 : g' w = none) (hn5 : h2 w = some e5) : ext M g h g' h2 := by
  have c : ∀ y, (y = p ∨ y = r ∨ y = u ∨ y = v ∨ y = w) → (h y = none ∨ M y) ∧ g' y = none ∧ h2 y ≠ none := fun y z => by
    rcases z with z | z | z | z | z <;> rw [z]
    · exact ⟨hp, hg, some_nn hn⟩
    · exact ⟨hp2, hg2, some_nn hn2⟩
    · exact ⟨hp3, hg3, some_nn hn3⟩
    · exact ⟨hp4, hg4, some_nn hn4⟩
    · exact ⟨hp5, hg5, some_nn hn5⟩
  have o : ∀ y, ¬ (y = p ∨ y = r ∨ y = u ∨ y = v ∨ y = w) → h2 y = h' y := fun y z => fr y (fun a => z (by omega)) (fun a => z (by omega)) (fun a => z (by omega)) (fun a => z (by omega)) (fun a => z (by omega))
  refine ⟨x.1, fun y e z => ?_, x.2.2.1, fun y z => ?_, fun y z m => ?_⟩
  · by_cases q : y = p ∨ y = r ∨ y = u ∨ y = v ∨ y = w
    · rw [(c y q).2.1] at z; cases z
    · rw [o y q]; exact x.2.1 y e z
  · by_cases q : y = p ∨ y = r ∨ y = u ∨ y = v ∨ y = w
    · exact (c y q).2.2
    · rw [o y q]; exact x.2.2.2.1 y z
  · have q : ¬ (y = p ∨ y = r ∨ y = u ∨ y = v ∨ y = w) := fun q => (c y q).1.elim (fun n => z n) m
    rw [o y q]; exact x.2.2.2.2 y z m
theorem nd_inj {L : List Nat} (h : L.Nodup) : ∀ i j, i < L.length → j < L.length → L.getD i 0 = L.getD j 0 → i = j := fun i j hi hj e => by
  rw [show L.getD i 0 = L[i] by simp [List.getD_eq_getElem?_getD, List.getElem?_eq_getElem hi], show L.getD j 0 = L[j] by simp [List.getD_eq_getElem?_getD, List.getElem?_eq_getElem hj]] at e
  exact (List.getElem_inj h).mp e
set_option maxHeartbeats 1000000 in
theorem k_X0_init {d : Nat} {h : zH} {q m : Nat} (h1 : h q = some (zO 0 [zR none, zI (nI 0)])) (hm : m ≤ 100000) : zCall (d + 1) 7 [zR (some q), zI (nI m)] h 1 m (fun h' o => ∃ pa, o = .inl none ∧ h pa = none ∧ h' q = some (zO 0 [zR (some pa), zI (nI 0)]) ∧ h' pa = some (zaI 0 m (fun _ => 0)) ∧ (∀ y, y ≠ q → y ≠ pa → h' y = h y)) := by
  refine zCall.of (d := d) (T := tb_7) (L := [some (zR (some q)), some (zI (nI m))]) (Nat.le_of_ble_eq_true rfl) rfl rfl ?_
  refine z_ald rfl rfl ?_
  refine z_oin rfl (Nat.le_of_ble_eq_true rfl) ?_
  refine z_ald rfl rfl ?_
  refine z_ild rfl rfl ?_
  refine z_newI (e := zaI 0 m ((fun _ => 0))) rfl (by omega) (by omega) (by omega) rfl ?_
  intro q_1 g_2 h_3 e_4 f_5
  have k_6 := (f_5 q (zn0 h1 h_3)).trans h1
  refine z_put (e := zO 0 [zR (some q_1), zI (nI 0)]) rfl k_6 (Nat.le_of_ble_eq_true rfl) ⟨_, rfl⟩ rfl ?_
  intro g_7 e_8 f_9
  have k_10 := (f_9 q_1 (zne e_4 k_6 (by nofun))).trans e_4
  refine z_rtv rfl ?_
  exact ⟨q_1, rfl, h_3, e_8, k_10, fun y hy hz => (f_9 y hy).trans (f_5 y hz)⟩
set_option maxHeartbeats 1000000 in
theorem k_X2_init {d : Nat} {h : zH} {q : Nat} (h1 : h q = some (zO 2 [zR none, zI (nI 0)])) : zCall (d + 1) 27 [zR (some q)] h 1 40 (fun h' o => ∃ pa, o = .inl none ∧ h pa = none ∧ h' q = some (zO 2 [zR (some pa), zI (nI 0)]) ∧ h' pa = some (zaR 4 40 (fun _ => none)) ∧ (∀ y, y ≠ q → y ≠ pa → h' y = h y)) := by
  refine zCall.of (d := d) (T := tb_27) (L := [some (zR (some q))]) (Nat.le_of_ble_eq_true rfl) rfl rfl ?_
  refine z_ald rfl rfl ?_
  refine z_oin rfl (Nat.le_of_ble_eq_true rfl) ?_
  refine z_ald rfl rfl ?_
  refine z_ico (x := (nI 40)) rfl rfl ?_
  refine z_newR rfl (by omega) (by omega) (by omega) ?_
  intro q_1 g_2 h_3 e_4 f_5
  have k_6 := (f_5 q (zn0 h1 h_3)).trans h1
  refine z_put (e := zO 2 [zR (some q_1), zI (nI 0)]) rfl k_6 (Nat.le_of_ble_eq_true rfl) ⟨_, rfl⟩ rfl ?_
  intro g_7 e_8 f_9
  have k_10 := (f_9 q_1 (zne e_4 k_6 (by nofun))).trans e_4
  refine z_rtv rfl ?_
  exact ⟨q_1, rfl, h_3, e_8, k_10, fun y hy hz => (f_9 y hy).trans (f_5 y hz)⟩
set_option maxHeartbeats 1000000 in
theorem kl_si {d : Nat} {mc ms c s : Nat} {Q : zQ}  {q pg po pt pc pp : Nat}   : ∀ k, k ≤ 8 → ∀ (h : zH) (hs : h q = some (srO pg po pt pc pp 0)) (hK : h po = some (zaI 1 48 (kIni k))) (hO : h pt = some (zaJ 8 (oIni k))) (hQ : ∀ h', h' po = some (zaI 1 48 (kIni 8)) → h' pt = some (zaJ 8 (oIni 8)) → (∀ y, y ≠ po → y ≠ pt → h' y = h y) → Q h' (.inl none)), zEv d tb_43 mc ms Q 43 [some (zR (some q)), some (zR (some pg)), some (zI (nI k))] [] h c s := by
  refine dn 8 (fun k hk ih h hs hK hO hQ => ?_)
  refine z_ild rfl rfl ?_
  refine z_ico (x := (nI 8)) rfl rfl ?_
  refine z_cmpN (by omega) (by omega) rfl (fun h_1 => ?_) (fun h_1 => ?_)
  · replace h_1 : 8 ≤ k := h_1
    refine z_rtv rfl ?_
    have e : k = 8 := by omega
    subst e
    exact hQ _ hK hO (fun _ _ _ => rfl)
  · replace h_1 := Nat.not_le.mp h_1
    refine z_ald rfl rfl ?_
    refine z_get rfl hs rfl ?_
    refine z_ico (x := (nI 40)) rfl rfl ?_
    refine z_ild rfl rfl ?_
    refine z_ibi (v := (nI (40 + k))) rfl (nI_add _ _) ?_
    refine z_ild rfl rfl ?_
    refine z_iast (x' := (nI k)) rfl hK (by omega) (by omega) rfl ?_
    intro g_2 e_3 f_4
    have k_5 := (f_4 q (zne hs hK (by nofun))).trans hs
    have k_6 := (f_4 pt (zne hO hK (by nofun))).trans hO
    refine z_ald rfl rfl ?_
    refine z_get rfl k_5 rfl ?_
    refine z_ild rfl rfl ?_
    refine z_lco (x := 1) rfl rfl ?_
    refine z_ico (x := (nI 40)) rfl rfl ?_
    refine z_ild rfl rfl ?_
    refine z_ibi (v := (nI (40 + k))) rfl (nI_add _ _) ?_
    refine z_lsh (v := zlsh 0 1 (nI (40 + k))) rfl rfl ?_
    refine z_last rfl k_6 (by omega) (by omega) ?_
    intro g_7 e_8 f_9
    have k_10 := (f_9 q (zne k_5 k_6 (by nofun))).trans k_5
    have k_11 := (f_9 po (zne e_3 k_6 (by nofun))).trans e_3
    refine z_inc (x' := (nI (k + 1))) (ls' := [some (zR (some q)), some (zR (some pg)), some (zI (nI (k + 1)))]) rfl rfl (nI_1 _) rfl ?_
    refine z_go rfl ?_
    refine ih (by omega) _ k_10 ?_ ?_ (fun h' e1 e2 f => hQ h' e1 e2 (fun y hy hz => (f y hy hz).trans ((f_9 y hz).trans (f_4 y hy))))
    · rw [← kIni_s]; exact k_11
    · rw [← oIni_s]; exact e_8
set_option maxHeartbeats 1000000 in
theorem k_X5_init {d : Nat} {h : zH} {q pg : Nat} {g : zH} {fsg : List zV} (hg : hle g h) (gq : g q = none) (h1 : h q = some (zO 5 [zR none, zR none, zR none, zR none, zR none, zJ 0])) (h2 : h pg = some (zO 2 fsg)) : zCall (d + 1) 43 [zR (some q), zR (some pg)] h 4 112 (fun h' o => ∃ po pt pc pp, o = .inl none ∧ (h po = none ∧ h pt = none ∧ h pc = none ∧ h pp = none) ∧ (pt ≠ pc ∧ pt ≠ pp ∧ pc ≠ pp) ∧ h' q = some (srO pg po pt pc pp 0) ∧ h' po = some (zaI 1 48 (kIni 8)) ∧ h' pt = some (zaJ 8 (oIni 8)) ∧ h' pc = some (zaJ 48 (fun _ => 0)) ∧ h' pp = some (zaJ 8 (fun _ => 0)) ∧ (∀ y, y ≠ q → y ≠ po → y ≠ pt → y ≠ pc → y ≠ pp → h' y = h y)) := by
  refine zCall.of (d := d) (T := tb_43) (L := [some (zR (some q)), some (zR (some pg)), none]) (Nat.le_of_ble_eq_true rfl) rfl rfl ?_
  have x0 : ext (fun y => y = q) g h g h := ext_refl hg
  refine z_ald rfl rfl ?_
  refine z_oin rfl (Nat.le_of_ble_eq_true rfl) ?_
  refine z_ald rfl rfl ?_
  refine z_ico (x := (nI 48)) rfl rfl ?_
  refine z_newI (e := zaI 1 48 ((fun _ => 0))) rfl (by omega) (by omega) (by omega) rfl ?_
  intro q_1 g_2 h_3 e_4 f_5
  have k_6 := (f_5 q (zn0 h1 h_3)).trans h1
  have k_7 := (f_5 pg (zn0 h2 h_3)).trans h2
  have n_9 := ext_new x0 h_3
  have n_10 := ext_gn x0 h_3
  have x_8 := ext_mut x0 f_5 (Or.inl n_9) n_10 e_4
  refine z_put (e := zO 5 [zR none, zR (some q_1), zR none, zR none, zR none, zJ 0]) rfl k_6 (Nat.le_of_ble_eq_true rfl) ⟨_, rfl⟩ rfl ?_
  intro g_11 e_12 f_13
  have k_14 := (f_13 pg (zne k_7 k_6 (by nofun))).trans k_7
  have k_15 := (f_13 q_1 (zne e_4 k_6 (by nofun))).trans e_4
  have x_16 := ext_mut x_8 f_13 (Or.inr rfl) gq e_12
  refine z_ald rfl rfl ?_
  refine z_ico (x := (nI 8)) rfl rfl ?_
  refine z_newI (e := zaJ 8 ((fun _ => 0))) rfl (by omega) (by omega) (by omega) rfl ?_
  intro q_17 g_18 h_19 e_20 f_21
  have k_22 := (f_21 pg (zn0 k_14 h_19)).trans k_14
  have k_23 := (f_21 q_1 (zn0 k_15 h_19)).trans k_15
  have k_24 := (f_21 q (zn0 e_12 h_19)).trans e_12
  have n_26 := ext_new x_16 h_19
  have n_27 := ext_gn x_16 h_19
  have x_25 := ext_mut x_16 f_21 (Or.inl n_26) n_27 e_20
  refine z_put (e := zO 5 [zR none, zR (some q_1), zR (some q_17), zR none, zR none, zJ 0]) rfl k_24 (Nat.le_of_ble_eq_true rfl) ⟨_, rfl⟩ rfl ?_
  intro g_28 e_29 f_30
  have k_31 := (f_30 pg (zne k_22 k_24 (by nofun))).trans k_22
  have k_32 := (f_30 q_1 (zne k_23 k_24 (by nofun))).trans k_23
  have k_33 := (f_30 q_17 (zne e_20 k_24 (by nofun))).trans e_20
  have x_34 := ext_mut x_25 f_30 (Or.inr rfl) gq e_29
  refine z_ald rfl rfl ?_
  refine z_ico (x := (nI 48)) rfl rfl ?_
  refine z_newI (e := zaJ 48 ((fun _ => 0))) rfl (by omega) (by omega) (by omega) rfl ?_
  intro q_35 g_36 h_37 e_38 f_39
  have k_40 := (f_39 pg (zn0 k_31 h_37)).trans k_31
  have k_41 := (f_39 q_1 (zn0 k_32 h_37)).trans k_32
  have d_42 := (zn0 k_33 h_37)
  have k_43 := (f_39 q_17 (zn0 k_33 h_37)).trans k_33
  have k_44 := (f_39 q (zn0 e_29 h_37)).trans e_29
  have n_46 := ext_new x_34 h_37
  have n_47 := ext_gn x_34 h_37
  have x_45 := ext_mut x_34 f_39 (Or.inl n_46) n_47 e_38
  refine z_put (e := zO 5 [zR none, zR (some q_1), zR (some q_17), zR (some q_35), zR none, zJ 0]) rfl k_44 (Nat.le_of_ble_eq_true rfl) ⟨_, rfl⟩ rfl ?_
  intro g_48 e_49 f_50
  have k_51 := (f_50 pg (zne k_40 k_44 (by nofun))).trans k_40
  have k_52 := (f_50 q_1 (zne k_41 k_44 (by nofun))).trans k_41
  have k_53 := (f_50 q_17 (zne k_43 k_44 (by nofun))).trans k_43
  have k_54 := (f_50 q_35 (zne e_38 k_44 (by nofun))).trans e_38
  have x_55 := ext_mut x_45 f_50 (Or.inr rfl) gq e_49
  refine z_ald rfl rfl ?_
  refine z_ico (x := (nI 8)) rfl rfl ?_
  refine z_newI (e := zaJ 8 ((fun _ => 0))) rfl (by omega) (by omega) (by omega) rfl ?_
  intro q_56 g_57 h_58 e_59 f_60
  have k_61 := (f_60 pg (zn0 k_51 h_58)).trans k_51
  have k_62 := (f_60 q_1 (zn0 k_52 h_58)).trans k_52
  have d_63 := (zn0 k_53 h_58)
  have k_64 := (f_60 q_17 (zn0 k_53 h_58)).trans k_53
  have d_65 := (zn0 k_54 h_58)
  have k_66 := (f_60 q_35 (zn0 k_54 h_58)).trans k_54
  have k_67 := (f_60 q (zn0 e_49 h_58)).trans e_49
  have n_69 := ext_new x_55 h_58
  have n_70 := ext_gn x_55 h_58
  have x_68 := ext_mut x_55 f_60 (Or.inl n_69) n_70 e_59
  refine z_put (e := zO 5 [zR none, zR (some q_1), zR (some q_17), zR (some q_35), zR (some q_56), zJ 0]) rfl k_67 (Nat.le_of_ble_eq_true rfl) ⟨_, rfl⟩ rfl ?_
  intro g_71 e_72 f_73
  have k_74 := (f_73 pg (zne k_61 k_67 (by nofun))).trans k_61
  have k_75 := (f_73 q_1 (zne k_62 k_67 (by nofun))).trans k_62
  have k_76 := (f_73 q_17 (zne k_64 k_67 (by nofun))).trans k_64
  have k_77 := (f_73 q_35 (zne k_66 k_67 (by nofun))).trans k_66
  have k_78 := (f_73 q_56 (zne e_59 k_67 (by nofun))).trans e_59
  have x_79 := ext_mut x_68 f_73 (Or.inr rfl) gq e_72
  refine z_ald rfl rfl ?_
  refine z_ald rfl rfl ?_
  refine z_put (e := zO 5 [zR (some pg), zR (some q_1), zR (some q_17), zR (some q_35), zR (some q_56), zJ 0]) rfl e_72 (Nat.le_of_ble_eq_true rfl) ⟨_, rfl⟩ rfl ?_
  intro g_80 e_81 f_82
  have k_83 := (f_82 pg (zne k_74 e_72 (by nofun))).trans k_74
  have k_84 := (f_82 q_1 (zne k_75 e_72 (by nofun))).trans k_75
  have k_85 := (f_82 q_17 (zne k_76 e_72 (by nofun))).trans k_76
  have k_86 := (f_82 q_35 (zne k_77 e_72 (by nofun))).trans k_77
  have k_87 := (f_82 q_56 (zne k_78 e_72 (by nofun))).trans k_78
  have x_88 := ext_mut x_79 f_82 (Or.inr rfl) gq e_81
  refine z_ico (x := (nI 0)) rfl rfl ?_
  refine z_ist (ls' := [some (zR (some q)), some (zR (some pg)), some (zI (nI 0))]) rfl (Nat.le_of_ble_eq_true rfl) rfl ?_
  refine kl_si 0 (by omega) _ e_81 (by rw [kIni_0]; exact k_84) (by rw [oIni_0]; exact k_85) (fun h' e1 e2 f => ?_)
  refine ⟨q_1, q_17, q_35, q_56, rfl, ⟨n_9, n_26, n_46, n_69⟩, ⟨d_42, d_63, d_65⟩, (f _ (zne e_81 k_84 (by nofun)) (zne e_81 k_85 (by nofun))).trans e_81, e1, e2, (f _ (zne k_86 k_84 (by nofun)) (Ne.symm d_42)).trans k_86, (f _ (zne k_87 k_84 (by nofun)) (Ne.symm d_63)).trans k_87, fun y hy h1 h2 h3 h4 => (f y h1 h2).trans ((f_82 y hy).trans ((f_73 y hy).trans ((f_60 y h4).trans ((f_50 y hy).trans ((f_39 y h3).trans ((f_30 y hy).trans ((f_21 y h2).trans ((f_13 y hy).trans (f_5 y h1)))))))))⟩
set_option maxHeartbeats 4000000 in
theorem k_X9_init {d : Nat} {h : zH} {x : Nat} {g : zH} (hg : hle g h) (gx : g x = none) (h1 : h x = some (zO 9 [zR none, zR none, zR none, zR none, zR none, zR none, zR none])) : zCall (d + 2) 73 [zR (some x)] h 14 564 (fun h' o => o = .inl none ∧ ∃ K : Nat → Nat, K 0 = x ∧ (∀ i j, i < 15 → j < 15 → K i = K j → i = j) ∧ ext (fun y => y = x) g h g h' ∧ h' (K 0) = some (zO 9 [zR (some (K 1)), zR (some (K 3)), zR (some (K 5)), zR (some (K 7)), zR (some (K 12)), zR (some (K 13)), zR (some (K 14))]) ∧ h' (K 1) = some (zO 0 [zR (some (K 2)), zI (nI 0)]) ∧ h' (K 2) = some (zaI 0 160 (fun _ => 0)) ∧ h' (K 3) = some (zO 0 [zR (some (K 4)), zI (nI 0)]) ∧ h' (K 4) = some (zaI 0 216 (fun _ => 0)) ∧ h' (K 5) = some (zO 2 [zR (some (K 6)), zI (nI 0)]) ∧ h' (K 6) = some (zaR 4 40 (fun _ => none)) ∧ h' (K 7) = some (srO (K 5) (K 8) (K 9) (K 10) (K 11) 0) ∧ h' (K 8) = some (zaI 1 48 (kIni 8)) ∧ h' (K 9) = some (zaJ 8 (oIni 8)) ∧ h' (K 10) = some (zaJ 48 (fun _ => 0)) ∧ h' (K 11) = some (zaJ 8 (fun _ => 0)) ∧ h' (K 12) = some (zaR 5 8 (fun _ => none)) ∧ h' (K 13) = some (zaI 1 8 (upTo (fun _ => 0) (-1) 8)) ∧ h' (K 14) = some (zaI 1 8 (upTo (fun _ => 0) (-1) 8))) := by
  refine zCall.of (d := d + 1) (T := tb_73) (L := [some (zR (some x))]) (Nat.le_of_ble_eq_true rfl) rfl rfl ?_
  have x0 : ext (fun y => y = x) g h g h := ext_refl hg
  refine z_ald rfl rfl ?_
  refine z_oin rfl (Nat.le_of_ble_eq_true rfl) ?_
  refine z_ald rfl rfl ?_
  refine z_new rfl (by omega) (by omega) ?_
  intro q_1 g_2 h_3 e_4 f_5
  have k_6 := (f_5 x (zn0 h1 h_3)).trans h1
  have n_8 := ext_new x0 h_3
  have n_9 := ext_gn x0 h_3
  have x_7 := ext_mut x0 f_5 (Or.inl n_8) n_9 e_4
  replace e_4 : g_2 q_1 = some (zO 0 [zR none, zI (nI 0)]) := e_4
  refine z_dup rfl rfl ?_
  refine z_ico (x := (nI 160)) rfl rfl ?_
  refine z_call (as := [zR (some q_1), zI (nI 160)]) (r := [zR (some q_1), zR (some x)]) (mc' := 1) (ms' := 160) rfl rfl rfl (Nat.le_of_ble_eq_true rfl) (by omega) (by omega) (rc2 rfl) (k_X0_init e_4 (by omega)) (by rintro _ _ ⟨_, e, _⟩; cases e) ?_
  rintro g_10 _ ⟨q_11, e9, h_12, e_13, e_14, f_15⟩; cases e9
  · skip
    have k_16 := (f_15 x (zne k_6 e_4 (by nofun)) (zn0 k_6 h_12)).trans k_6
    have n_17 := ext_new x_7 h_12
    have n_18 := ext_gn x_7 h_12
    have x_19 := ext_mut2 x_7 f_15 (Or.inl n_8) n_9 e_13 (Or.inl n_17) n_18 e_14
    refine z_put (e := zO 9 [zR (some q_1), zR none, zR none, zR none, zR none, zR none, zR none]) rfl k_16 (Nat.le_of_ble_eq_true rfl) ⟨_, rfl⟩ rfl ?_
    intro g_20 e_21 f_22
    have k_23 := (f_22 q_1 (zne e_13 k_16 (by nofun))).trans e_13
    have k_24 := (f_22 q_11 (zne e_14 k_16 (by nofun))).trans e_14
    have x_25 := ext_mut x_19 f_22 (Or.inr rfl) gx e_21
    refine z_ald rfl rfl ?_
    refine z_new rfl (by omega) (by omega) ?_
    intro q_26 g_27 h_28 e_29 f_30
    have d_31 := (zn0 k_23 h_28)
    have k_32 := (f_30 q_1 (zn0 k_23 h_28)).trans k_23
    have k_33 := (f_30 q_11 (zn0 k_24 h_28)).trans k_24
    have k_34 := (f_30 x (zn0 e_21 h_28)).trans e_21
    have n_36 := ext_new x_25 h_28
    have n_37 := ext_gn x_25 h_28
    have x_35 := ext_mut x_25 f_30 (Or.inl n_36) n_37 e_29
    replace e_29 : g_27 q_26 = some (zO 0 [zR none, zI (nI 0)]) := e_29
    refine z_dup rfl rfl ?_
    refine z_ico (x := (nI 216)) rfl rfl ?_
    refine z_call (as := [zR (some q_26), zI (nI 216)]) (r := [zR (some q_26), zR (some x)]) (mc' := 1) (ms' := 216) rfl rfl rfl (Nat.le_of_ble_eq_true rfl) (by omega) (by omega) (rc2 rfl) (k_X0_init e_29 (by omega)) (by rintro _ _ ⟨_, e, _⟩; cases e) ?_
    rintro g_38 _ ⟨q_39, e9, h_40, e_41, e_42, f_43⟩; cases e9
    · skip
      have k_44 := (f_43 q_1 d_31 (zn0 k_32 h_40)).trans k_32
      have d_45 := (zn0 k_33 h_40)
      have k_46 := (f_43 q_11 (zne k_33 e_29 (by nofun)) d_45).trans k_33
      have k_47 := (f_43 x (zne k_34 e_29 (by nofun)) (zn0 k_34 h_40)).trans k_34
      have n_48 := ext_new x_35 h_40
      have n_49 := ext_gn x_35 h_40
      have x_50 := ext_mut2 x_35 f_43 (Or.inl n_36) n_37 e_41 (Or.inl n_48) n_49 e_42
      refine z_put (e := zO 9 [zR (some q_1), zR (some q_26), zR none, zR none, zR none, zR none, zR none]) rfl k_47 (Nat.le_of_ble_eq_true rfl) ⟨_, rfl⟩ rfl ?_
      intro g_51 e_52 f_53
      have k_54 := (f_53 q_1 (zne k_44 k_47 (by nofun))).trans k_44
      have k_55 := (f_53 q_11 (zne k_46 k_47 (by nofun))).trans k_46
      have k_56 := (f_53 q_26 (zne e_41 k_47 (by nofun))).trans e_41
      have k_57 := (f_53 q_39 (zne e_42 k_47 (by nofun))).trans e_42
      have x_58 := ext_mut x_50 f_53 (Or.inr rfl) gx e_52
      refine z_ald rfl rfl ?_
      refine z_new rfl (by omega) (by omega) ?_
      intro q_59 g_60 h_61 e_62 f_63
      have k_64 := (f_63 q_1 (zn0 k_54 h_61)).trans k_54
      have k_65 := (f_63 q_11 (zn0 k_55 h_61)).trans k_55
      have k_66 := (f_63 q_26 (zn0 k_56 h_61)).trans k_56
      have k_67 := (f_63 q_39 (zn0 k_57 h_61)).trans k_57
      have k_68 := (f_63 x (zn0 e_52 h_61)).trans e_52
      have n_70 := ext_new x_58 h_61
      have n_71 := ext_gn x_58 h_61
      have x_69 := ext_mut x_58 f_63 (Or.inl n_70) n_71 e_62
      replace e_62 : g_60 q_59 = some (zO 2 [zR none, zI (nI 0)]) := e_62
      refine z_dup rfl rfl ?_
      refine z_call (as := [zR (some q_59)]) (r := [zR (some q_59), zR (some x)]) (mc' := 1) (ms' := 40) rfl rfl rfl (Nat.le_of_ble_eq_true rfl) (by omega) (by omega) (rc2 rfl) (k_X2_init e_62) (by rintro _ _ ⟨_, e, _⟩; cases e) ?_
      rintro g_72 _ ⟨q_73, e9, h_74, e_75, e_76, f_77⟩; cases e9
      · skip
        have k_78 := (f_77 q_1 (zne k_64 e_62 (by nofun)) (zn0 k_64 h_74)).trans k_64
        have k_79 := (f_77 q_11 (zne k_65 e_62 (by nofun)) (zn0 k_65 h_74)).trans k_65
        have k_80 := (f_77 q_26 (zne k_66 e_62 (by nofun)) (zn0 k_66 h_74)).trans k_66
        have k_81 := (f_77 q_39 (zne k_67 e_62 (by nofun)) (zn0 k_67 h_74)).trans k_67
        have k_82 := (f_77 x (zne k_68 e_62 (by nofun)) (zn0 k_68 h_74)).trans k_68
        have n_83 := ext_new x_69 h_74
        have n_84 := ext_gn x_69 h_74
        have x_85 := ext_mut2 x_69 f_77 (Or.inl n_70) n_71 e_75 (Or.inl n_83) n_84 e_76
        refine z_put (e := zO 9 [zR (some q_1), zR (some q_26), zR (some q_59), zR none, zR none, zR none, zR none]) rfl k_82 (Nat.le_of_ble_eq_true rfl) ⟨_, rfl⟩ rfl ?_
        intro g_86 e_87 f_88
        have k_89 := (f_88 q_1 (zne k_78 k_82 (by nofun))).trans k_78
        have k_90 := (f_88 q_11 (zne k_79 k_82 (by nofun))).trans k_79
        have k_91 := (f_88 q_26 (zne k_80 k_82 (by nofun))).trans k_80
        have k_92 := (f_88 q_39 (zne k_81 k_82 (by nofun))).trans k_81
        have k_93 := (f_88 q_59 (zne e_75 k_82 (by nofun))).trans e_75
        have k_94 := (f_88 q_73 (zne e_76 k_82 (by nofun))).trans e_76
        have x_95 := ext_mut x_85 f_88 (Or.inr rfl) gx e_87
        refine z_ald rfl rfl ?_
        refine z_new rfl (by omega) (by omega) ?_
        intro q_96 g_97 h_98 e_99 f_100
        have k_101 := (f_100 q_1 (zn0 k_89 h_98)).trans k_89
        have k_102 := (f_100 q_11 (zn0 k_90 h_98)).trans k_90
        have k_103 := (f_100 q_26 (zn0 k_91 h_98)).trans k_91
        have k_104 := (f_100 q_39 (zn0 k_92 h_98)).trans k_92
        have k_105 := (f_100 q_59 (zn0 k_93 h_98)).trans k_93
        have k_106 := (f_100 q_73 (zn0 k_94 h_98)).trans k_94
        have k_107 := (f_100 x (zn0 e_87 h_98)).trans e_87
        have n_109 := ext_new x_95 h_98
        have n_110 := ext_gn x_95 h_98
        have x_108 := ext_mut x_95 f_100 (Or.inl n_109) n_110 e_99
        replace e_99 : g_97 q_96 = some (zO 5 [zR none, zR none, zR none, zR none, zR none, zJ 0]) := e_99
        refine z_dup rfl rfl ?_
        refine z_ald rfl rfl ?_
        refine z_get rfl k_107 rfl ?_
        refine z_call (as := [zR (some q_96), zR (some q_59)]) (r := [zR (some q_96), zR (some x)]) (mc' := 4) (ms' := 112) rfl rfl rfl (Nat.le_of_ble_eq_true rfl) (by omega) (by omega) (rc2 rfl) (k_X5_init (g := g) x_108.2.1 n_110 e_99 k_105) (by rintro _ _ ⟨_, _, _, _, e, _⟩; cases e) ?_
        rintro g_111 _ ⟨q_112, q_113, q_114, q_115, e9, ⟨n_116, n_117, n_118, n_119⟩, ⟨d_120, d_121, d_122⟩, e_123, e_124, e_125, e_126, e_127, f_128⟩; cases e9
        · skip
          have k_129 := (f_128 q_1 (zne k_101 e_99 (by nofun)) (zn0 k_101 n_116) (zn0 k_101 n_117) (zn0 k_101 n_118) (zn0 k_101 n_119)).trans k_101
          have k_130 := (f_128 q_11 (zne k_102 e_99 (by nofun)) (zn0 k_102 n_116) (zn0 k_102 n_117) (zn0 k_102 n_118) (zn0 k_102 n_119)).trans k_102
          have k_131 := (f_128 q_26 (zne k_103 e_99 (by nofun)) (zn0 k_103 n_116) (zn0 k_103 n_117) (zn0 k_103 n_118) (zn0 k_103 n_119)).trans k_103
          have k_132 := (f_128 q_39 (zne k_104 e_99 (by nofun)) (zn0 k_104 n_116) (zn0 k_104 n_117) (zn0 k_104 n_118) (zn0 k_104 n_119)).trans k_104
          have k_133 := (f_128 q_59 (zne k_105 e_99 (by nofun)) (zn0 k_105 n_116) (zn0 k_105 n_117) (zn0 k_105 n_118) (zn0 k_105 n_119)).trans k_105
          have k_134 := (f_128 q_73 (zne k_106 e_99 (by nofun)) (zn0 k_106 n_116) (zn0 k_106 n_117) (zn0 k_106 n_118) (zn0 k_106 n_119)).trans k_106
          have k_135 := (f_128 x (zne k_107 e_99 (by nofun)) (zn0 k_107 n_116) (zn0 k_107 n_117) (zn0 k_107 n_118) (zn0 k_107 n_119)).trans k_107
          have n_136 := ext_new x_108 n_116
          have n_137 := ext_gn x_108 n_116
          have n_138 := ext_new x_108 n_117
          have n_139 := ext_gn x_108 n_117
          have n_140 := ext_new x_108 n_118
          have n_141 := ext_gn x_108 n_118
          have n_142 := ext_new x_108 n_119
          have n_143 := ext_gn x_108 n_119
          have x_144 := ext_mut5 x_108 f_128 (Or.inl n_109) n_110 e_123 (Or.inl n_136) n_137 e_124 (Or.inl n_138) n_139 e_125 (Or.inl n_140) n_141 e_126 (Or.inl n_142) n_143 e_127
          refine z_put (e := zO 9 [zR (some q_1), zR (some q_26), zR (some q_59), zR (some q_96), zR none, zR none, zR none]) rfl k_135 (Nat.le_of_ble_eq_true rfl) ⟨_, rfl⟩ rfl ?_
          intro g_145 e_146 f_147
          have k_148 := (f_147 q_1 (zne k_129 k_135 (by nofun))).trans k_129
          have k_149 := (f_147 q_11 (zne k_130 k_135 (by nofun))).trans k_130
          have k_150 := (f_147 q_26 (zne k_131 k_135 (by nofun))).trans k_131
          have k_151 := (f_147 q_39 (zne k_132 k_135 (by nofun))).trans k_132
          have k_152 := (f_147 q_59 (zne k_133 k_135 (by nofun))).trans k_133
          have k_153 := (f_147 q_73 (zne k_134 k_135 (by nofun))).trans k_134
          have k_154 := (f_147 q_96 (zne e_123 k_135 (by nofun))).trans e_123
          have k_155 := (f_147 q_112 (zne e_124 k_135 (by nofun))).trans e_124
          have k_156 := (f_147 q_113 (zne e_125 k_135 (by nofun))).trans e_125
          have k_157 := (f_147 q_114 (zne e_126 k_135 (by nofun))).trans e_126
          have k_158 := (f_147 q_115 (zne e_127 k_135 (by nofun))).trans e_127
          have x_159 := ext_mut x_144 f_147 (Or.inr rfl) gx e_146
          refine z_ald rfl rfl ?_
          refine z_ico (x := (nI 8)) rfl rfl ?_
          refine z_newR rfl (by omega) (by omega) (by omega) ?_
          intro q_160 g_161 h_162 e_163 f_164
          have k_165 := (f_164 q_1 (zn0 k_148 h_162)).trans k_148
          have k_166 := (f_164 q_11 (zn0 k_149 h_162)).trans k_149
          have k_167 := (f_164 q_26 (zn0 k_150 h_162)).trans k_150
          have k_168 := (f_164 q_39 (zn0 k_151 h_162)).trans k_151
          have k_169 := (f_164 q_59 (zn0 k_152 h_162)).trans k_152
          have k_170 := (f_164 q_73 (zn0 k_153 h_162)).trans k_153
          have k_171 := (f_164 q_96 (zn0 k_154 h_162)).trans k_154
          have k_172 := (f_164 q_112 (zn0 k_155 h_162)).trans k_155
          have k_173 := (f_164 q_113 (zn0 k_156 h_162)).trans k_156
          have k_174 := (f_164 q_114 (zn0 k_157 h_162)).trans k_157
          have k_175 := (f_164 q_115 (zn0 k_158 h_162)).trans k_158
          have k_176 := (f_164 x (zn0 e_146 h_162)).trans e_146
          have n_178 := ext_new x_159 h_162
          have n_179 := ext_gn x_159 h_162
          have x_177 := ext_mut x_159 f_164 (Or.inl n_178) n_179 e_163
          refine z_put (e := zO 9 [zR (some q_1), zR (some q_26), zR (some q_59), zR (some q_96), zR (some q_160), zR none, zR none]) rfl k_176 (Nat.le_of_ble_eq_true rfl) ⟨_, rfl⟩ rfl ?_
          intro g_180 e_181 f_182
          have k_183 := (f_182 q_1 (zne k_165 k_176 (by nofun))).trans k_165
          have k_184 := (f_182 q_11 (zne k_166 k_176 (by nofun))).trans k_166
          have k_185 := (f_182 q_26 (zne k_167 k_176 (by nofun))).trans k_167
          have k_186 := (f_182 q_39 (zne k_168 k_176 (by nofun))).trans k_168
          have k_187 := (f_182 q_59 (zne k_169 k_176 (by nofun))).trans k_169
          have k_188 := (f_182 q_73 (zne k_170 k_176 (by nofun))).trans k_170
          have k_189 := (f_182 q_96 (zne k_171 k_176 (by nofun))).trans k_171
          have k_190 := (f_182 q_112 (zne k_172 k_176 (by nofun))).trans k_172
          have k_191 := (f_182 q_113 (zne k_173 k_176 (by nofun))).trans k_173
          have k_192 := (f_182 q_114 (zne k_174 k_176 (by nofun))).trans k_174
          have k_193 := (f_182 q_115 (zne k_175 k_176 (by nofun))).trans k_175
          have k_194 := (f_182 q_160 (zne e_163 k_176 (by nofun))).trans e_163
          have x_195 := ext_mut x_177 f_182 (Or.inr rfl) gx e_181
          refine z_ald rfl rfl ?_
          refine z_ico (x := (nI 8)) rfl rfl ?_
          refine z_newI (e := zaI 1 8 ((fun _ => 0))) rfl (by omega) (by omega) (by omega) rfl ?_
          intro q_196 g_197 h_198 e_199 f_200
          have k_201 := (f_200 q_1 (zn0 k_183 h_198)).trans k_183
          have k_202 := (f_200 q_11 (zn0 k_184 h_198)).trans k_184
          have k_203 := (f_200 q_26 (zn0 k_185 h_198)).trans k_185
          have k_204 := (f_200 q_39 (zn0 k_186 h_198)).trans k_186
          have k_205 := (f_200 q_59 (zn0 k_187 h_198)).trans k_187
          have k_206 := (f_200 q_73 (zn0 k_188 h_198)).trans k_188
          have k_207 := (f_200 q_96 (zn0 k_189 h_198)).trans k_189
          have d_208 := (zn0 k_190 h_198)
          have k_209 := (f_200 q_112 (zn0 k_190 h_198)).trans k_190
          have k_210 := (f_200 q_113 (zn0 k_191 h_198)).trans k_191
          have k_211 := (f_200 q_114 (zn0 k_192 h_198)).trans k_192
          have k_212 := (f_200 q_115 (zn0 k_193 h_198)).trans k_193
          have k_213 := (f_200 q_160 (zn0 k_194 h_198)).trans k_194
          have k_214 := (f_200 x (zn0 e_181 h_198)).trans e_181
          have n_216 := ext_new x_195 h_198
          have n_217 := ext_gn x_195 h_198
          have x_215 := ext_mut x_195 f_200 (Or.inl n_216) n_217 e_199
          refine z_put (e := zO 9 [zR (some q_1), zR (some q_26), zR (some q_59), zR (some q_96), zR (some q_160), zR (some q_196), zR none]) rfl k_214 (Nat.le_of_ble_eq_true rfl) ⟨_, rfl⟩ rfl ?_
          intro g_218 e_219 f_220
          have k_221 := (f_220 q_1 (zne k_201 k_214 (by nofun))).trans k_201
          have k_222 := (f_220 q_11 (zne k_202 k_214 (by nofun))).trans k_202
          have k_223 := (f_220 q_26 (zne k_203 k_214 (by nofun))).trans k_203
          have k_224 := (f_220 q_39 (zne k_204 k_214 (by nofun))).trans k_204
          have k_225 := (f_220 q_59 (zne k_205 k_214 (by nofun))).trans k_205
          have k_226 := (f_220 q_73 (zne k_206 k_214 (by nofun))).trans k_206
          have k_227 := (f_220 q_96 (zne k_207 k_214 (by nofun))).trans k_207
          have k_228 := (f_220 q_112 (zne k_209 k_214 (by nofun))).trans k_209
          have k_229 := (f_220 q_113 (zne k_210 k_214 (by nofun))).trans k_210
          have k_230 := (f_220 q_114 (zne k_211 k_214 (by nofun))).trans k_211
          have k_231 := (f_220 q_115 (zne k_212 k_214 (by nofun))).trans k_212
          have k_232 := (f_220 q_160 (zne k_213 k_214 (by nofun))).trans k_213
          have k_233 := (f_220 q_196 (zne e_199 k_214 (by nofun))).trans e_199
          have x_234 := ext_mut x_215 f_220 (Or.inr rfl) gx e_219
          refine z_ald rfl rfl ?_
          refine z_ico (x := (nI 8)) rfl rfl ?_
          refine z_newI (e := zaI 1 8 ((fun _ => 0))) rfl (by omega) (by omega) (by omega) rfl ?_
          intro q_235 g_236 h_237 e_238 f_239
          have k_240 := (f_239 q_1 (zn0 k_221 h_237)).trans k_221
          have k_241 := (f_239 q_11 (zn0 k_222 h_237)).trans k_222
          have k_242 := (f_239 q_26 (zn0 k_223 h_237)).trans k_223
          have k_243 := (f_239 q_39 (zn0 k_224 h_237)).trans k_224
          have k_244 := (f_239 q_59 (zn0 k_225 h_237)).trans k_225
          have k_245 := (f_239 q_73 (zn0 k_226 h_237)).trans k_226
          have k_246 := (f_239 q_96 (zn0 k_227 h_237)).trans k_227
          have d_247 := (zn0 k_228 h_237)
          have k_248 := (f_239 q_112 (zn0 k_228 h_237)).trans k_228
          have k_249 := (f_239 q_113 (zn0 k_229 h_237)).trans k_229
          have k_250 := (f_239 q_114 (zn0 k_230 h_237)).trans k_230
          have k_251 := (f_239 q_115 (zn0 k_231 h_237)).trans k_231
          have k_252 := (f_239 q_160 (zn0 k_232 h_237)).trans k_232
          have d_253 := (zn0 k_233 h_237)
          have k_254 := (f_239 q_196 (zn0 k_233 h_237)).trans k_233
          have k_255 := (f_239 x (zn0 e_219 h_237)).trans e_219
          have n_257 := ext_new x_234 h_237
          have n_258 := ext_gn x_234 h_237
          have x_256 := ext_mut x_234 f_239 (Or.inl n_257) n_258 e_238
          refine z_put (e := zO 9 [zR (some q_1), zR (some q_26), zR (some q_59), zR (some q_96), zR (some q_160), zR (some q_196), zR (some q_235)]) rfl k_255 (Nat.le_of_ble_eq_true rfl) ⟨_, rfl⟩ rfl ?_
          intro g_259 e_260 f_261
          have k_262 := (f_261 q_1 (zne k_240 k_255 (by nofun))).trans k_240
          have k_263 := (f_261 q_11 (zne k_241 k_255 (by nofun))).trans k_241
          have k_264 := (f_261 q_26 (zne k_242 k_255 (by nofun))).trans k_242
          have k_265 := (f_261 q_39 (zne k_243 k_255 (by nofun))).trans k_243
          have k_266 := (f_261 q_59 (zne k_244 k_255 (by nofun))).trans k_244
          have k_267 := (f_261 q_73 (zne k_245 k_255 (by nofun))).trans k_245
          have k_268 := (f_261 q_96 (zne k_246 k_255 (by nofun))).trans k_246
          have k_269 := (f_261 q_112 (zne k_248 k_255 (by nofun))).trans k_248
          have k_270 := (f_261 q_113 (zne k_249 k_255 (by nofun))).trans k_249
          have k_271 := (f_261 q_114 (zne k_250 k_255 (by nofun))).trans k_250
          have k_272 := (f_261 q_115 (zne k_251 k_255 (by nofun))).trans k_251
          have k_273 := (f_261 q_160 (zne k_252 k_255 (by nofun))).trans k_252
          have k_274 := (f_261 q_196 (zne k_254 k_255 (by nofun))).trans k_254
          have k_275 := (f_261 q_235 (zne e_238 k_255 (by nofun))).trans e_238
          have x_276 := ext_mut x_256 f_261 (Or.inr rfl) gx e_260
          refine z_ald rfl rfl ?_
          refine z_get rfl e_260 rfl ?_
          refine z_ico (x := (-1)) rfl rfl ?_
          refine z_call (as := [zR (some q_196), zI (-1)]) (r := []) (mc' := 0) (ms' := 0) rfl rfl rfl (Nat.le_of_ble_eq_true rfl) (by omega) (by omega) (rc1 rfl) (k_J7_fill_53178 (by omega) k_274) (by rintro _ _ ⟨e, _⟩; cases e) ?_
          rintro g_277 _ ⟨e9, e_278, f_279⟩; cases e9
          · skip
            have k_280 := (f_279 q_1 (zne k_262 k_274 (by nofun))).trans k_262
            have k_281 := (f_279 q_11 (zne k_263 k_274 (by nofun))).trans k_263
            have k_282 := (f_279 q_26 (zne k_264 k_274 (by nofun))).trans k_264
            have k_283 := (f_279 q_39 (zne k_265 k_274 (by nofun))).trans k_265
            have k_284 := (f_279 q_59 (zne k_266 k_274 (by nofun))).trans k_266
            have k_285 := (f_279 q_73 (zne k_267 k_274 (by nofun))).trans k_267
            have k_286 := (f_279 q_96 (zne k_268 k_274 (by nofun))).trans k_268
            have k_287 := (f_279 q_112 d_208).trans k_269
            have k_288 := (f_279 q_113 (zne k_270 k_274 (by nofun))).trans k_270
            have k_289 := (f_279 q_114 (zne k_271 k_274 (by nofun))).trans k_271
            have k_290 := (f_279 q_115 (zne k_272 k_274 (by nofun))).trans k_272
            have k_291 := (f_279 q_160 (zne k_273 k_274 (by nofun))).trans k_273
            have k_292 := (f_279 q_235 (Ne.symm d_253)).trans k_275
            have k_293 := (f_279 x (zne e_260 k_274 (by nofun))).trans e_260
            have x_294 := ext_mut x_276 f_279 (Or.inl n_216) n_217 e_278
            refine z_ald rfl rfl ?_
            refine z_get rfl k_293 rfl ?_
            refine z_ico (x := (-1)) rfl rfl ?_
            refine z_call (as := [zR (some q_235), zI (-1)]) (r := []) (mc' := 0) (ms' := 0) rfl rfl rfl (Nat.le_of_ble_eq_true rfl) (by omega) (by omega) (rc1 rfl) (k_J7_fill_53178 (by omega) k_292) (by rintro _ _ ⟨e, _⟩; cases e) ?_
            rintro g_295 _ ⟨e9, e_296, f_297⟩; cases e9
            · skip
              have k_298 := (f_297 q_1 (zne k_280 k_292 (by nofun))).trans k_280
              have k_299 := (f_297 q_11 (zne k_281 k_292 (by nofun))).trans k_281
              have k_300 := (f_297 q_26 (zne k_282 k_292 (by nofun))).trans k_282
              have k_301 := (f_297 q_39 (zne k_283 k_292 (by nofun))).trans k_283
              have k_302 := (f_297 q_59 (zne k_284 k_292 (by nofun))).trans k_284
              have k_303 := (f_297 q_73 (zne k_285 k_292 (by nofun))).trans k_285
              have k_304 := (f_297 q_96 (zne k_286 k_292 (by nofun))).trans k_286
              have k_305 := (f_297 q_112 d_247).trans k_287
              have k_306 := (f_297 q_113 (zne k_288 k_292 (by nofun))).trans k_288
              have k_307 := (f_297 q_114 (zne k_289 k_292 (by nofun))).trans k_289
              have k_308 := (f_297 q_115 (zne k_290 k_292 (by nofun))).trans k_290
              have k_309 := (f_297 q_160 (zne k_291 k_292 (by nofun))).trans k_291
              have k_310 := (f_297 x (zne k_293 k_292 (by nofun))).trans k_293
              have k_311 := (f_297 q_196 d_253).trans e_278
              have x_312 := ext_mut x_294 f_297 (Or.inl n_257) n_258 e_296
              refine z_rtv rfl ?_
              have nd : List.Nodup [x, q_1, q_11, q_26, q_39, q_59, q_73, q_96, q_112, q_113, q_114, q_115, q_160, q_196, q_235] := by
                unfold List.Nodup
                simp only [List.pairwise_cons, List.mem_cons, List.not_mem_nil, or_false, forall_eq_or_imp, forall_eq, List.Pairwise.nil, and_true, false_implies, implies_true]
                exact ⟨⟨(zne k_310 k_298 (by nofun)), (zne k_310 k_299 (by nofun)), (zne k_310 k_300 (by nofun)), (zne k_310 k_301 (by nofun)), (zne k_310 k_302 (by nofun)), (zne k_310 k_303 (by nofun)), (zne k_310 k_304 (by nofun)), (zne k_310 k_305 (by nofun)), (zne k_310 k_306 (by nofun)), (zne k_310 k_307 (by nofun)), (zne k_310 k_308 (by nofun)), (zne k_310 k_309 (by nofun)), (zne k_310 k_311 (by nofun)), (zne k_310 e_296 (by nofun))⟩, ⟨(zne k_298 k_299 (by nofun)), d_31, (zne k_298 k_301 (by nofun)), (zne k_298 k_302 (by nofun)), (zne k_298 k_303 (by nofun)), (zne k_298 k_304 (by nofun)), (zne k_298 k_305 (by nofun)), (zne k_298 k_306 (by nofun)), (zne k_298 k_307 (by nofun)), (zne k_298 k_308 (by nofun)), (zne k_298 k_309 (by nofun)), (zne k_298 k_311 (by nofun)), (zne k_298 e_296 (by nofun))⟩, ⟨(zne k_299 k_300 (by nofun)), d_45, (zne k_299 k_302 (by nofun)), (zne k_299 k_303 (by nofun)), (zne k_299 k_304 (by nofun)), (zne k_299 k_305 (by nofun)), (zne k_299 k_306 (by nofun)), (zne k_299 k_307 (by nofun)), (zne k_299 k_308 (by nofun)), (zne k_299 k_309 (by nofun)), (zne k_299 k_311 (by nofun)), (zne k_299 e_296 (by nofun))⟩, ⟨(zne k_300 k_301 (by nofun)), (zne k_300 k_302 (by nofun)), (zne k_300 k_303 (by nofun)), (zne k_300 k_304 (by nofun)), (zne k_300 k_305 (by nofun)), (zne k_300 k_306 (by nofun)), (zne k_300 k_307 (by nofun)), (zne k_300 k_308 (by nofun)), (zne k_300 k_309 (by nofun)), (zne k_300 k_311 (by nofun)), (zne k_300 e_296 (by nofun))⟩, ⟨(zne k_301 k_302 (by nofun)), (zne k_301 k_303 (by nofun)), (zne k_301 k_304 (by nofun)), (zne k_301 k_305 (by nofun)), (zne k_301 k_306 (by nofun)), (zne k_301 k_307 (by nofun)), (zne k_301 k_308 (by nofun)), (zne k_301 k_309 (by nofun)), (zne k_301 k_311 (by nofun)), (zne k_301 e_296 (by nofun))⟩, ⟨(zne k_302 k_303 (by nofun)), (zne k_302 k_304 (by nofun)), (zne k_302 k_305 (by nofun)), (zne k_302 k_306 (by nofun)), (zne k_302 k_307 (by nofun)), (zne k_302 k_308 (by nofun)), (zne k_302 k_309 (by nofun)), (zne k_302 k_311 (by nofun)), (zne k_302 e_296 (by nofun))⟩, ⟨(zne k_303 k_304 (by nofun)), (zne k_303 k_305 (by nofun)), (zne k_303 k_306 (by nofun)), (zne k_303 k_307 (by nofun)), (zne k_303 k_308 (by nofun)), (zne k_303 k_309 (by nofun)), (zne k_303 k_311 (by nofun)), (zne k_303 e_296 (by nofun))⟩, ⟨(zne k_304 k_305 (by nofun)), (zne k_304 k_306 (by nofun)), (zne k_304 k_307 (by nofun)), (zne k_304 k_308 (by nofun)), (zne k_304 k_309 (by nofun)), (zne k_304 k_311 (by nofun)), (zne k_304 e_296 (by nofun))⟩, ⟨(zne k_305 k_306 (by nofun)), (zne k_305 k_307 (by nofun)), (zne k_305 k_308 (by nofun)), (zne k_305 k_309 (by nofun)), d_208, d_247⟩, ⟨d_120, d_121, (zne k_306 k_309 (by nofun)), (zne k_306 k_311 (by nofun)), (zne k_306 e_296 (by nofun))⟩, ⟨d_122, (zne k_307 k_309 (by nofun)), (zne k_307 k_311 (by nofun)), (zne k_307 e_296 (by nofun))⟩, ⟨(zne k_308 k_309 (by nofun)), (zne k_308 k_311 (by nofun)), (zne k_308 e_296 (by nofun))⟩, ⟨(zne k_309 k_311 (by nofun)), (zne k_309 e_296 (by nofun))⟩, d_253⟩
              exact ⟨rfl, fun i => [x, q_1, q_11, q_26, q_39, q_59, q_73, q_96, q_112, q_113, q_114, q_115, q_160, q_196, q_235].getD i 0, rfl, nd_inj nd, x_312, k_310, k_298, k_299, k_300, k_301, k_302, k_303, k_304, k_305, k_306, k_307, k_308, k_309, k_311, e_296⟩
