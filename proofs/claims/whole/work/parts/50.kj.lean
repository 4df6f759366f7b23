/-- the lowest version whose first, second or third number is one more -/
def rsV (V : vV) (k : Nat) : vV := if k = 1 then (V.1 + nI 1, nI 0, nI 0, 0, fun _ => 0) else if k = 2 then (V.1, V.2.1 + nI 1, nI 0, 0, fun _ => 0) else (V.1, V.2.1, V.2.2.1 + nI 1, 0, fun _ => 0)
theorem vr_none {g : zH} {q r : Nat} {x y z : Int32} {f : Nat → Option Nat} (h1 : g q = some (zO 7 [zI x, zI y, zI z, zR (some r)])) (h2 : g r = some (zaR 7 0 f)) : vrAt g q (x, y, z, 0, fun _ => 0) :=
  ⟨r, f, 0, fun _ => 0, h1, h2, rfl, fun i hi => absurd hi (by omega), fun _ => rfl, fun h => absurd h (by omega), by omega⟩
def laV (V : vV) (k : Nat) : vV := if k = 3 then V else rsV V k
/-- the span of a sign (the class's number of it) before a version of k numbers -/
def spC (s : Nat) (V : vV) (k : Nat) : sV := match s with
  | 0 => (some V, some V, true, some (rsV V (kcF V k)), false)
  | 1 => (some V, some V, true, some (rsV V (min k 2)), false)
  | 2 => (some V, some V, true, some (laV V k), decide (k = 3))
  | 3 => (some V, some (laV V k), !decide (k = 3), none, false)
  | 4 => (some V, some V, true, none, false)
  | 5 => (some V, none, false, some V, false)
  | _ => (some V, none, false, some (laV V k), decide (k = 3))
theorem sp_mk {g : zH} {q : Nat} {a b c : Option Nat} {x y : Bool} {n l u : Option vV} (e : g q = some (zO 6 [zR a, zR b, zI (bI x), zR c, zI (bI y)])) (h1 : ovAt g a n) (h2 : ovAt g b l) (h3 : ovAt g c u) : spAt g q (n, l, x, u, y) := ⟨a, b, c, e, h1, h2, h3⟩
theorem ov_s {g : zH} {q : Nat} {V : vV} (h : vrAt g q V) : ovAt g (some q) (some V) := ⟨q, rfl, h⟩
theorem ov_n {g : zH} : ovAt g none none := rfl
theorem kcF_le {V : vV} {k : Nat} : kcF V k ≤ 3 := by
  unfold kcF
  split
  · omega
  · split <;> omega
theorem mn_2 {k : Nat} (h : k ≤ 3) : (if nI 2 < nI k then nI 2 else nI k) = nI (min k 2) := by
  rcases Nat.lt_or_ge 2 k with g | g
  · rw [if_pos ((nI_ltI (by omega) (by omega)).mpr g), Nat.min_eq_right (by omega)]
  · rw [if_neg (fun q => by have := (nI_ltI (by omega) (by omega)).mp q; omega), Nat.min_eq_left g]
set_option maxHeartbeats 1000000 in
theorem k_X7_raised {d : Nat} {h : zH} {p1 k : Nat} {V : vV} {g : zH} (hv : vrAt h p1 V) (hk : k ≤ 3) (hg : hle g h) : zCall (d + 2) 70 [zR (some p1), zI (nI k)] h 2 4 (fun h' o => ∃ q g', o = .inl (some (zR (some q))) ∧ ext (fun y => False) g h g' h' ∧ vrAt g' q (rsV V k)) := by
  obtain ⟨w1, f1, L1, pos1, h1, h2, g1⟩ := hv
  refine zCall.of (d := d + 1) (T := tb_70) (L := [some (zR (some p1)), some (zI (nI k)), none]) (Nat.le_of_ble_eq_true rfl) rfl rfl ?_
  have x0 : ext (fun y => False) g h g h := ext_refl hg
  refine z_ico (x := (nI 0)) rfl rfl ?_
  refine z_newR rfl (by omega) (by omega) (by omega) ?_
  intro q_1 g_2 h_3 e_4 f_5
  have k_6 := (f_5 p1 (zn0 h1 h_3)).trans h1
  have n_8 := ext_new x0 h_3
  have n_9 := ext_gn x0 h_3
  have x_7 := ext_mut x0 f_5 (Or.inl n_8) n_9 e_4
  refine z_ast (ls' := [some (zR (some p1)), some (zI (nI k)), some (zR (some q_1))]) rfl (Nat.le_of_ble_eq_true rfl) rfl ?_
  refine z_ild rfl rfl ?_
  refine z_ico (x := (nI 1)) rfl rfl ?_
  refine z_cmpN (by omega) (by omega) rfl (fun h_10 => ?_) (fun h_10 => ?_)
  · replace h_10 : ¬ k = 1 := h_10
    refine z_ild rfl rfl ?_
    refine z_ico (x := (nI 2)) rfl rfl ?_
    refine z_cmpN (by omega) (by omega) rfl (fun h_11 => ?_) (fun h_11 => ?_)
    · replace h_11 : ¬ k = 2 := h_11
      refine z_new rfl (by omega) (by omega) ?_
      intro q_12 g_13 h_14 e_15 f_16
      have d_17 := (zn0 k_6 h_14)
      have k_18 := (f_16 p1 (zn0 k_6 h_14)).trans k_6
      have k_19 := (f_16 q_1 (zn0 e_4 h_14)).trans e_4
      have n_21 := ext_new x_7 h_14
      have n_22 := ext_gn x_7 h_14
      have x_20 := ext_mut x_7 f_16 (Or.inl n_21) n_22 e_15
      replace e_15 : g_13 q_12 = some (zO 7 [zI (nI 0), zI (nI 0), zI (nI 0), zR none]) := e_15
      refine z_dup rfl rfl ?_
      refine z_ald rfl rfl ?_
      refine z_get rfl k_18 rfl ?_
      refine z_ald rfl rfl ?_
      refine z_get rfl k_18 rfl ?_
      refine z_ald rfl rfl ?_
      refine z_get rfl k_18 rfl ?_
      refine z_ico (x := (nI 1)) rfl rfl ?_
      refine z_ibi (v := ((V.2.2.1) + (nI 1))) rfl rfl ?_
      refine z_ald rfl rfl ?_
      refine z_call (as := [zR (some q_12), zI (V.1), zI (V.2.1), zI ((V.2.2.1) + (nI 1)), zR (some q_1)]) (r := [zR (some q_12)]) (mc' := 0) (ms' := 0) rfl rfl rfl (Nat.le_of_ble_eq_true rfl) (by omega) (by omega) (rc2 rfl) (k_X7_init e_15) (by rintro _ _ ⟨e, _⟩; cases e) ?_
      rintro g_23 _ ⟨e9, e_24, f_25⟩; cases e9
      · skip
        have k_26 := (f_25 p1 d_17).trans k_18
        have k_27 := (f_25 q_1 (zne k_19 e_15 (by nofun))).trans k_19
        have x_28 := ext_mut x_20 f_25 (Or.inl n_21) n_22 e_24
        refine z_ret rfl ⟨_, rfl⟩ ?_
        obtain ⟨u_29, x_30, l_31, c_32, o_33⟩ := ext_frzE x_28 (Or.inl n_8) n_9 k_27
        have n_34 := (o_33 q_12 (zne e_24 k_27 (by nofun))).trans n_22
        obtain ⟨u_35, x_36, l_37, c_38, o_39⟩ := ext_frzE x_30 (Or.inl n_21) n_34 e_24
        have c_40 := l_37 _ _ c_32
        refine ⟨_, _, rfl, x_36, ?_⟩
        rw [rsV, if_neg h_10, if_neg h_11]
        exact vr_none c_38 c_40
    · replace h_11 : k = 2 := Decidable.of_not_not h_11
      refine z_new rfl (by omega) (by omega) ?_
      intro q_41 g_42 h_43 e_44 f_45
      have d_46 := (zn0 k_6 h_43)
      have k_47 := (f_45 p1 (zn0 k_6 h_43)).trans k_6
      have k_48 := (f_45 q_1 (zn0 e_4 h_43)).trans e_4
      have n_50 := ext_new x_7 h_43
      have n_51 := ext_gn x_7 h_43
      have x_49 := ext_mut x_7 f_45 (Or.inl n_50) n_51 e_44
      replace e_44 : g_42 q_41 = some (zO 7 [zI (nI 0), zI (nI 0), zI (nI 0), zR none]) := e_44
      refine z_dup rfl rfl ?_
      refine z_ald rfl rfl ?_
      refine z_get rfl k_47 rfl ?_
      refine z_ald rfl rfl ?_
      refine z_get rfl k_47 rfl ?_
      refine z_ico (x := (nI 1)) rfl rfl ?_
      refine z_ibi (v := ((V.2.1) + (nI 1))) rfl rfl ?_
      refine z_ico (x := (nI 0)) rfl rfl ?_
      refine z_ald rfl rfl ?_
      refine z_call (as := [zR (some q_41), zI (V.1), zI ((V.2.1) + (nI 1)), zI (nI 0), zR (some q_1)]) (r := [zR (some q_41)]) (mc' := 0) (ms' := 0) rfl rfl rfl (Nat.le_of_ble_eq_true rfl) (by omega) (by omega) (rc2 rfl) (k_X7_init e_44) (by rintro _ _ ⟨e, _⟩; cases e) ?_
      rintro g_52 _ ⟨e9, e_53, f_54⟩; cases e9
      · skip
        have k_55 := (f_54 p1 d_46).trans k_47
        have k_56 := (f_54 q_1 (zne k_48 e_44 (by nofun))).trans k_48
        have x_57 := ext_mut x_49 f_54 (Or.inl n_50) n_51 e_53
        refine z_ret rfl ⟨_, rfl⟩ ?_
        obtain ⟨u_58, x_59, l_60, c_61, o_62⟩ := ext_frzE x_57 (Or.inl n_8) n_9 k_56
        have n_63 := (o_62 q_41 (zne e_53 k_56 (by nofun))).trans n_51
        obtain ⟨u_64, x_65, l_66, c_67, o_68⟩ := ext_frzE x_59 (Or.inl n_50) n_63 e_53
        have c_69 := l_66 _ _ c_61
        refine ⟨_, _, rfl, x_65, ?_⟩
        rw [rsV, if_neg h_10, if_pos h_11]
        exact vr_none c_67 c_69
  · replace h_10 : k = 1 := Decidable.of_not_not h_10
    refine z_new rfl (by omega) (by omega) ?_
    intro q_70 g_71 h_72 e_73 f_74
    have d_75 := (zn0 k_6 h_72)
    have k_76 := (f_74 p1 (zn0 k_6 h_72)).trans k_6
    have k_77 := (f_74 q_1 (zn0 e_4 h_72)).trans e_4
    have n_79 := ext_new x_7 h_72
    have n_80 := ext_gn x_7 h_72
    have x_78 := ext_mut x_7 f_74 (Or.inl n_79) n_80 e_73
    replace e_73 : g_71 q_70 = some (zO 7 [zI (nI 0), zI (nI 0), zI (nI 0), zR none]) := e_73
    refine z_dup rfl rfl ?_
    refine z_ald rfl rfl ?_
    refine z_get rfl k_76 rfl ?_
    refine z_ico (x := (nI 1)) rfl rfl ?_
    refine z_ibi (v := ((V.1) + (nI 1))) rfl rfl ?_
    refine z_ico (x := (nI 0)) rfl rfl ?_
    refine z_ico (x := (nI 0)) rfl rfl ?_
    refine z_ald rfl rfl ?_
    refine z_call (as := [zR (some q_70), zI ((V.1) + (nI 1)), zI (nI 0), zI (nI 0), zR (some q_1)]) (r := [zR (some q_70)]) (mc' := 0) (ms' := 0) rfl rfl rfl (Nat.le_of_ble_eq_true rfl) (by omega) (by omega) (rc2 rfl) (k_X7_init e_73) (by rintro _ _ ⟨e, _⟩; cases e) ?_
    rintro g_81 _ ⟨e9, e_82, f_83⟩; cases e9
    · skip
      have k_84 := (f_83 p1 d_75).trans k_76
      have k_85 := (f_83 q_1 (zne k_77 e_73 (by nofun))).trans k_77
      have x_86 := ext_mut x_78 f_83 (Or.inl n_79) n_80 e_82
      refine z_ret rfl ⟨_, rfl⟩ ?_
      obtain ⟨u_87, x_88, l_89, c_90, o_91⟩ := ext_frzE x_86 (Or.inl n_8) n_9 k_85
      have n_92 := (o_91 q_70 (zne e_82 k_85 (by nofun))).trans n_80
      obtain ⟨u_93, x_94, l_95, c_96, o_97⟩ := ext_frzE x_88 (Or.inl n_79) n_92 e_82
      have c_98 := l_95 _ _ c_90
      refine ⟨_, _, rfl, x_94, ?_⟩
      rw [rsV, if_pos h_10]
      exact vr_none c_96 c_98
set_option maxHeartbeats 1000000 in
theorem k_X6_init {d : Nat} {h : zH} {q : Nat} {a : Option Nat} (h1 : h q = some (zO 6 [zR none, zR none, zI (bI false), zR none, zI (bI false)])) : zCall (d + 1) 58 [zR (some q), zR a] h 0 0 (fun h' o => o = .inl none ∧ h' q = some (zO 6 [zR a, zR none, zI (bI false), zR none, zI (bI false)]) ∧ (∀ y, y ≠ q → h' y = h y)) := by
  refine zCall.of (d := d) (T := tb_58) (L := [some (zR (some q)), some (zR a)]) (Nat.le_of_ble_eq_true rfl) rfl rfl ?_
  refine z_ald rfl rfl ?_
  refine z_oin rfl (Nat.le_of_ble_eq_true rfl) ?_
  refine z_ald rfl rfl ?_
  refine z_ald rfl rfl ?_
  refine z_put (e := zO 6 [zR a, zR none, zI (bI false), zR none, zI (bI false)]) rfl h1 (Nat.le_of_ble_eq_true rfl) ⟨_, rfl⟩ rfl ?_
  intro g_1 e_2 f_3
  refine z_rtv rfl ?_
  exact ⟨rfl, e_2, fun y hy => f_3 y hy⟩
set_option maxHeartbeats 1000000 in
theorem k_X6_from {d : Nat} {h : zH} {q : Nat} {a b c v : Option Nat} {x y it : Bool} (h1 : h q = some (zO 6 [zR a, zR b, zI (bI x), zR c, zI (bI y)])) : zCall (d + 1) 62 [zR (some q), zR v, zI (bI it)] h 0 0 (fun h' o => o = .inl none ∧ h' q = some (zO 6 [zR a, zR v, zI (bI it), zR c, zI (bI y)]) ∧ (∀ y, y ≠ q → h' y = h y)) := by
  refine zCall.of (d := d) (T := tb_62) (L := [some (zR (some q)), some (zR v), some (zI (bI it))]) (Nat.le_of_ble_eq_true rfl) rfl rfl ?_
  refine z_ald rfl rfl ?_
  refine z_ald rfl rfl ?_
  refine z_put (e := zO 6 [zR a, zR v, zI (bI x), zR c, zI (bI y)]) rfl h1 (Nat.le_of_ble_eq_true rfl) ⟨_, rfl⟩ rfl ?_
  intro g_1 e_2 f_3
  refine z_ald rfl rfl ?_
  refine z_ild rfl rfl ?_
  refine z_put (e := zO 6 [zR a, zR v, zI (bI it), zR c, zI (bI y)]) rfl e_2 (Nat.le_of_ble_eq_true rfl) ⟨_, rfl, bI_01 _⟩ rfl ?_
  intro g_4 e_5 f_6
  refine z_rtv rfl ?_
  exact ⟨rfl, e_5, fun y hy => (f_6 y hy).trans (f_3 y hy)⟩
set_option maxHeartbeats 1000000 in
theorem k_X6_to {d : Nat} {h : zH} {q : Nat} {a b c v : Option Nat} {x y it : Bool} (h1 : h q = some (zO 6 [zR a, zR b, zI (bI x), zR c, zI (bI y)])) : zCall (d + 1) 63 [zR (some q), zR v, zI (bI it)] h 0 0 (fun h' o => o = .inl none ∧ h' q = some (zO 6 [zR a, zR b, zI (bI x), zR v, zI (bI it)]) ∧ (∀ y, y ≠ q → h' y = h y)) := by
  refine zCall.of (d := d) (T := tb_63) (L := [some (zR (some q)), some (zR v), some (zI (bI it))]) (Nat.le_of_ble_eq_true rfl) rfl rfl ?_
  refine z_ald rfl rfl ?_
  refine z_ald rfl rfl ?_
  refine z_put (e := zO 6 [zR a, zR b, zI (bI x), zR v, zI (bI y)]) rfl h1 (Nat.le_of_ble_eq_true rfl) ⟨_, rfl⟩ rfl ?_
  intro g_1 e_2 f_3
  refine z_ald rfl rfl ?_
  refine z_ild rfl rfl ?_
  refine z_put (e := zO 6 [zR a, zR b, zI (bI x), zR v, zI (bI it)]) rfl e_2 (Nat.le_of_ble_eq_true rfl) ⟨_, rfl, bI_01 _⟩ rfl ?_
  intro g_4 e_5 f_6
  refine z_rtv rfl ?_
  exact ⟨rfl, e_5, fun y hy => (f_6 y hy).trans (f_3 y hy)⟩
set_option maxHeartbeats 1000000 in
theorem k_X6_ofAll {d : Nat} {h : zH} {g : zH} (hg : hle g h) : zCall (d + 2) 59 [] h 1 5 (fun h' o => ∃ q g', o = .inl (some (zR (some q))) ∧ ext (fun y => False) g h g' h' ∧ spAt g' q (none, none, false, none, false)) := by
  refine zCall.of (d := d + 1) (T := tb_59) (L := []) (Nat.le_of_ble_eq_true rfl) rfl rfl ?_
  have x0 : ext (fun y => False) g h g h := ext_refl hg
  refine z_new rfl (by omega) (by omega) ?_
  intro q_1 g_2 h_3 e_4 f_5
  have n_7 := ext_new x0 h_3
  have n_8 := ext_gn x0 h_3
  have x_6 := ext_mut x0 f_5 (Or.inl n_7) n_8 e_4
  replace e_4 : g_2 q_1 = some (zO 6 [zR none, zR none, zI (bI false), zR none, zI (bI false)]) := e_4
  refine z_dup rfl rfl ?_
  refine z_nul rfl ?_
  refine z_call (as := [zR (some q_1), zR none]) (r := [zR (some q_1)]) (mc' := 0) (ms' := 0) rfl rfl rfl (Nat.le_of_ble_eq_true rfl) (by omega) (by omega) (rc2 rfl) (k_X6_init e_4) (by rintro _ _ ⟨e, _⟩; cases e) ?_
  rintro g_9 _ ⟨e9, e_10, f_11⟩; cases e9
  · skip
    have x_12 := ext_mut x_6 f_11 (Or.inl n_7) n_8 e_10
    refine z_ret rfl ⟨_, rfl⟩ ?_
    obtain ⟨u_13, x_14, l_15, c_16, o_17⟩ := ext_frzE x_12 (Or.inl n_7) n_8 e_10
    exact ⟨_, _, rfl, x_14, sp_mk c_16 ov_n ov_n ov_n⟩
set_option maxHeartbeats 1000000 in
theorem k_of0 {d : Nat} {h : zH} {v k : Nat} {V : vV} {g : zH} (hv : vrAt g v V) (hk : 1 ≤ k ∧ k ≤ 3) (hg : hle g h) : zCall (d + 3) 60 [zI (nI 0), zR (some v), zI (nI k)] h 5 13 (fun h' o => ∃ q g', o = .inl (some (zR (some q))) ∧ ext (fun y => False) g h g' h' ∧ spAt g' q (spC 0 V k)) := by
  obtain ⟨fsv, hvc⟩ := vr_cell (vrAt_mono hg hv)
  refine zCall.of (d := d + 2) (T := tb_60) (L := [some (zI (nI 0)), some (zR (some v)), some (zI (nI k)), none, none, none]) (Nat.le_of_ble_eq_true rfl) rfl rfl ?_
  have x0 : ext (fun y => False) g h g h := ext_refl hg
  refine z_new rfl (by omega) (by omega) ?_
  intro q_1 g_2 h_3 e_4 f_5
  have k_6 := (f_5 v (zn0 hvc h_3)).trans hvc
  have n_8 := ext_new x0 h_3
  have n_9 := ext_gn x0 h_3
  have x_7 := ext_mut x0 f_5 (Or.inl n_8) n_9 e_4
  replace e_4 : g_2 q_1 = some (zO 6 [zR none, zR none, zI (bI false), zR none, zI (bI false)]) := e_4
  refine z_dup rfl rfl ?_
  refine z_ald rfl rfl ?_
  refine z_call (as := [zR (some q_1), zR (some v)]) (r := [zR (some q_1)]) (mc' := 0) (ms' := 0) rfl rfl rfl (Nat.le_of_ble_eq_true rfl) (by omega) (by omega) (rc2 rfl) (k_X6_init e_4) (by rintro _ _ ⟨e, _⟩; cases e) ?_
  rintro g_10 _ ⟨e9, e_11, f_12⟩; cases e9
  · skip
    have k_13 := (f_12 v (zne k_6 e_4 (by nofun))).trans k_6
    have x_14 := ext_mut x_7 f_12 (Or.inl n_8) n_9 e_11
    refine z_ast (ls' := [some (zI (nI 0)), some (zR (some v)), some (zI (nI k)), some (zR (some q_1)), none, none]) rfl (Nat.le_of_ble_eq_true rfl) rfl ?_
    refine z_ild rfl rfl ?_
    refine z_ico (x := (nI 3)) rfl rfl ?_
    refine z_cmpN (by omega) (by omega) rfl (fun h_15 => ?_) (fun h_15 => ?_)
    · replace h_15 : ¬ k = 3 := h_15
      refine z_ico (x := (nI 0)) rfl rfl ?_
      refine z_ist (ls' := [some (zI (nI 0)), some (zR (some v)), some (zI (nI k)), some (zR (some q_1)), some (zI (nI 0)), none]) rfl (Nat.le_of_ble_eq_true rfl) rfl ?_
      refine z_ild rfl rfl ?_
      refine z_ifN (by omega) rfl (fun h_16 => ?_) (fun h_16 => ?_)
      · replace h_16 : 0 = 0 := h_16
        refine z_ald rfl rfl ?_
        refine z_ild rfl rfl ?_
        refine z_call (as := [zR (some v), zI (nI k)]) (r := []) (mc' := 2) (ms' := 4) rfl rfl rfl (Nat.le_of_ble_eq_true rfl) (by omega) (by omega) (rc0 rfl k_13) (k_X7_raised (vrAt_mono x_14.2.1 hv) (by omega) x_14.2.1) (by rintro _ _ ⟨_, _, e, _⟩; cases e) ?_
        rintro g_17 _ ⟨q_18, u_19, e9, x_20, t_21⟩; cases e9
        · skip
          have k_22 := (x_20.2.2.2.2 v (some_nn k_13) (fun e => e)).trans k_13
          have k_23 := (x_20.2.2.2.2 q_1 (some_nn e_11) (fun e => e)).trans e_11
          have n_24 := x_20.2.2.1 q_1 n_9 (some_nn e_11)
          have x_25 := ext_call x_14 x_20 (fun y e => e.elim)
          have t_26 := vrAt_mono x_20.1 hv
          obtain ⟨fs_q_18, cw_q_18⟩ := vr_cell (vrAt_mono x_25.2.1 t_21)
          refine z_ast (ls' := [some (zI (nI 0)), some (zR (some v)), some (zI (nI k)), some (zR (some q_1)), some (zI (nI 0)), some (zR (some q_18))]) rfl (Nat.le_of_ble_eq_true rfl) rfl ?_
          refine z_ild rfl rfl ?_
          skip
          · refine z_sw (t := 76) rfl (by decide +kernel) ?_
            refine z_ald rfl rfl ?_
            refine z_ald rfl rfl ?_
            refine z_ico (x := (nI 1)) rfl rfl ?_
            refine z_call (as := [zR (some q_1), zR (some v), zI (nI 1)]) (r := []) (mc' := 0) (ms' := 0) rfl rfl rfl (Nat.le_of_ble_eq_true rfl) (by omega) (by omega) (rc0 rfl k_23) (k_X6_from (it := true) k_23) (by rintro _ _ ⟨e, _⟩; cases e) ?_
            rintro g_27 _ ⟨e9, e_28, f_29⟩; cases e9
            · skip
              have k_30 := (f_29 v (zne k_22 k_23 (by nofun))).trans k_22
              have k_31 := (f_29 q_18 (zne cw_q_18 k_23 (by nofun))).trans cw_q_18
              have x_32 := ext_mut x_25 f_29 (Or.inl n_8) n_24 e_28
              refine z_ald rfl rfl ?_
              refine z_ald rfl rfl ?_
              refine z_ald rfl rfl ?_
              refine z_ild rfl rfl ?_
              have hkc := kcF_le (V := V) (k := k)
              refine z_callF (as := [zR (some v), zI (nI k)]) (r := [zR (some v), zR (some q_1)]) (v := some (zI (nI (kcF V k)))) rfl rfl rfl (Nat.le_of_ble_eq_true rfl) (by omega) (by omega) (rc1 rfl) (k_X6_keptByCaret (vrAt_mono x_32.2.1 t_26) (by omega)) ?_
              refine z_call (as := [zR (some v), zI (nI (kcF V k))]) (r := [zR (some q_1)]) (mc' := 2) (ms' := 4) rfl rfl rfl (Nat.le_of_ble_eq_true rfl) (by omega) (by omega) (rc0 rfl k_30) (k_X7_raised (vrAt_mono x_32.2.1 t_26) (by omega) x_32.2.1) (by rintro _ _ ⟨_, _, e, _⟩; cases e) ?_
              rintro g_33 _ ⟨q_34, u_35, e9, x_36, t_37⟩; cases e9
              · skip
                have k_38 := (x_36.2.2.2.2 v (some_nn k_30) (fun e => e)).trans k_30
                have k_39 := (x_36.2.2.2.2 q_18 (some_nn k_31) (fun e => e)).trans k_31
                have k_40 := (x_36.2.2.2.2 q_1 (some_nn e_28) (fun e => e)).trans e_28
                have n_41 := x_36.2.2.1 q_1 n_24 (some_nn e_28)
                have x_42 := ext_call x_32 x_36 (fun y e => e.elim)
                have t_43 := vrAt_mono x_36.1 t_26
                have t_44 := vrAt_mono x_36.1 t_21
                obtain ⟨fs_q_34, cw_q_34⟩ := vr_cell (vrAt_mono x_42.2.1 t_37)
                refine z_ico (x := (nI 0)) rfl rfl ?_
                refine z_call (as := [zR (some q_1), zR (some q_34), zI (nI 0)]) (r := []) (mc' := 0) (ms' := 0) rfl rfl rfl (Nat.le_of_ble_eq_true rfl) (by omega) (by omega) (rc0 rfl k_40) (k_X6_to (it := false) k_40) (by rintro _ _ ⟨e, _⟩; cases e) ?_
                rintro g_45 _ ⟨e9, e_46, f_47⟩; cases e9
                · skip
                  have k_48 := (f_47 v (zne k_38 k_40 (by nofun))).trans k_38
                  have k_49 := (f_47 q_18 (zne k_39 k_40 (by nofun))).trans k_39
                  have k_50 := (f_47 q_34 (zne cw_q_34 k_40 (by nofun))).trans cw_q_34
                  have x_51 := ext_mut x_42 f_47 (Or.inl n_8) n_41 e_46
                  refine z_go rfl ?_
                  refine z_ald rfl rfl ?_
                  refine z_ret rfl ⟨_, rfl⟩ ?_
                  obtain ⟨u_52, x_53, l_54, c_55, o_56⟩ := ext_frzE x_51 (Or.inl n_8) n_41 e_46
                  have t_57 := vrAt_mono l_54 t_43
                  have t_58 := vrAt_mono l_54 t_44
                  have t_59 := vrAt_mono l_54 t_37
                  refine ⟨_, _, rfl, x_53, ?_⟩
                  have h9 := sp_mk c_55 (ov_s t_57) (ov_s t_57) (ov_s t_59)
                  exact h9
      · replace h_16 : ¬ (0 = 0) := h_16
        omega
    · replace h_15 : k = 3 := Decidable.of_not_not h_15
      refine z_ico (x := (nI 1)) rfl rfl ?_
      refine z_go rfl ?_
      refine z_ist (ls' := [some (zI (nI 0)), some (zR (some v)), some (zI (nI k)), some (zR (some q_1)), some (zI (nI 1)), none]) rfl (Nat.le_of_ble_eq_true rfl) rfl ?_
      refine z_ild rfl rfl ?_
      refine z_ifN (by omega) rfl (fun h_60 => ?_) (fun h_60 => ?_)
      · replace h_60 : 1 = 0 := h_60
        omega
      · replace h_60 : ¬ (1 = 0) := h_60
        refine z_ald rfl rfl ?_
        refine z_go rfl ?_
        refine z_ast (ls' := [some (zI (nI 0)), some (zR (some v)), some (zI (nI k)), some (zR (some q_1)), some (zI (nI 1)), some (zR (some v))]) rfl (Nat.le_of_ble_eq_true rfl) rfl ?_
        refine z_ild rfl rfl ?_
        skip
        · refine z_sw (t := 76) rfl (by decide +kernel) ?_
          refine z_ald rfl rfl ?_
          refine z_ald rfl rfl ?_
          refine z_ico (x := (nI 1)) rfl rfl ?_
          refine z_call (as := [zR (some q_1), zR (some v), zI (nI 1)]) (r := []) (mc' := 0) (ms' := 0) rfl rfl rfl (Nat.le_of_ble_eq_true rfl) (by omega) (by omega) (rc0 rfl e_11) (k_X6_from (it := true) e_11) (by rintro _ _ ⟨e, _⟩; cases e) ?_
          rintro g_61 _ ⟨e9, e_62, f_63⟩; cases e9
          · skip
            have k_64 := (f_63 v (zne k_13 e_11 (by nofun))).trans k_13
            have x_65 := ext_mut x_14 f_63 (Or.inl n_8) n_9 e_62
            refine z_ald rfl rfl ?_
            refine z_ald rfl rfl ?_
            refine z_ald rfl rfl ?_
            refine z_ild rfl rfl ?_
            have hkc := kcF_le (V := V) (k := k)
            refine z_callF (as := [zR (some v), zI (nI k)]) (r := [zR (some v), zR (some q_1)]) (v := some (zI (nI (kcF V k)))) rfl rfl rfl (Nat.le_of_ble_eq_true rfl) (by omega) (by omega) (rc1 rfl) (k_X6_keptByCaret (vrAt_mono x_65.2.1 hv) (by omega)) ?_
            refine z_call (as := [zR (some v), zI (nI (kcF V k))]) (r := [zR (some q_1)]) (mc' := 2) (ms' := 4) rfl rfl rfl (Nat.le_of_ble_eq_true rfl) (by omega) (by omega) (rc0 rfl k_64) (k_X7_raised (vrAt_mono x_65.2.1 hv) (by omega) x_65.2.1) (by rintro _ _ ⟨_, _, e, _⟩; cases e) ?_
            rintro g_66 _ ⟨q_67, u_68, e9, x_69, t_70⟩; cases e9
            · skip
              have k_71 := (x_69.2.2.2.2 v (some_nn k_64) (fun e => e)).trans k_64
              have k_72 := (x_69.2.2.2.2 q_1 (some_nn e_62) (fun e => e)).trans e_62
              have n_73 := x_69.2.2.1 q_1 n_9 (some_nn e_62)
              have x_74 := ext_call x_65 x_69 (fun y e => e.elim)
              have t_75 := vrAt_mono x_69.1 hv
              obtain ⟨fs_q_67, cw_q_67⟩ := vr_cell (vrAt_mono x_74.2.1 t_70)
              refine z_ico (x := (nI 0)) rfl rfl ?_
              refine z_call (as := [zR (some q_1), zR (some q_67), zI (nI 0)]) (r := []) (mc' := 0) (ms' := 0) rfl rfl rfl (Nat.le_of_ble_eq_true rfl) (by omega) (by omega) (rc0 rfl k_72) (k_X6_to (it := false) k_72) (by rintro _ _ ⟨e, _⟩; cases e) ?_
              rintro g_76 _ ⟨e9, e_77, f_78⟩; cases e9
              · skip
                have k_79 := (f_78 v (zne k_71 k_72 (by nofun))).trans k_71
                have k_80 := (f_78 q_67 (zne cw_q_67 k_72 (by nofun))).trans cw_q_67
                have x_81 := ext_mut x_74 f_78 (Or.inl n_8) n_73 e_77
                refine z_go rfl ?_
                refine z_ald rfl rfl ?_
                refine z_ret rfl ⟨_, rfl⟩ ?_
                obtain ⟨u_82, x_83, l_84, c_85, o_86⟩ := ext_frzE x_81 (Or.inl n_8) n_73 e_77
                have t_87 := vrAt_mono l_84 t_75
                have t_88 := vrAt_mono l_84 t_70
                refine ⟨_, _, rfl, x_83, ?_⟩
                have h9 := sp_mk c_85 (ov_s t_87) (ov_s t_87) (ov_s t_88)
                exact h9
set_option maxHeartbeats 1000000 in
theorem k_of1 {d : Nat} {h : zH} {v k : Nat} {V : vV} {g : zH} (hv : vrAt g v V) (hk : 1 ≤ k ∧ k ≤ 3) (hg : hle g h) : zCall (d + 3) 60 [zI (nI 1), zR (some v), zI (nI k)] h 5 13 (fun h' o => ∃ q g', o = .inl (some (zR (some q))) ∧ ext (fun y => False) g h g' h' ∧ spAt g' q (spC 1 V k)) := by
  obtain ⟨fsv, hvc⟩ := vr_cell (vrAt_mono hg hv)
  refine zCall.of (d := d + 2) (T := tb_60) (L := [some (zI (nI 1)), some (zR (some v)), some (zI (nI k)), none, none, none]) (Nat.le_of_ble_eq_true rfl) rfl rfl ?_
  have x0 : ext (fun y => False) g h g h := ext_refl hg
  refine z_new rfl (by omega) (by omega) ?_
  intro q_1 g_2 h_3 e_4 f_5
  have k_6 := (f_5 v (zn0 hvc h_3)).trans hvc
  have n_8 := ext_new x0 h_3
  have n_9 := ext_gn x0 h_3
  have x_7 := ext_mut x0 f_5 (Or.inl n_8) n_9 e_4
  replace e_4 : g_2 q_1 = some (zO 6 [zR none, zR none, zI (bI false), zR none, zI (bI false)]) := e_4
  refine z_dup rfl rfl ?_
  refine z_ald rfl rfl ?_
  refine z_call (as := [zR (some q_1), zR (some v)]) (r := [zR (some q_1)]) (mc' := 0) (ms' := 0) rfl rfl rfl (Nat.le_of_ble_eq_true rfl) (by omega) (by omega) (rc2 rfl) (k_X6_init e_4) (by rintro _ _ ⟨e, _⟩; cases e) ?_
  rintro g_10 _ ⟨e9, e_11, f_12⟩; cases e9
  · skip
    have k_13 := (f_12 v (zne k_6 e_4 (by nofun))).trans k_6
    have x_14 := ext_mut x_7 f_12 (Or.inl n_8) n_9 e_11
    refine z_ast (ls' := [some (zI (nI 1)), some (zR (some v)), some (zI (nI k)), some (zR (some q_1)), none, none]) rfl (Nat.le_of_ble_eq_true rfl) rfl ?_
    refine z_ild rfl rfl ?_
    refine z_ico (x := (nI 3)) rfl rfl ?_
    refine z_cmpN (by omega) (by omega) rfl (fun h_15 => ?_) (fun h_15 => ?_)
    · replace h_15 : ¬ k = 3 := h_15
      refine z_ico (x := (nI 0)) rfl rfl ?_
      refine z_ist (ls' := [some (zI (nI 1)), some (zR (some v)), some (zI (nI k)), some (zR (some q_1)), some (zI (nI 0)), none]) rfl (Nat.le_of_ble_eq_true rfl) rfl ?_
      refine z_ild rfl rfl ?_
      refine z_ifN (by omega) rfl (fun h_16 => ?_) (fun h_16 => ?_)
      · replace h_16 : 0 = 0 := h_16
        refine z_ald rfl rfl ?_
        refine z_ild rfl rfl ?_
        refine z_call (as := [zR (some v), zI (nI k)]) (r := []) (mc' := 2) (ms' := 4) rfl rfl rfl (Nat.le_of_ble_eq_true rfl) (by omega) (by omega) (rc0 rfl k_13) (k_X7_raised (vrAt_mono x_14.2.1 hv) (by omega) x_14.2.1) (by rintro _ _ ⟨_, _, e, _⟩; cases e) ?_
        rintro g_17 _ ⟨q_18, u_19, e9, x_20, t_21⟩; cases e9
        · skip
          have k_22 := (x_20.2.2.2.2 v (some_nn k_13) (fun e => e)).trans k_13
          have k_23 := (x_20.2.2.2.2 q_1 (some_nn e_11) (fun e => e)).trans e_11
          have n_24 := x_20.2.2.1 q_1 n_9 (some_nn e_11)
          have x_25 := ext_call x_14 x_20 (fun y e => e.elim)
          have t_26 := vrAt_mono x_20.1 hv
          obtain ⟨fs_q_18, cw_q_18⟩ := vr_cell (vrAt_mono x_25.2.1 t_21)
          refine z_ast (ls' := [some (zI (nI 1)), some (zR (some v)), some (zI (nI k)), some (zR (some q_1)), some (zI (nI 0)), some (zR (some q_18))]) rfl (Nat.le_of_ble_eq_true rfl) rfl ?_
          refine z_ild rfl rfl ?_
          skip
          · refine z_sw (t := 99) rfl (by decide +kernel) ?_
            refine z_ald rfl rfl ?_
            refine z_ald rfl rfl ?_
            refine z_ico (x := (nI 1)) rfl rfl ?_
            refine z_call (as := [zR (some q_1), zR (some v), zI (nI 1)]) (r := []) (mc' := 0) (ms' := 0) rfl rfl rfl (Nat.le_of_ble_eq_true rfl) (by omega) (by omega) (rc0 rfl k_23) (k_X6_from (it := true) k_23) (by rintro _ _ ⟨e, _⟩; cases e) ?_
            rintro g_27 _ ⟨e9, e_28, f_29⟩; cases e9
            · skip
              have k_30 := (f_29 v (zne k_22 k_23 (by nofun))).trans k_22
              have k_31 := (f_29 q_18 (zne cw_q_18 k_23 (by nofun))).trans cw_q_18
              have x_32 := ext_mut x_25 f_29 (Or.inl n_8) n_24 e_28
              refine z_ald rfl rfl ?_
              refine z_ald rfl rfl ?_
              refine z_ild rfl rfl ?_
              refine z_ico (x := (nI 2)) rfl rfl ?_
              refine z_min (v := (nI (min k 2))) rfl (Nat.le_of_ble_eq_true rfl) (mn_2 hk.2) ?_
              refine z_call (as := [zR (some v), zI (nI (min k 2))]) (r := [zR (some q_1)]) (mc' := 2) (ms' := 4) rfl rfl rfl (Nat.le_of_ble_eq_true rfl) (by omega) (by omega) (rc0 rfl k_30) (k_X7_raised (vrAt_mono x_32.2.1 t_26) (by omega) x_32.2.1) (by rintro _ _ ⟨_, _, e, _⟩; cases e) ?_
              rintro g_33 _ ⟨q_34, u_35, e9, x_36, t_37⟩; cases e9
              · skip
                have k_38 := (x_36.2.2.2.2 v (some_nn k_30) (fun e => e)).trans k_30
                have k_39 := (x_36.2.2.2.2 q_18 (some_nn k_31) (fun e => e)).trans k_31
                have k_40 := (x_36.2.2.2.2 q_1 (some_nn e_28) (fun e => e)).trans e_28
                have n_41 := x_36.2.2.1 q_1 n_24 (some_nn e_28)
                have x_42 := ext_call x_32 x_36 (fun y e => e.elim)
                have t_43 := vrAt_mono x_36.1 t_26
                have t_44 := vrAt_mono x_36.1 t_21
                obtain ⟨fs_q_34, cw_q_34⟩ := vr_cell (vrAt_mono x_42.2.1 t_37)
                refine z_ico (x := (nI 0)) rfl rfl ?_
                refine z_call (as := [zR (some q_1), zR (some q_34), zI (nI 0)]) (r := []) (mc' := 0) (ms' := 0) rfl rfl rfl (Nat.le_of_ble_eq_true rfl) (by omega) (by omega) (rc0 rfl k_40) (k_X6_to (it := false) k_40) (by rintro _ _ ⟨e, _⟩; cases e) ?_
                rintro g_45 _ ⟨e9, e_46, f_47⟩; cases e9
                · skip
                  have k_48 := (f_47 v (zne k_38 k_40 (by nofun))).trans k_38
                  have k_49 := (f_47 q_18 (zne k_39 k_40 (by nofun))).trans k_39
                  have k_50 := (f_47 q_34 (zne cw_q_34 k_40 (by nofun))).trans cw_q_34
                  have x_51 := ext_mut x_42 f_47 (Or.inl n_8) n_41 e_46
                  refine z_go rfl ?_
                  refine z_ald rfl rfl ?_
                  refine z_ret rfl ⟨_, rfl⟩ ?_
                  obtain ⟨u_52, x_53, l_54, c_55, o_56⟩ := ext_frzE x_51 (Or.inl n_8) n_41 e_46
                  have t_57 := vrAt_mono l_54 t_43
                  have t_58 := vrAt_mono l_54 t_44
                  have t_59 := vrAt_mono l_54 t_37
                  refine ⟨_, _, rfl, x_53, ?_⟩
                  have h9 := sp_mk c_55 (ov_s t_57) (ov_s t_57) (ov_s t_59)
                  exact h9
      · replace h_16 : ¬ (0 = 0) := h_16
        omega
    · replace h_15 : k = 3 := Decidable.of_not_not h_15
      refine z_ico (x := (nI 1)) rfl rfl ?_
      refine z_go rfl ?_
      refine z_ist (ls' := [some (zI (nI 1)), some (zR (some v)), some (zI (nI k)), some (zR (some q_1)), some (zI (nI 1)), none]) rfl (Nat.le_of_ble_eq_true rfl) rfl ?_
      refine z_ild rfl rfl ?_
      refine z_ifN (by omega) rfl (fun h_60 => ?_) (fun h_60 => ?_)
      · replace h_60 : 1 = 0 := h_60
        omega
      · replace h_60 : ¬ (1 = 0) := h_60
        refine z_ald rfl rfl ?_
        refine z_go rfl ?_
        refine z_ast (ls' := [some (zI (nI 1)), some (zR (some v)), some (zI (nI k)), some (zR (some q_1)), some (zI (nI 1)), some (zR (some v))]) rfl (Nat.le_of_ble_eq_true rfl) rfl ?_
        refine z_ild rfl rfl ?_
        skip
        · refine z_sw (t := 99) rfl (by decide +kernel) ?_
          refine z_ald rfl rfl ?_
          refine z_ald rfl rfl ?_
          refine z_ico (x := (nI 1)) rfl rfl ?_
          refine z_call (as := [zR (some q_1), zR (some v), zI (nI 1)]) (r := []) (mc' := 0) (ms' := 0) rfl rfl rfl (Nat.le_of_ble_eq_true rfl) (by omega) (by omega) (rc0 rfl e_11) (k_X6_from (it := true) e_11) (by rintro _ _ ⟨e, _⟩; cases e) ?_
          rintro g_61 _ ⟨e9, e_62, f_63⟩; cases e9
          · skip
            have k_64 := (f_63 v (zne k_13 e_11 (by nofun))).trans k_13
            have x_65 := ext_mut x_14 f_63 (Or.inl n_8) n_9 e_62
            refine z_ald rfl rfl ?_
            refine z_ald rfl rfl ?_
            refine z_ild rfl rfl ?_
            refine z_ico (x := (nI 2)) rfl rfl ?_
            refine z_min (v := (nI (min k 2))) rfl (Nat.le_of_ble_eq_true rfl) (mn_2 hk.2) ?_
            refine z_call (as := [zR (some v), zI (nI (min k 2))]) (r := [zR (some q_1)]) (mc' := 2) (ms' := 4) rfl rfl rfl (Nat.le_of_ble_eq_true rfl) (by omega) (by omega) (rc0 rfl k_64) (k_X7_raised (vrAt_mono x_65.2.1 hv) (by omega) x_65.2.1) (by rintro _ _ ⟨_, _, e, _⟩; cases e) ?_
            rintro g_66 _ ⟨q_67, u_68, e9, x_69, t_70⟩; cases e9
            · skip
              have k_71 := (x_69.2.2.2.2 v (some_nn k_64) (fun e => e)).trans k_64
              have k_72 := (x_69.2.2.2.2 q_1 (some_nn e_62) (fun e => e)).trans e_62
              have n_73 := x_69.2.2.1 q_1 n_9 (some_nn e_62)
              have x_74 := ext_call x_65 x_69 (fun y e => e.elim)
              have t_75 := vrAt_mono x_69.1 hv
              obtain ⟨fs_q_67, cw_q_67⟩ := vr_cell (vrAt_mono x_74.2.1 t_70)
              refine z_ico (x := (nI 0)) rfl rfl ?_
              refine z_call (as := [zR (some q_1), zR (some q_67), zI (nI 0)]) (r := []) (mc' := 0) (ms' := 0) rfl rfl rfl (Nat.le_of_ble_eq_true rfl) (by omega) (by omega) (rc0 rfl k_72) (k_X6_to (it := false) k_72) (by rintro _ _ ⟨e, _⟩; cases e) ?_
              rintro g_76 _ ⟨e9, e_77, f_78⟩; cases e9
              · skip
                have k_79 := (f_78 v (zne k_71 k_72 (by nofun))).trans k_71
                have k_80 := (f_78 q_67 (zne cw_q_67 k_72 (by nofun))).trans cw_q_67
                have x_81 := ext_mut x_74 f_78 (Or.inl n_8) n_73 e_77
                refine z_go rfl ?_
                refine z_ald rfl rfl ?_
                refine z_ret rfl ⟨_, rfl⟩ ?_
                obtain ⟨u_82, x_83, l_84, c_85, o_86⟩ := ext_frzE x_81 (Or.inl n_8) n_73 e_77
                have t_87 := vrAt_mono l_84 t_75
                have t_88 := vrAt_mono l_84 t_70
                refine ⟨_, _, rfl, x_83, ?_⟩
                have h9 := sp_mk c_85 (ov_s t_87) (ov_s t_87) (ov_s t_88)
                exact h9
set_option maxHeartbeats 1000000 in
theorem k_of2 {d : Nat} {h : zH} {v k : Nat} {V : vV} {g : zH} (hv : vrAt g v V) (hk : 1 ≤ k ∧ k ≤ 3) (hg : hle g h) : zCall (d + 3) 60 [zI (nI 2), zR (some v), zI (nI k)] h 5 13 (fun h' o => ∃ q g', o = .inl (some (zR (some q))) ∧ ext (fun y => False) g h g' h' ∧ spAt g' q (spC 2 V k)) := by
  obtain ⟨fsv, hvc⟩ := vr_cell (vrAt_mono hg hv)
  refine zCall.of (d := d + 2) (T := tb_60) (L := [some (zI (nI 2)), some (zR (some v)), some (zI (nI k)), none, none, none]) (Nat.le_of_ble_eq_true rfl) rfl rfl ?_
  have x0 : ext (fun y => False) g h g h := ext_refl hg
  refine z_new rfl (by omega) (by omega) ?_
  intro q_1 g_2 h_3 e_4 f_5
  have k_6 := (f_5 v (zn0 hvc h_3)).trans hvc
  have n_8 := ext_new x0 h_3
  have n_9 := ext_gn x0 h_3
  have x_7 := ext_mut x0 f_5 (Or.inl n_8) n_9 e_4
  replace e_4 : g_2 q_1 = some (zO 6 [zR none, zR none, zI (bI false), zR none, zI (bI false)]) := e_4
  refine z_dup rfl rfl ?_
  refine z_ald rfl rfl ?_
  refine z_call (as := [zR (some q_1), zR (some v)]) (r := [zR (some q_1)]) (mc' := 0) (ms' := 0) rfl rfl rfl (Nat.le_of_ble_eq_true rfl) (by omega) (by omega) (rc2 rfl) (k_X6_init e_4) (by rintro _ _ ⟨e, _⟩; cases e) ?_
  rintro g_10 _ ⟨e9, e_11, f_12⟩; cases e9
  · skip
    have k_13 := (f_12 v (zne k_6 e_4 (by nofun))).trans k_6
    have x_14 := ext_mut x_7 f_12 (Or.inl n_8) n_9 e_11
    refine z_ast (ls' := [some (zI (nI 2)), some (zR (some v)), some (zI (nI k)), some (zR (some q_1)), none, none]) rfl (Nat.le_of_ble_eq_true rfl) rfl ?_
    refine z_ild rfl rfl ?_
    refine z_ico (x := (nI 3)) rfl rfl ?_
    refine z_cmpN (by omega) (by omega) rfl (fun h_15 => ?_) (fun h_15 => ?_)
    · replace h_15 : ¬ k = 3 := h_15
      refine z_ico (x := (nI 0)) rfl rfl ?_
      refine z_ist (ls' := [some (zI (nI 2)), some (zR (some v)), some (zI (nI k)), some (zR (some q_1)), some (zI (nI 0)), none]) rfl (Nat.le_of_ble_eq_true rfl) rfl ?_
      refine z_ild rfl rfl ?_
      refine z_ifN (by omega) rfl (fun h_16 => ?_) (fun h_16 => ?_)
      · replace h_16 : 0 = 0 := h_16
        refine z_ald rfl rfl ?_
        refine z_ild rfl rfl ?_
        refine z_call (as := [zR (some v), zI (nI k)]) (r := []) (mc' := 2) (ms' := 4) rfl rfl rfl (Nat.le_of_ble_eq_true rfl) (by omega) (by omega) (rc0 rfl k_13) (k_X7_raised (vrAt_mono x_14.2.1 hv) (by omega) x_14.2.1) (by rintro _ _ ⟨_, _, e, _⟩; cases e) ?_
        rintro g_17 _ ⟨q_18, u_19, e9, x_20, t_21⟩; cases e9
        · skip
          have k_22 := (x_20.2.2.2.2 v (some_nn k_13) (fun e => e)).trans k_13
          have k_23 := (x_20.2.2.2.2 q_1 (some_nn e_11) (fun e => e)).trans e_11
          have n_24 := x_20.2.2.1 q_1 n_9 (some_nn e_11)
          have x_25 := ext_call x_14 x_20 (fun y e => e.elim)
          have t_26 := vrAt_mono x_20.1 hv
          obtain ⟨fs_q_18, cw_q_18⟩ := vr_cell (vrAt_mono x_25.2.1 t_21)
          refine z_ast (ls' := [some (zI (nI 2)), some (zR (some v)), some (zI (nI k)), some (zR (some q_1)), some (zI (nI 0)), some (zR (some q_18))]) rfl (Nat.le_of_ble_eq_true rfl) rfl ?_
          refine z_ild rfl rfl ?_
          skip
          · refine z_sw (t := 122) rfl (by decide +kernel) ?_
            refine z_ald rfl rfl ?_
            refine z_ald rfl rfl ?_
            refine z_ico (x := (nI 1)) rfl rfl ?_
            refine z_call (as := [zR (some q_1), zR (some v), zI (nI 1)]) (r := []) (mc' := 0) (ms' := 0) rfl rfl rfl (Nat.le_of_ble_eq_true rfl) (by omega) (by omega) (rc0 rfl k_23) (k_X6_from (it := true) k_23) (by rintro _ _ ⟨e, _⟩; cases e) ?_
            rintro g_27 _ ⟨e9, e_28, f_29⟩; cases e9
            · skip
              have k_30 := (f_29 v (zne k_22 k_23 (by nofun))).trans k_22
              have k_31 := (f_29 q_18 (zne cw_q_18 k_23 (by nofun))).trans cw_q_18
              have x_32 := ext_mut x_25 f_29 (Or.inl n_8) n_24 e_28
              refine z_ald rfl rfl ?_
              refine z_ald rfl rfl ?_
              refine z_ild rfl rfl ?_
              refine z_call (as := [zR (some q_1), zR (some q_18), zI (nI 0)]) (r := []) (mc' := 0) (ms' := 0) rfl rfl rfl (Nat.le_of_ble_eq_true rfl) (by omega) (by omega) (rc0 rfl e_28) (k_X6_to (it := false) e_28) (by rintro _ _ ⟨e, _⟩; cases e) ?_
              rintro g_33 _ ⟨e9, e_34, f_35⟩; cases e9
              · skip
                have k_36 := (f_35 v (zne k_30 e_28 (by nofun))).trans k_30
                have k_37 := (f_35 q_18 (zne k_31 e_28 (by nofun))).trans k_31
                have x_38 := ext_mut x_32 f_35 (Or.inl n_8) n_24 e_34
                refine z_go rfl ?_
                refine z_ald rfl rfl ?_
                refine z_ret rfl ⟨_, rfl⟩ ?_
                obtain ⟨u_39, x_40, l_41, c_42, o_43⟩ := ext_frzE x_38 (Or.inl n_8) n_24 e_34
                have t_44 := vrAt_mono l_41 t_26
                have t_45 := vrAt_mono l_41 t_21
                refine ⟨_, _, rfl, x_40, ?_⟩
                have h9 := sp_mk c_42 (ov_s t_44) (ov_s t_44) (ov_s t_45)
                simpa [spC, laV, h_15] using h9
      · replace h_16 : ¬ (0 = 0) := h_16
        omega
    · replace h_15 : k = 3 := Decidable.of_not_not h_15
      refine z_ico (x := (nI 1)) rfl rfl ?_
      refine z_go rfl ?_
      refine z_ist (ls' := [some (zI (nI 2)), some (zR (some v)), some (zI (nI k)), some (zR (some q_1)), some (zI (nI 1)), none]) rfl (Nat.le_of_ble_eq_true rfl) rfl ?_
      refine z_ild rfl rfl ?_
      refine z_ifN (by omega) rfl (fun h_46 => ?_) (fun h_46 => ?_)
      · replace h_46 : 1 = 0 := h_46
        omega
      · replace h_46 : ¬ (1 = 0) := h_46
        refine z_ald rfl rfl ?_
        refine z_go rfl ?_
        refine z_ast (ls' := [some (zI (nI 2)), some (zR (some v)), some (zI (nI k)), some (zR (some q_1)), some (zI (nI 1)), some (zR (some v))]) rfl (Nat.le_of_ble_eq_true rfl) rfl ?_
        refine z_ild rfl rfl ?_
        skip
        · refine z_sw (t := 122) rfl (by decide +kernel) ?_
          refine z_ald rfl rfl ?_
          refine z_ald rfl rfl ?_
          refine z_ico (x := (nI 1)) rfl rfl ?_
          refine z_call (as := [zR (some q_1), zR (some v), zI (nI 1)]) (r := []) (mc' := 0) (ms' := 0) rfl rfl rfl (Nat.le_of_ble_eq_true rfl) (by omega) (by omega) (rc0 rfl e_11) (k_X6_from (it := true) e_11) (by rintro _ _ ⟨e, _⟩; cases e) ?_
          rintro g_47 _ ⟨e9, e_48, f_49⟩; cases e9
          · skip
            have k_50 := (f_49 v (zne k_13 e_11 (by nofun))).trans k_13
            have x_51 := ext_mut x_14 f_49 (Or.inl n_8) n_9 e_48
            refine z_ald rfl rfl ?_
            refine z_ald rfl rfl ?_
            refine z_ild rfl rfl ?_
            refine z_call (as := [zR (some q_1), zR (some v), zI (nI 1)]) (r := []) (mc' := 0) (ms' := 0) rfl rfl rfl (Nat.le_of_ble_eq_true rfl) (by omega) (by omega) (rc0 rfl e_48) (k_X6_to (it := true) e_48) (by rintro _ _ ⟨e, _⟩; cases e) ?_
            rintro g_52 _ ⟨e9, e_53, f_54⟩; cases e9
            · skip
              have k_55 := (f_54 v (zne k_50 e_48 (by nofun))).trans k_50
              have x_56 := ext_mut x_51 f_54 (Or.inl n_8) n_9 e_53
              refine z_go rfl ?_
              refine z_ald rfl rfl ?_
              refine z_ret rfl ⟨_, rfl⟩ ?_
              obtain ⟨u_57, x_58, l_59, c_60, o_61⟩ := ext_frzE x_56 (Or.inl n_8) n_9 e_53
              have t_62 := vrAt_mono l_59 hv
              refine ⟨_, _, rfl, x_58, ?_⟩
              have h9 := sp_mk c_60 (ov_s t_62) (ov_s t_62) (ov_s t_62)
              simpa [spC, laV, h_15] using h9
set_option maxHeartbeats 1000000 in
theorem k_of3 {d : Nat} {h : zH} {v k : Nat} {V : vV} {g : zH} (hv : vrAt g v V) (hk : 1 ≤ k ∧ k ≤ 3) (hg : hle g h) : zCall (d + 3) 60 [zI (nI 3), zR (some v), zI (nI k)] h 5 13 (fun h' o => ∃ q g', o = .inl (some (zR (some q))) ∧ ext (fun y => False) g h g' h' ∧ spAt g' q (spC 3 V k)) := by
  obtain ⟨fsv, hvc⟩ := vr_cell (vrAt_mono hg hv)
  refine zCall.of (d := d + 2) (T := tb_60) (L := [some (zI (nI 3)), some (zR (some v)), some (zI (nI k)), none, none, none]) (Nat.le_of_ble_eq_true rfl) rfl rfl ?_
  have x0 : ext (fun y => False) g h g h := ext_refl hg
  refine z_new rfl (by omega) (by omega) ?_
  intro q_1 g_2 h_3 e_4 f_5
  have k_6 := (f_5 v (zn0 hvc h_3)).trans hvc
  have n_8 := ext_new x0 h_3
  have n_9 := ext_gn x0 h_3
  have x_7 := ext_mut x0 f_5 (Or.inl n_8) n_9 e_4
  replace e_4 : g_2 q_1 = some (zO 6 [zR none, zR none, zI (bI false), zR none, zI (bI false)]) := e_4
  refine z_dup rfl rfl ?_
  refine z_ald rfl rfl ?_
  refine z_call (as := [zR (some q_1), zR (some v)]) (r := [zR (some q_1)]) (mc' := 0) (ms' := 0) rfl rfl rfl (Nat.le_of_ble_eq_true rfl) (by omega) (by omega) (rc2 rfl) (k_X6_init e_4) (by rintro _ _ ⟨e, _⟩; cases e) ?_
  rintro g_10 _ ⟨e9, e_11, f_12⟩; cases e9
  · skip
    have k_13 := (f_12 v (zne k_6 e_4 (by nofun))).trans k_6
    have x_14 := ext_mut x_7 f_12 (Or.inl n_8) n_9 e_11
    refine z_ast (ls' := [some (zI (nI 3)), some (zR (some v)), some (zI (nI k)), some (zR (some q_1)), none, none]) rfl (Nat.le_of_ble_eq_true rfl) rfl ?_
    refine z_ild rfl rfl ?_
    refine z_ico (x := (nI 3)) rfl rfl ?_
    refine z_cmpN (by omega) (by omega) rfl (fun h_15 => ?_) (fun h_15 => ?_)
    · replace h_15 : ¬ k = 3 := h_15
      refine z_ico (x := (nI 0)) rfl rfl ?_
      refine z_ist (ls' := [some (zI (nI 3)), some (zR (some v)), some (zI (nI k)), some (zR (some q_1)), some (zI (nI 0)), none]) rfl (Nat.le_of_ble_eq_true rfl) rfl ?_
      refine z_ild rfl rfl ?_
      refine z_ifN (by omega) rfl (fun h_16 => ?_) (fun h_16 => ?_)
      · replace h_16 : 0 = 0 := h_16
        refine z_ald rfl rfl ?_
        refine z_ild rfl rfl ?_
        refine z_call (as := [zR (some v), zI (nI k)]) (r := []) (mc' := 2) (ms' := 4) rfl rfl rfl (Nat.le_of_ble_eq_true rfl) (by omega) (by omega) (rc0 rfl k_13) (k_X7_raised (vrAt_mono x_14.2.1 hv) (by omega) x_14.2.1) (by rintro _ _ ⟨_, _, e, _⟩; cases e) ?_
        rintro g_17 _ ⟨q_18, u_19, e9, x_20, t_21⟩; cases e9
        · skip
          have k_22 := (x_20.2.2.2.2 v (some_nn k_13) (fun e => e)).trans k_13
          have k_23 := (x_20.2.2.2.2 q_1 (some_nn e_11) (fun e => e)).trans e_11
          have n_24 := x_20.2.2.1 q_1 n_9 (some_nn e_11)
          have x_25 := ext_call x_14 x_20 (fun y e => e.elim)
          have t_26 := vrAt_mono x_20.1 hv
          obtain ⟨fs_q_18, cw_q_18⟩ := vr_cell (vrAt_mono x_25.2.1 t_21)
          refine z_ast (ls' := [some (zI (nI 3)), some (zR (some v)), some (zI (nI k)), some (zR (some q_1)), some (zI (nI 0)), some (zR (some q_18))]) rfl (Nat.le_of_ble_eq_true rfl) rfl ?_
          refine z_ild rfl rfl ?_
          skip
          · refine z_sw (t := 139) rfl (by decide +kernel) ?_
            refine z_ald rfl rfl ?_
            refine z_ald rfl rfl ?_
            refine z_ild rfl rfl ?_
            refine z_ifN (by omega) rfl (fun h_27 => ?_) (fun h_27 => ?_)
            · replace h_27 : ¬ 0 = 0 := h_27
              omega
            · replace h_27 : 0 = 0 := Decidable.of_not_not h_27
              refine z_ico (x := (nI 1)) rfl rfl ?_
              refine z_go rfl ?_
              refine z_call (as := [zR (some q_1), zR (some q_18), zI (nI 1)]) (r := []) (mc' := 0) (ms' := 0) rfl rfl rfl (Nat.le_of_ble_eq_true rfl) (by omega) (by omega) (rc0 rfl k_23) (k_X6_from (it := true) k_23) (by rintro _ _ ⟨e, _⟩; cases e) ?_
              rintro g_28 _ ⟨e9, e_29, f_30⟩; cases e9
              · skip
                have k_31 := (f_30 v (zne k_22 k_23 (by nofun))).trans k_22
                have k_32 := (f_30 q_18 (zne cw_q_18 k_23 (by nofun))).trans cw_q_18
                have x_33 := ext_mut x_25 f_30 (Or.inl n_8) n_24 e_29
                refine z_go rfl ?_
                refine z_ald rfl rfl ?_
                refine z_ret rfl ⟨_, rfl⟩ ?_
                obtain ⟨u_34, x_35, l_36, c_37, o_38⟩ := ext_frzE x_33 (Or.inl n_8) n_24 e_29
                have t_39 := vrAt_mono l_36 t_26
                have t_40 := vrAt_mono l_36 t_21
                refine ⟨_, _, rfl, x_35, ?_⟩
                have h9 := sp_mk c_37 (ov_s t_39) (ov_s t_40) ov_n
                simpa [spC, laV, h_15] using h9
      · replace h_16 : ¬ (0 = 0) := h_16
        omega
    · replace h_15 : k = 3 := Decidable.of_not_not h_15
      refine z_ico (x := (nI 1)) rfl rfl ?_
      refine z_go rfl ?_
      refine z_ist (ls' := [some (zI (nI 3)), some (zR (some v)), some (zI (nI k)), some (zR (some q_1)), some (zI (nI 1)), none]) rfl (Nat.le_of_ble_eq_true rfl) rfl ?_
      refine z_ild rfl rfl ?_
      refine z_ifN (by omega) rfl (fun h_41 => ?_) (fun h_41 => ?_)
      · replace h_41 : 1 = 0 := h_41
        omega
      · replace h_41 : ¬ (1 = 0) := h_41
        refine z_ald rfl rfl ?_
        refine z_go rfl ?_
        refine z_ast (ls' := [some (zI (nI 3)), some (zR (some v)), some (zI (nI k)), some (zR (some q_1)), some (zI (nI 1)), some (zR (some v))]) rfl (Nat.le_of_ble_eq_true rfl) rfl ?_
        refine z_ild rfl rfl ?_
        skip
        · refine z_sw (t := 139) rfl (by decide +kernel) ?_
          refine z_ald rfl rfl ?_
          refine z_ald rfl rfl ?_
          refine z_ild rfl rfl ?_
          refine z_ifN (by omega) rfl (fun h_42 => ?_) (fun h_42 => ?_)
          · replace h_42 : ¬ 1 = 0 := h_42
            refine z_ico (x := (nI 0)) rfl rfl ?_
            refine z_call (as := [zR (some q_1), zR (some v), zI (nI 0)]) (r := []) (mc' := 0) (ms' := 0) rfl rfl rfl (Nat.le_of_ble_eq_true rfl) (by omega) (by omega) (rc0 rfl e_11) (k_X6_from (it := false) e_11) (by rintro _ _ ⟨e, _⟩; cases e) ?_
            rintro g_43 _ ⟨e9, e_44, f_45⟩; cases e9
            · skip
              have k_46 := (f_45 v (zne k_13 e_11 (by nofun))).trans k_13
              have x_47 := ext_mut x_14 f_45 (Or.inl n_8) n_9 e_44
              refine z_go rfl ?_
              refine z_ald rfl rfl ?_
              refine z_ret rfl ⟨_, rfl⟩ ?_
              obtain ⟨u_48, x_49, l_50, c_51, o_52⟩ := ext_frzE x_47 (Or.inl n_8) n_9 e_44
              have t_53 := vrAt_mono l_50 hv
              refine ⟨_, _, rfl, x_49, ?_⟩
              have h9 := sp_mk c_51 (ov_s t_53) (ov_s t_53) ov_n
              simpa [spC, laV, h_15] using h9
          · replace h_42 : 1 = 0 := Decidable.of_not_not h_42
            omega
set_option maxHeartbeats 1000000 in
theorem k_of4 {d : Nat} {h : zH} {v k : Nat} {V : vV} {g : zH} (hv : vrAt g v V) (hk : 1 ≤ k ∧ k ≤ 3) (hg : hle g h) : zCall (d + 3) 60 [zI (nI 4), zR (some v), zI (nI k)] h 5 13 (fun h' o => ∃ q g', o = .inl (some (zR (some q))) ∧ ext (fun y => False) g h g' h' ∧ spAt g' q (spC 4 V k)) := by
  obtain ⟨fsv, hvc⟩ := vr_cell (vrAt_mono hg hv)
  refine zCall.of (d := d + 2) (T := tb_60) (L := [some (zI (nI 4)), some (zR (some v)), some (zI (nI k)), none, none, none]) (Nat.le_of_ble_eq_true rfl) rfl rfl ?_
  have x0 : ext (fun y => False) g h g h := ext_refl hg
  refine z_new rfl (by omega) (by omega) ?_
  intro q_1 g_2 h_3 e_4 f_5
  have k_6 := (f_5 v (zn0 hvc h_3)).trans hvc
  have n_8 := ext_new x0 h_3
  have n_9 := ext_gn x0 h_3
  have x_7 := ext_mut x0 f_5 (Or.inl n_8) n_9 e_4
  replace e_4 : g_2 q_1 = some (zO 6 [zR none, zR none, zI (bI false), zR none, zI (bI false)]) := e_4
  refine z_dup rfl rfl ?_
  refine z_ald rfl rfl ?_
  refine z_call (as := [zR (some q_1), zR (some v)]) (r := [zR (some q_1)]) (mc' := 0) (ms' := 0) rfl rfl rfl (Nat.le_of_ble_eq_true rfl) (by omega) (by omega) (rc2 rfl) (k_X6_init e_4) (by rintro _ _ ⟨e, _⟩; cases e) ?_
  rintro g_10 _ ⟨e9, e_11, f_12⟩; cases e9
  · skip
    have k_13 := (f_12 v (zne k_6 e_4 (by nofun))).trans k_6
    have x_14 := ext_mut x_7 f_12 (Or.inl n_8) n_9 e_11
    refine z_ast (ls' := [some (zI (nI 4)), some (zR (some v)), some (zI (nI k)), some (zR (some q_1)), none, none]) rfl (Nat.le_of_ble_eq_true rfl) rfl ?_
    refine z_ild rfl rfl ?_
    refine z_ico (x := (nI 3)) rfl rfl ?_
    refine z_cmpN (by omega) (by omega) rfl (fun h_15 => ?_) (fun h_15 => ?_)
    · replace h_15 : ¬ k = 3 := h_15
      refine z_ico (x := (nI 0)) rfl rfl ?_
      refine z_ist (ls' := [some (zI (nI 4)), some (zR (some v)), some (zI (nI k)), some (zR (some q_1)), some (zI (nI 0)), none]) rfl (Nat.le_of_ble_eq_true rfl) rfl ?_
      refine z_ild rfl rfl ?_
      refine z_ifN (by omega) rfl (fun h_16 => ?_) (fun h_16 => ?_)
      · replace h_16 : 0 = 0 := h_16
        refine z_ald rfl rfl ?_
        refine z_ild rfl rfl ?_
        refine z_call (as := [zR (some v), zI (nI k)]) (r := []) (mc' := 2) (ms' := 4) rfl rfl rfl (Nat.le_of_ble_eq_true rfl) (by omega) (by omega) (rc0 rfl k_13) (k_X7_raised (vrAt_mono x_14.2.1 hv) (by omega) x_14.2.1) (by rintro _ _ ⟨_, _, e, _⟩; cases e) ?_
        rintro g_17 _ ⟨q_18, u_19, e9, x_20, t_21⟩; cases e9
        · skip
          have k_22 := (x_20.2.2.2.2 v (some_nn k_13) (fun e => e)).trans k_13
          have k_23 := (x_20.2.2.2.2 q_1 (some_nn e_11) (fun e => e)).trans e_11
          have n_24 := x_20.2.2.1 q_1 n_9 (some_nn e_11)
          have x_25 := ext_call x_14 x_20 (fun y e => e.elim)
          have t_26 := vrAt_mono x_20.1 hv
          obtain ⟨fs_q_18, cw_q_18⟩ := vr_cell (vrAt_mono x_25.2.1 t_21)
          refine z_ast (ls' := [some (zI (nI 4)), some (zR (some v)), some (zI (nI k)), some (zR (some q_1)), some (zI (nI 0)), some (zR (some q_18))]) rfl (Nat.le_of_ble_eq_true rfl) rfl ?_
          refine z_ild rfl rfl ?_
          skip
          · refine z_sw (t := 158) rfl (by decide +kernel) ?_
            refine z_ald rfl rfl ?_
            refine z_ald rfl rfl ?_
            refine z_ico (x := (nI 1)) rfl rfl ?_
            refine z_call (as := [zR (some q_1), zR (some v), zI (nI 1)]) (r := []) (mc' := 0) (ms' := 0) rfl rfl rfl (Nat.le_of_ble_eq_true rfl) (by omega) (by omega) (rc0 rfl k_23) (k_X6_from (it := true) k_23) (by rintro _ _ ⟨e, _⟩; cases e) ?_
            rintro g_27 _ ⟨e9, e_28, f_29⟩; cases e9
            · skip
              have k_30 := (f_29 v (zne k_22 k_23 (by nofun))).trans k_22
              have k_31 := (f_29 q_18 (zne cw_q_18 k_23 (by nofun))).trans cw_q_18
              have x_32 := ext_mut x_25 f_29 (Or.inl n_8) n_24 e_28
              refine z_go rfl ?_
              refine z_ald rfl rfl ?_
              refine z_ret rfl ⟨_, rfl⟩ ?_
              obtain ⟨u_33, x_34, l_35, c_36, o_37⟩ := ext_frzE x_32 (Or.inl n_8) n_24 e_28
              have t_38 := vrAt_mono l_35 t_26
              have t_39 := vrAt_mono l_35 t_21
              refine ⟨_, _, rfl, x_34, ?_⟩
              have h9 := sp_mk c_36 (ov_s t_38) (ov_s t_38) ov_n
              exact h9
      · replace h_16 : ¬ (0 = 0) := h_16
        omega
    · replace h_15 : k = 3 := Decidable.of_not_not h_15
      refine z_ico (x := (nI 1)) rfl rfl ?_
      refine z_go rfl ?_
      refine z_ist (ls' := [some (zI (nI 4)), some (zR (some v)), some (zI (nI k)), some (zR (some q_1)), some (zI (nI 1)), none]) rfl (Nat.le_of_ble_eq_true rfl) rfl ?_
      refine z_ild rfl rfl ?_
      refine z_ifN (by omega) rfl (fun h_40 => ?_) (fun h_40 => ?_)
      · replace h_40 : 1 = 0 := h_40
        omega
      · replace h_40 : ¬ (1 = 0) := h_40
        refine z_ald rfl rfl ?_
        refine z_go rfl ?_
        refine z_ast (ls' := [some (zI (nI 4)), some (zR (some v)), some (zI (nI k)), some (zR (some q_1)), some (zI (nI 1)), some (zR (some v))]) rfl (Nat.le_of_ble_eq_true rfl) rfl ?_
        refine z_ild rfl rfl ?_
        skip
        · refine z_sw (t := 158) rfl (by decide +kernel) ?_
          refine z_ald rfl rfl ?_
          refine z_ald rfl rfl ?_
          refine z_ico (x := (nI 1)) rfl rfl ?_
          refine z_call (as := [zR (some q_1), zR (some v), zI (nI 1)]) (r := []) (mc' := 0) (ms' := 0) rfl rfl rfl (Nat.le_of_ble_eq_true rfl) (by omega) (by omega) (rc0 rfl e_11) (k_X6_from (it := true) e_11) (by rintro _ _ ⟨e, _⟩; cases e) ?_
          rintro g_41 _ ⟨e9, e_42, f_43⟩; cases e9
          · skip
            have k_44 := (f_43 v (zne k_13 e_11 (by nofun))).trans k_13
            have x_45 := ext_mut x_14 f_43 (Or.inl n_8) n_9 e_42
            refine z_go rfl ?_
            refine z_ald rfl rfl ?_
            refine z_ret rfl ⟨_, rfl⟩ ?_
            obtain ⟨u_46, x_47, l_48, c_49, o_50⟩ := ext_frzE x_45 (Or.inl n_8) n_9 e_42
            have t_51 := vrAt_mono l_48 hv
            refine ⟨_, _, rfl, x_47, ?_⟩
            have h9 := sp_mk c_49 (ov_s t_51) (ov_s t_51) ov_n
            exact h9
set_option maxHeartbeats 1000000 in
theorem k_of5 {d : Nat} {h : zH} {v k : Nat} {V : vV} {g : zH} (hv : vrAt g v V) (hk : 1 ≤ k ∧ k ≤ 3) (hg : hle g h) : zCall (d + 3) 60 [zI (nI 5), zR (some v), zI (nI k)] h 5 13 (fun h' o => ∃ q g', o = .inl (some (zR (some q))) ∧ ext (fun y => False) g h g' h' ∧ spAt g' q (spC 5 V k)) := by
  obtain ⟨fsv, hvc⟩ := vr_cell (vrAt_mono hg hv)
  refine zCall.of (d := d + 2) (T := tb_60) (L := [some (zI (nI 5)), some (zR (some v)), some (zI (nI k)), none, none, none]) (Nat.le_of_ble_eq_true rfl) rfl rfl ?_
  have x0 : ext (fun y => False) g h g h := ext_refl hg
  refine z_new rfl (by omega) (by omega) ?_
  intro q_1 g_2 h_3 e_4 f_5
  have k_6 := (f_5 v (zn0 hvc h_3)).trans hvc
  have n_8 := ext_new x0 h_3
  have n_9 := ext_gn x0 h_3
  have x_7 := ext_mut x0 f_5 (Or.inl n_8) n_9 e_4
  replace e_4 : g_2 q_1 = some (zO 6 [zR none, zR none, zI (bI false), zR none, zI (bI false)]) := e_4
  refine z_dup rfl rfl ?_
  refine z_ald rfl rfl ?_
  refine z_call (as := [zR (some q_1), zR (some v)]) (r := [zR (some q_1)]) (mc' := 0) (ms' := 0) rfl rfl rfl (Nat.le_of_ble_eq_true rfl) (by omega) (by omega) (rc2 rfl) (k_X6_init e_4) (by rintro _ _ ⟨e, _⟩; cases e) ?_
  rintro g_10 _ ⟨e9, e_11, f_12⟩; cases e9
  · skip
    have k_13 := (f_12 v (zne k_6 e_4 (by nofun))).trans k_6
    have x_14 := ext_mut x_7 f_12 (Or.inl n_8) n_9 e_11
    refine z_ast (ls' := [some (zI (nI 5)), some (zR (some v)), some (zI (nI k)), some (zR (some q_1)), none, none]) rfl (Nat.le_of_ble_eq_true rfl) rfl ?_
    refine z_ild rfl rfl ?_
    refine z_ico (x := (nI 3)) rfl rfl ?_
    refine z_cmpN (by omega) (by omega) rfl (fun h_15 => ?_) (fun h_15 => ?_)
    · replace h_15 : ¬ k = 3 := h_15
      refine z_ico (x := (nI 0)) rfl rfl ?_
      refine z_ist (ls' := [some (zI (nI 5)), some (zR (some v)), some (zI (nI k)), some (zR (some q_1)), some (zI (nI 0)), none]) rfl (Nat.le_of_ble_eq_true rfl) rfl ?_
      refine z_ild rfl rfl ?_
      refine z_ifN (by omega) rfl (fun h_16 => ?_) (fun h_16 => ?_)
      · replace h_16 : 0 = 0 := h_16
        refine z_ald rfl rfl ?_
        refine z_ild rfl rfl ?_
        refine z_call (as := [zR (some v), zI (nI k)]) (r := []) (mc' := 2) (ms' := 4) rfl rfl rfl (Nat.le_of_ble_eq_true rfl) (by omega) (by omega) (rc0 rfl k_13) (k_X7_raised (vrAt_mono x_14.2.1 hv) (by omega) x_14.2.1) (by rintro _ _ ⟨_, _, e, _⟩; cases e) ?_
        rintro g_17 _ ⟨q_18, u_19, e9, x_20, t_21⟩; cases e9
        · skip
          have k_22 := (x_20.2.2.2.2 v (some_nn k_13) (fun e => e)).trans k_13
          have k_23 := (x_20.2.2.2.2 q_1 (some_nn e_11) (fun e => e)).trans e_11
          have n_24 := x_20.2.2.1 q_1 n_9 (some_nn e_11)
          have x_25 := ext_call x_14 x_20 (fun y e => e.elim)
          have t_26 := vrAt_mono x_20.1 hv
          obtain ⟨fs_q_18, cw_q_18⟩ := vr_cell (vrAt_mono x_25.2.1 t_21)
          refine z_ast (ls' := [some (zI (nI 5)), some (zR (some v)), some (zI (nI k)), some (zR (some q_1)), some (zI (nI 0)), some (zR (some q_18))]) rfl (Nat.le_of_ble_eq_true rfl) rfl ?_
          refine z_ild rfl rfl ?_
          skip
          · refine z_sw (t := 167) rfl (by decide +kernel) ?_
            refine z_ald rfl rfl ?_
            refine z_ald rfl rfl ?_
            refine z_ico (x := (nI 0)) rfl rfl ?_
            refine z_call (as := [zR (some q_1), zR (some v), zI (nI 0)]) (r := []) (mc' := 0) (ms' := 0) rfl rfl rfl (Nat.le_of_ble_eq_true rfl) (by omega) (by omega) (rc0 rfl k_23) (k_X6_to (it := false) k_23) (by rintro _ _ ⟨e, _⟩; cases e) ?_
            rintro g_27 _ ⟨e9, e_28, f_29⟩; cases e9
            · skip
              have k_30 := (f_29 v (zne k_22 k_23 (by nofun))).trans k_22
              have k_31 := (f_29 q_18 (zne cw_q_18 k_23 (by nofun))).trans cw_q_18
              have x_32 := ext_mut x_25 f_29 (Or.inl n_8) n_24 e_28
              refine z_go rfl ?_
              refine z_ald rfl rfl ?_
              refine z_ret rfl ⟨_, rfl⟩ ?_
              obtain ⟨u_33, x_34, l_35, c_36, o_37⟩ := ext_frzE x_32 (Or.inl n_8) n_24 e_28
              have t_38 := vrAt_mono l_35 t_26
              have t_39 := vrAt_mono l_35 t_21
              refine ⟨_, _, rfl, x_34, ?_⟩
              have h9 := sp_mk c_36 (ov_s t_38) ov_n (ov_s t_38)
              exact h9
      · replace h_16 : ¬ (0 = 0) := h_16
        omega
    · replace h_15 : k = 3 := Decidable.of_not_not h_15
      refine z_ico (x := (nI 1)) rfl rfl ?_
      refine z_go rfl ?_
      refine z_ist (ls' := [some (zI (nI 5)), some (zR (some v)), some (zI (nI k)), some (zR (some q_1)), some (zI (nI 1)), none]) rfl (Nat.le_of_ble_eq_true rfl) rfl ?_
      refine z_ild rfl rfl ?_
      refine z_ifN (by omega) rfl (fun h_40 => ?_) (fun h_40 => ?_)
      · replace h_40 : 1 = 0 := h_40
        omega
      · replace h_40 : ¬ (1 = 0) := h_40
        refine z_ald rfl rfl ?_
        refine z_go rfl ?_
        refine z_ast (ls' := [some (zI (nI 5)), some (zR (some v)), some (zI (nI k)), some (zR (some q_1)), some (zI (nI 1)), some (zR (some v))]) rfl (Nat.le_of_ble_eq_true rfl) rfl ?_
        refine z_ild rfl rfl ?_
        skip
        · refine z_sw (t := 167) rfl (by decide +kernel) ?_
          refine z_ald rfl rfl ?_
          refine z_ald rfl rfl ?_
          refine z_ico (x := (nI 0)) rfl rfl ?_
          refine z_call (as := [zR (some q_1), zR (some v), zI (nI 0)]) (r := []) (mc' := 0) (ms' := 0) rfl rfl rfl (Nat.le_of_ble_eq_true rfl) (by omega) (by omega) (rc0 rfl e_11) (k_X6_to (it := false) e_11) (by rintro _ _ ⟨e, _⟩; cases e) ?_
          rintro g_41 _ ⟨e9, e_42, f_43⟩; cases e9
          · skip
            have k_44 := (f_43 v (zne k_13 e_11 (by nofun))).trans k_13
            have x_45 := ext_mut x_14 f_43 (Or.inl n_8) n_9 e_42
            refine z_go rfl ?_
            refine z_ald rfl rfl ?_
            refine z_ret rfl ⟨_, rfl⟩ ?_
            obtain ⟨u_46, x_47, l_48, c_49, o_50⟩ := ext_frzE x_45 (Or.inl n_8) n_9 e_42
            have t_51 := vrAt_mono l_48 hv
            refine ⟨_, _, rfl, x_47, ?_⟩
            have h9 := sp_mk c_49 (ov_s t_51) ov_n (ov_s t_51)
            exact h9
set_option maxHeartbeats 1000000 in
theorem k_of6 {d : Nat} {h : zH} {v k : Nat} {V : vV} {g : zH} (hv : vrAt g v V) (hk : 1 ≤ k ∧ k ≤ 3) (hg : hle g h) : zCall (d + 3) 60 [zI (nI 6), zR (some v), zI (nI k)] h 5 13 (fun h' o => ∃ q g', o = .inl (some (zR (some q))) ∧ ext (fun y => False) g h g' h' ∧ spAt g' q (spC 6 V k)) := by
  obtain ⟨fsv, hvc⟩ := vr_cell (vrAt_mono hg hv)
  refine zCall.of (d := d + 2) (T := tb_60) (L := [some (zI (nI 6)), some (zR (some v)), some (zI (nI k)), none, none, none]) (Nat.le_of_ble_eq_true rfl) rfl rfl ?_
  have x0 : ext (fun y => False) g h g h := ext_refl hg
  refine z_new rfl (by omega) (by omega) ?_
  intro q_1 g_2 h_3 e_4 f_5
  have k_6 := (f_5 v (zn0 hvc h_3)).trans hvc
  have n_8 := ext_new x0 h_3
  have n_9 := ext_gn x0 h_3
  have x_7 := ext_mut x0 f_5 (Or.inl n_8) n_9 e_4
  replace e_4 : g_2 q_1 = some (zO 6 [zR none, zR none, zI (bI false), zR none, zI (bI false)]) := e_4
  refine z_dup rfl rfl ?_
  refine z_ald rfl rfl ?_
  refine z_call (as := [zR (some q_1), zR (some v)]) (r := [zR (some q_1)]) (mc' := 0) (ms' := 0) rfl rfl rfl (Nat.le_of_ble_eq_true rfl) (by omega) (by omega) (rc2 rfl) (k_X6_init e_4) (by rintro _ _ ⟨e, _⟩; cases e) ?_
  rintro g_10 _ ⟨e9, e_11, f_12⟩; cases e9
  · skip
    have k_13 := (f_12 v (zne k_6 e_4 (by nofun))).trans k_6
    have x_14 := ext_mut x_7 f_12 (Or.inl n_8) n_9 e_11
    refine z_ast (ls' := [some (zI (nI 6)), some (zR (some v)), some (zI (nI k)), some (zR (some q_1)), none, none]) rfl (Nat.le_of_ble_eq_true rfl) rfl ?_
    refine z_ild rfl rfl ?_
    refine z_ico (x := (nI 3)) rfl rfl ?_
    refine z_cmpN (by omega) (by omega) rfl (fun h_15 => ?_) (fun h_15 => ?_)
    · replace h_15 : ¬ k = 3 := h_15
      refine z_ico (x := (nI 0)) rfl rfl ?_
      refine z_ist (ls' := [some (zI (nI 6)), some (zR (some v)), some (zI (nI k)), some (zR (some q_1)), some (zI (nI 0)), none]) rfl (Nat.le_of_ble_eq_true rfl) rfl ?_
      refine z_ild rfl rfl ?_
      refine z_ifN (by omega) rfl (fun h_16 => ?_) (fun h_16 => ?_)
      · replace h_16 : 0 = 0 := h_16
        refine z_ald rfl rfl ?_
        refine z_ild rfl rfl ?_
        refine z_call (as := [zR (some v), zI (nI k)]) (r := []) (mc' := 2) (ms' := 4) rfl rfl rfl (Nat.le_of_ble_eq_true rfl) (by omega) (by omega) (rc0 rfl k_13) (k_X7_raised (vrAt_mono x_14.2.1 hv) (by omega) x_14.2.1) (by rintro _ _ ⟨_, _, e, _⟩; cases e) ?_
        rintro g_17 _ ⟨q_18, u_19, e9, x_20, t_21⟩; cases e9
        · skip
          have k_22 := (x_20.2.2.2.2 v (some_nn k_13) (fun e => e)).trans k_13
          have k_23 := (x_20.2.2.2.2 q_1 (some_nn e_11) (fun e => e)).trans e_11
          have n_24 := x_20.2.2.1 q_1 n_9 (some_nn e_11)
          have x_25 := ext_call x_14 x_20 (fun y e => e.elim)
          have t_26 := vrAt_mono x_20.1 hv
          obtain ⟨fs_q_18, cw_q_18⟩ := vr_cell (vrAt_mono x_25.2.1 t_21)
          refine z_ast (ls' := [some (zI (nI 6)), some (zR (some v)), some (zI (nI k)), some (zR (some q_1)), some (zI (nI 0)), some (zR (some q_18))]) rfl (Nat.le_of_ble_eq_true rfl) rfl ?_
          refine z_ild rfl rfl ?_
          skip
          · refine z_sw (t := 176) rfl (by decide +kernel) ?_
            refine z_ald rfl rfl ?_
            refine z_ald rfl rfl ?_
            refine z_ild rfl rfl ?_
            refine z_call (as := [zR (some q_1), zR (some q_18), zI (nI 0)]) (r := []) (mc' := 0) (ms' := 0) rfl rfl rfl (Nat.le_of_ble_eq_true rfl) (by omega) (by omega) (rc0 rfl k_23) (k_X6_to (it := false) k_23) (by rintro _ _ ⟨e, _⟩; cases e) ?_
            rintro g_27 _ ⟨e9, e_28, f_29⟩; cases e9
            · skip
              have k_30 := (f_29 v (zne k_22 k_23 (by nofun))).trans k_22
              have k_31 := (f_29 q_18 (zne cw_q_18 k_23 (by nofun))).trans cw_q_18
              have x_32 := ext_mut x_25 f_29 (Or.inl n_8) n_24 e_28
              refine z_ald rfl rfl ?_
              refine z_ret rfl ⟨_, rfl⟩ ?_
              obtain ⟨u_33, x_34, l_35, c_36, o_37⟩ := ext_frzE x_32 (Or.inl n_8) n_24 e_28
              have t_38 := vrAt_mono l_35 t_26
              have t_39 := vrAt_mono l_35 t_21
              refine ⟨_, _, rfl, x_34, ?_⟩
              have h9 := sp_mk c_36 (ov_s t_38) ov_n (ov_s t_39)
              simpa [spC, laV, h_15] using h9
      · replace h_16 : ¬ (0 = 0) := h_16
        omega
    · replace h_15 : k = 3 := Decidable.of_not_not h_15
      refine z_ico (x := (nI 1)) rfl rfl ?_
      refine z_go rfl ?_
      refine z_ist (ls' := [some (zI (nI 6)), some (zR (some v)), some (zI (nI k)), some (zR (some q_1)), some (zI (nI 1)), none]) rfl (Nat.le_of_ble_eq_true rfl) rfl ?_
      refine z_ild rfl rfl ?_
      refine z_ifN (by omega) rfl (fun h_40 => ?_) (fun h_40 => ?_)
      · replace h_40 : 1 = 0 := h_40
        omega
      · replace h_40 : ¬ (1 = 0) := h_40
        refine z_ald rfl rfl ?_
        refine z_go rfl ?_
        refine z_ast (ls' := [some (zI (nI 6)), some (zR (some v)), some (zI (nI k)), some (zR (some q_1)), some (zI (nI 1)), some (zR (some v))]) rfl (Nat.le_of_ble_eq_true rfl) rfl ?_
        refine z_ild rfl rfl ?_
        skip
        · refine z_sw (t := 176) rfl (by decide +kernel) ?_
          refine z_ald rfl rfl ?_
          refine z_ald rfl rfl ?_
          refine z_ild rfl rfl ?_
          refine z_call (as := [zR (some q_1), zR (some v), zI (nI 1)]) (r := []) (mc' := 0) (ms' := 0) rfl rfl rfl (Nat.le_of_ble_eq_true rfl) (by omega) (by omega) (rc0 rfl e_11) (k_X6_to (it := true) e_11) (by rintro _ _ ⟨e, _⟩; cases e) ?_
          rintro g_41 _ ⟨e9, e_42, f_43⟩; cases e9
          · skip
            have k_44 := (f_43 v (zne k_13 e_11 (by nofun))).trans k_13
            have x_45 := ext_mut x_14 f_43 (Or.inl n_8) n_9 e_42
            refine z_ald rfl rfl ?_
            refine z_ret rfl ⟨_, rfl⟩ ?_
            obtain ⟨u_46, x_47, l_48, c_49, o_50⟩ := ext_frzE x_45 (Or.inl n_8) n_9 e_42
            have t_51 := vrAt_mono l_48 hv
            refine ⟨_, _, rfl, x_47, ?_⟩
            have h9 := sp_mk c_49 (ov_s t_51) ov_n (ov_s t_51)
            simpa [spC, laV, h_15] using h9
theorem k_X6_of {d : Nat} {h : zH} {v k s : Nat} {V : vV} {g : zH} (hs : s < 7) (hv : vrAt g v V) (hk : 1 ≤ k ∧ k ≤ 3) (hg : hle g h) : zCall (d + 3) 60 [zI (nI s), zR (some v), zI (nI k)] h 5 13 (fun h' o => ∃ q g', o = .inl (some (zR (some q))) ∧ ext (fun y => False) g h g' h' ∧ spAt g' q (spC s V k)) := by
  match s, hs with
  | 0, _ => exact k_of0 hv hk hg
  | 1, _ => exact k_of1 hv hk hg
  | 2, _ => exact k_of2 hv hk hg
  | 3, _ => exact k_of3 hv hk hg
  | 4, _ => exact k_of4 hv hk hg
  | 5, _ => exact k_of5 hv hk hg
  | 6, _ => exact k_of6 hv hk hg
  | s + 7, h => omega
