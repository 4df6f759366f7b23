theorem spn_wd_dg {t : Nat → Int32} {n : Nat} : ∀ (k a : Nat), n - a ≤ k → spn isWd t n (spn isDg t n a) = spn isWd t n a
  | 0, a, h => by rw [spn_end (p := isDg) (show n ≤ a by omega)]
  | k + 1, a, h => by
    by_cases g : a < n
    · cases e : isDg (t a) with
      | true => rw [spn_yes g e, spn_wd_dg k (a + 1) (by omega), spn_yes g (dg_wd e)]
      | false => rw [spn_no e]
    · rw [spn_end (p := isDg) (show n ≤ a by omega)]
theorem spn_wd {t : Nat → Int32} {n a : Nat} : spn isWd t n (spn isDg t n a) = spn isWd t n a := spn_wd_dg _ _ (Nat.le_refl _)
theorem dg_le_wd {t : Nat → Int32} {n a : Nat} : spn isDg t n a ≤ spn isWd t n a := by rw [← spn_wd]; exact spn_ge
theorem wnum_dg {t : Nat → Int32} {n a : Nat} (h : spn isWd t n a = spn isDg t n a) (ok : nmOK t n a) : wnum (fun j => t (a + j)) (spn isWd t n a - a) = nI (nmN t n a) := by
  rw [h, wnum, if_pos nm_all, ← dgv_sh, nm_val ok.2.1]
theorem alld_nd {t : Nat → Int32} {n a : Nat} (ha : a ≤ n) (h : ¬ spn isWd t n a = spn isDg t n a) : alld (fun j => t (a + j)) (spn isWd t n a - a) 0 = false := by
  have h1 : spn isDg t n a ≤ spn isWd t n a := dg_le_wd
  have h2 : spn isWd t n a ≤ n := spn_le ha
  have h3 := spn_stop (q := isDg) (t := t) ha (by omega)
  have h4 : a ≤ spn isDg t n a := spn_ge
  refine Bool.eq_false_iff.mpr (fun g => ?_)
  have h5 := alld_at _ g (spn isDg t n a - a) (by omega)
  rw [show a + (spn isDg t n a - a) = spn isDg t n a by omega, h3] at h5
  cases h5
theorem wnum_nd {t : Nat → Int32} {n a : Nat} (ha : a ≤ n) (h : ¬ spn isWd t n a = spn isDg t n a) : wnum (fun j => t (a + j)) (spn isWd t n a - a) = -1 := by
  rw [wnum, if_neg (by rw [alld_nd ha h]; nofun)]
theorem wbad_t {t : Nat → Int32} {m a : Nat} : wbad true t m a = false ↔ 0 < m ∧ (alld (fun j => t (a + j)) m 0 = true → m ≤ 9 ∧ (1 < m → ¬ t a = nI 48)) := by
  rw [wbad, ← alld_sh]
  by_cases h0 : m = 0
  · simp [h0]
  · have : 0 < m := by omega
    cases alld t m a with
    | false => simp [h0, this]
    | true =>
      by_cases h9 : 9 < m
      · simp [h9]
        omega
      · by_cases h1 : m ≤ 1
        · simp [h0, h9, h1, this]
          omega
        · by_cases h4 : t a = nI 48
          · simp [h0, h9, h1, this, h4]
          · simp [h0, h9, h1, this, h4]
            omega
theorem wb_eq {t : Nat → Int32} {n a : Nat} (h : spn isWd t n a = spn isDg t n a) : nmOK t n a ↔ wbad true t (spn isWd t n a - a) a = false := by
  rw [wbad_t, h, nmOK]
  constructor
  · exact fun g => ⟨by omega, fun _ => g.2⟩
  · exact fun g => ⟨by omega, g.2 nm_all⟩
theorem wb_ne {t : Nat → Int32} {n a : Nat} (ha : a ≤ n) (h : ¬ spn isWd t n a = spn isDg t n a) : wbad true t (spn isWd t n a - a) a = false := by
  have h1 : spn isDg t n a ≤ spn isWd t n a := dg_le_wd
  have h4 : a ≤ spn isDg t n a := spn_ge
  rw [wbad_t]
  exact ⟨by omega, fun g => by rw [alld_nd ha h] at g; cases g⟩
/-- the bytes of a word, copied -/
theorem wd_bytes {t tc : Nat → Int32} {n a : Nat} (hx : txR n t tc) (ha : a ≤ n) {j : Nat} (hj : j < spn isWd t n a - a) : va_cpy tc (fun _ => 0) a 0 (spn isWd t n a - a) j = t (a + j) := by
  have h2 : spn isWd t n a ≤ n := spn_le ha
  unfold va_cpy
  rw [if_pos ⟨Nat.zero_le _, by omega⟩, Nat.sub_zero]
  exact tx_id hx (by omega) (spn_all (n := n) (a := a) (by omega) (by omega))
theorem bt_f {e : Bool} (h : ¬ e = false) : e = true := by cases e; exact absurd rfl h; rfl
set_option maxHeartbeats 1000000 in
theorem k_X8_init {d : Nat} {h : zH} {q b : Nat} {x : Int32} (h1 : h q = some (zO 8 [zR none, zI (nI 0)])) : zCall (d + 1) 71 [zR (some q), zR (some b), zI (x)] h 0 0 (fun h' o => o = .inl none ∧ h' q = some (zO 8 [zR (some b), zI (x)]) ∧ (∀ y, y ≠ q → h' y = h y)) := by
  refine zCall.of (d := d) (T := tb_71) (L := [some (zR (some q)), some (zR (some b)), some (zI (x))]) (Nat.le_of_ble_eq_true rfl) rfl rfl ?_
  refine z_ald rfl rfl ?_
  refine z_oin rfl (Nat.le_of_ble_eq_true rfl) ?_
  refine z_ald rfl rfl ?_
  refine z_ald rfl rfl ?_
  refine z_put (e := zO 8 [zR (some b), zI (nI 0)]) rfl h1 (Nat.le_of_ble_eq_true rfl) ⟨_, rfl⟩ rfl ?_
  intro g_1 e_2 f_3
  refine z_ald rfl rfl ?_
  refine z_ild rfl rfl ?_
  refine z_put (e := zO 8 [zR (some b), zI (x)]) rfl e_2 (Nat.le_of_ble_eq_true rfl) ⟨_, rfl⟩ rfl ?_
  intro g_4 e_5 f_6
  refine z_rtv rfl ?_
  exact ⟨rfl, e_5, fun y hy => (f_6 y hy).trans (f_3 y hy)⟩
set_option maxHeartbeats 1000000 in
theorem k_X7_init {d : Nat} {h : zH} {q b : Nat} {x y z : Int32} (h1 : h q = some (zO 7 [zI (nI 0), zI (nI 0), zI (nI 0), zR none])) : zCall (d + 1) 66 [zR (some q), zI (x), zI (y), zI (z), zR (some b)] h 0 0 (fun h' o => o = .inl none ∧ h' q = some (zO 7 [zI (x), zI (y), zI (z), zR (some b)]) ∧ (∀ y, y ≠ q → h' y = h y)) := by
  refine zCall.of (d := d) (T := tb_66) (L := [some (zR (some q)), some (zI (x)), some (zI (y)), some (zI (z)), some (zR (some b))]) (Nat.le_of_ble_eq_true rfl) rfl rfl ?_
  refine z_ald rfl rfl ?_
  refine z_oin rfl (Nat.le_of_ble_eq_true rfl) ?_
  refine z_ald rfl rfl ?_
  refine z_ild rfl rfl ?_
  refine z_put (e := zO 7 [zI (x), zI (nI 0), zI (nI 0), zR none]) rfl h1 (Nat.le_of_ble_eq_true rfl) ⟨_, rfl⟩ rfl ?_
  intro g_1 e_2 f_3
  refine z_ald rfl rfl ?_
  refine z_ild rfl rfl ?_
  refine z_put (e := zO 7 [zI (x), zI (y), zI (nI 0), zR none]) rfl e_2 (Nat.le_of_ble_eq_true rfl) ⟨_, rfl⟩ rfl ?_
  intro g_4 e_5 f_6
  refine z_ald rfl rfl ?_
  refine z_ild rfl rfl ?_
  refine z_put (e := zO 7 [zI (x), zI (y), zI (z), zR none]) rfl e_5 (Nat.le_of_ble_eq_true rfl) ⟨_, rfl⟩ rfl ?_
  intro g_7 e_8 f_9
  refine z_ald rfl rfl ?_
  refine z_ald rfl rfl ?_
  refine z_put (e := zO 7 [zI (x), zI (y), zI (z), zR (some b)]) rfl e_8 (Nat.le_of_ble_eq_true rfl) ⟨_, rfl⟩ rfl ?_
  intro g_10 e_11 f_12
  refine z_rtv rfl ?_
  exact ⟨rfl, e_11, fun y hy => (f_12 y hy).trans ((f_9 y hy).trans ((f_6 y hy).trans (f_3 y hy)))⟩
set_option maxHeartbeats 1000000 in
theorem k_X1_word {d : Nat} {h : zH} {p pb pn n a : Nat} {t tc : Nat → Int32} {g : zH} (hx : txR n t tc) (hn : n ≤ 160) (ha : a ≤ n) (h1 : h p = some (rdO pb n a pn)) (h2 : h pb = some (zaI 0 160 tc)) (hf : ∀ j, j < 160 → fits .byte (.int (tc j)) = true) (ha1 : 0 < a) (hg : hle g h) (gp : g p = none) : zCall (d + 4) 20 [zR (some p)] h 2 (spn isWd t n a - a + 2) (fun h' o => (∃ q g', o = .inl (some (zR (some q))) ∧ wbad true t (spn isWd t n a - a) a = false ∧ h' p = some (rdO pb n (spn isWd t n a) pn) ∧ ext (fun y => y = p) g h g' h' ∧ wd0 g' q (fun j => t (a + j)) (spn isWd t n a - a)) ∨ (o = .inl (some (zR none)) ∧ wbad true t (spn isWd t n a - a) a = true ∧ h' p = some (rdO pb n (spn isWd t n a) pn) ∧ (∀ y, y ≠ p → h' y = h y))) := by
  refine zCall.of (d := d + 3) (T := tb_20) (L := [some (zR (some p)), none, none, none, none, none]) (Nat.le_of_ble_eq_true rfl) rfl rfl ?_
  have x0 : ext (fun y => y = p) g h g h := ext_refl hg
  refine z_ald rfl rfl ?_
  refine z_get rfl h1 rfl ?_
  refine z_ist (ls' := [some (zR (some p)), some (zI (nI a)), none, none, none, none]) rfl (Nat.le_of_ble_eq_true rfl) rfl ?_
  refine z_ald rfl rfl ?_
  refine z_call (as := [zR (some p)]) (r := []) (mc' := 0) (ms' := 0) rfl rfl rfl (Nat.le_of_ble_eq_true rfl) (by omega) (by omega) (rc0 rfl h1) (k_X1_number hx hn (a := a) (by omega) h1 h2) (by rintro _ _ (⟨e, _⟩ | ⟨e, _⟩) <;> cases e) ?_
  rintro g_1 _ (⟨e9, x_2, e_3, f_4⟩ | ⟨e9, x_2, e_3, f_4⟩) <;> cases e9
  · skip
    have e_3_a : a ≤ spn isDg t n a := spn_ge
    have e_3_b : spn isDg t n a ≤ n := spn_le (by omega)
    have k_5 := (f_4 pb (zne h2 h1 (by nofun))).trans h2
    have x_6 := ext_mut x0 f_4 (Or.inr rfl) gp e_3
    refine z_ist (ls' := [some (zR (some p)), some (zI (nI a)), some (zI (nI (nmN t n a))), none, none, none]) rfl (Nat.le_of_ble_eq_true rfl) rfl ?_
    refine z_ald rfl rfl ?_
    refine z_get rfl e_3 rfl ?_
    refine z_ist (ls' := [some (zR (some p)), some (zI (nI a)), some (zI (nI (nmN t n a))), some (zI (nI (spn isDg t n a))), none, none]) rfl (Nat.le_of_ble_eq_true rfl) rfl ?_
    refine z_ald rfl rfl ?_
    refine z_call (as := [zR (some p)]) (r := []) (mc' := 0) (ms' := 0) rfl rfl rfl (Nat.le_of_ble_eq_true rfl) (by omega) (by omega) (rc0 rfl e_3) (k_X1_skipWord hx hn (a := spn isDg t n a) (by omega) e_3 k_5) (by rintro _ _ ⟨e, _⟩; cases e) ?_
    rintro g_7 _ ⟨e9, e_8, f_9⟩; cases e9
    · skip
      have e_8_a : spn isDg t n a ≤ spn isWd t n (spn isDg t n a) := spn_ge
      have e_8_b : spn isWd t n (spn isDg t n a) ≤ n := spn_le (by omega)
      have k_10 := (f_9 pb (zne k_5 e_3 (by nofun))).trans k_5
      have x_11 := ext_mut x_6 f_9 (Or.inr rfl) gp e_8
      have e_12 := e_8
      rw [spn_wd] at e_12
      have e_12_a : spn isWd t n a ≤ n := spn_le (by omega)
      have e_12_b : spn isDg t n a ≤ spn isWd t n a := dg_le_wd
      refine z_ald rfl rfl ?_
      refine z_get rfl e_12 rfl ?_
      refine z_ild rfl rfl ?_
      refine z_cmpN (by omega) (by omega) rfl (fun h_13 => ?_) (fun h_13 => ?_)
      · replace h_13 : ¬ spn isWd t n a = spn isDg t n a := h_13
        refine z_ico (x := (nI 0)) rfl rfl ?_
        refine z_ist (ls' := [some (zR (some p)), some (zI (nI a)), some (zI (nI (nmN t n a))), some (zI (nI (spn isDg t n a))), some (zI (nI 0)), none]) rfl (Nat.le_of_ble_eq_true rfl) rfl ?_
        refine z_ild rfl rfl ?_
        refine z_ifN (by omega) rfl (fun h_14 => ?_) (fun h_14 => ?_)
        · replace h_14 : 0 = 0 := h_14
          refine z_ald rfl rfl ?_
          refine z_get rfl e_12 rfl ?_
          refine z_ild rfl rfl ?_
          refine z_ald rfl rfl ?_
          refine z_get rfl e_12 rfl ?_
          refine z_call (as := [zR (some pb), zI (nI a), zI (nI (spn isWd t n a))]) (r := []) (mc' := 1) (ms' := (spn isWd t n a - a)) rfl rfl rfl (Nat.le_of_ble_eq_true rfl) (by omega) (by omega) (rc1 rfl) (k_J7_copyOfRange_39247 (by omega) (by omega) (by omega) hf (by omega) k_10) (by rintro _ _ ⟨_, e, _⟩; cases e) ?_
          rintro g_16 _ ⟨q_15, e9, h_17, e_18, f_19⟩; cases e9
          · skip
            have k_20 := (f_19 pb (zn0 k_10 h_17)).trans k_10
            have k_21 := (f_19 p (zn0 e_12 h_17)).trans e_12
            have n_23 := ext_new x_11 h_17
            have n_24 := ext_gn x_11 h_17
            have x_22 := ext_mut x_11 f_19 (Or.inl n_23) n_24 e_18
            refine z_ast (ls' := [some (zR (some p)), some (zI (nI a)), some (zI (nI (nmN t n a))), some (zI (nI (spn isDg t n a))), some (zI (nI 0)), some (zR (some q_15))]) rfl (Nat.le_of_ble_eq_true rfl) rfl ?_
            refine z_new rfl (by omega) (by omega) ?_
            intro q_25 g_26 h_27 e_28 f_29
            have k_30 := (f_29 pb (zn0 k_20 h_27)).trans k_20
            have k_31 := (f_29 p (zn0 k_21 h_27)).trans k_21
            have k_32 := (f_29 q_15 (zn0 e_18 h_27)).trans e_18
            have n_34 := ext_new x_22 h_27
            have n_35 := ext_gn x_22 h_27
            have x_33 := ext_mut x_22 f_29 (Or.inl n_34) n_35 e_28
            replace e_28 : g_26 q_25 = some (zO 8 [zR none, zI (nI 0)]) := e_28
            refine z_dup rfl rfl ?_
            refine z_ald rfl rfl ?_
            refine z_ild rfl rfl ?_
            refine z_ifN (by omega) rfl (fun h_36 => ?_) (fun h_36 => ?_)
            · replace h_36 : 0 = 0 := h_36
              refine z_ico (x := (-1)) rfl rfl ?_
              refine z_call (as := [zR (some q_25), zR (some q_15), zI (-1)]) (r := [zR (some q_25)]) (mc' := 0) (ms' := 0) rfl rfl rfl (Nat.le_of_ble_eq_true rfl) (by omega) (by omega) (rc2 rfl) (k_X8_init e_28) (by rintro _ _ ⟨e, _⟩; cases e) ?_
              rintro g_37 _ ⟨e9, e_38, f_39⟩; cases e9
              · skip
                have k_40 := (f_39 pb (zne k_30 e_28 (by nofun))).trans k_30
                have k_41 := (f_39 p (zne k_31 e_28 (by nofun))).trans k_31
                have k_42 := (f_39 q_15 (zne k_32 e_28 (by nofun))).trans k_32
                have x_43 := ext_mut x_33 f_39 (Or.inl n_34) n_35 e_38
                refine z_ret rfl ⟨_, rfl⟩ ?_
                obtain ⟨u_44, x_45, l_46, c_47, o_48⟩ := ext_frzE x_43 (Or.inl n_23) n_24 k_42
                have n_49 := (o_48 p (zne k_41 k_42 (by nofun))).trans gp
                have n_50 := (o_48 q_25 (zne e_38 k_42 (by nofun))).trans n_35
                obtain ⟨u_51, x_52, l_53, c_54, o_55⟩ := ext_frzE x_45 (Or.inl n_34) n_50 e_38
                have n_56 := (o_55 p (zne k_41 e_38 (by nofun))).trans n_49
                have c_57 := l_53 _ _ c_47
                have w8 := wb_ne ha h_13
                refine Or.inl ⟨q_25, u_51, rfl, w8, k_41, x_52, q_15, _, ?_, c_57, fun j hj => wd_bytes hx ha hj, wbad_t.mp w8⟩
                rw [wnum_nd ha h_13]
                exact c_54
            · replace h_36 : ¬ (0 = 0) := h_36
              omega
        · replace h_14 : ¬ (0 = 0) := h_14
          omega
      · replace h_13 : spn isWd t n a = spn isDg t n a := Decidable.of_not_not h_13
        refine z_ico (x := (nI 1)) rfl rfl ?_
        refine z_go rfl ?_
        refine z_ist (ls' := [some (zR (some p)), some (zI (nI a)), some (zI (nI (nmN t n a))), some (zI (nI (spn isDg t n a))), some (zI (nI 1)), none]) rfl (Nat.le_of_ble_eq_true rfl) rfl ?_
        refine z_ild rfl rfl ?_
        refine z_ifN (by omega) rfl (fun h_58 => ?_) (fun h_58 => ?_)
        · replace h_58 : 1 = 0 := h_58
          omega
        · replace h_58 : ¬ (1 = 0) := h_58
          refine z_ild rfl rfl ?_
          refine z_ico (x := (-1)) rfl rfl ?_
          refine z_cmp rfl (fun h_59 => ?_) (fun h_59 => ?_)
          · replace h_59 : ¬ (nI (nmN t n a)) = (-1) := h_59
            refine z_ald rfl rfl ?_
            refine z_get rfl e_12 rfl ?_
            refine z_ild rfl rfl ?_
            refine z_ald rfl rfl ?_
            refine z_get rfl e_12 rfl ?_
            refine z_call (as := [zR (some pb), zI (nI a), zI (nI (spn isWd t n a))]) (r := []) (mc' := 1) (ms' := (spn isWd t n a - a)) rfl rfl rfl (Nat.le_of_ble_eq_true rfl) (by omega) (by omega) (rc1 rfl) (k_J7_copyOfRange_39247 (by omega) (by omega) (by omega) hf (by omega) k_10) (by rintro _ _ ⟨_, e, _⟩; cases e) ?_
            rintro g_61 _ ⟨q_60, e9, h_62, e_63, f_64⟩; cases e9
            · skip
              have k_65 := (f_64 pb (zn0 k_10 h_62)).trans k_10
              have k_66 := (f_64 p (zn0 e_12 h_62)).trans e_12
              have n_68 := ext_new x_11 h_62
              have n_69 := ext_gn x_11 h_62
              have x_67 := ext_mut x_11 f_64 (Or.inl n_68) n_69 e_63
              refine z_ast (ls' := [some (zR (some p)), some (zI (nI a)), some (zI (nI (nmN t n a))), some (zI (nI (spn isDg t n a))), some (zI (nI 1)), some (zR (some q_60))]) rfl (Nat.le_of_ble_eq_true rfl) rfl ?_
              refine z_new rfl (by omega) (by omega) ?_
              intro q_70 g_71 h_72 e_73 f_74
              have k_75 := (f_74 pb (zn0 k_65 h_72)).trans k_65
              have k_76 := (f_74 p (zn0 k_66 h_72)).trans k_66
              have k_77 := (f_74 q_60 (zn0 e_63 h_72)).trans e_63
              have n_79 := ext_new x_67 h_72
              have n_80 := ext_gn x_67 h_72
              have x_78 := ext_mut x_67 f_74 (Or.inl n_79) n_80 e_73
              replace e_73 : g_71 q_70 = some (zO 8 [zR none, zI (nI 0)]) := e_73
              refine z_dup rfl rfl ?_
              refine z_ald rfl rfl ?_
              refine z_ild rfl rfl ?_
              refine z_ifN (by omega) rfl (fun h_81 => ?_) (fun h_81 => ?_)
              · replace h_81 : 1 = 0 := h_81
                omega
              · replace h_81 : ¬ (1 = 0) := h_81
                refine z_ild rfl rfl ?_
                refine z_go rfl ?_
                refine z_call (as := [zR (some q_70), zR (some q_60), zI (nI (nmN t n a))]) (r := [zR (some q_70)]) (mc' := 0) (ms' := 0) rfl rfl rfl (Nat.le_of_ble_eq_true rfl) (by omega) (by omega) (rc2 rfl) (k_X8_init e_73) (by rintro _ _ ⟨e, _⟩; cases e) ?_
                rintro g_82 _ ⟨e9, e_83, f_84⟩; cases e9
                · skip
                  have k_85 := (f_84 pb (zne k_75 e_73 (by nofun))).trans k_75
                  have k_86 := (f_84 p (zne k_76 e_73 (by nofun))).trans k_76
                  have k_87 := (f_84 q_60 (zne k_77 e_73 (by nofun))).trans k_77
                  have x_88 := ext_mut x_78 f_84 (Or.inl n_79) n_80 e_83
                  refine z_ret rfl ⟨_, rfl⟩ ?_
                  obtain ⟨u_89, x_90, l_91, c_92, o_93⟩ := ext_frzE x_88 (Or.inl n_68) n_69 k_87
                  have n_94 := (o_93 p (zne k_86 k_87 (by nofun))).trans gp
                  have n_95 := (o_93 q_70 (zne e_83 k_87 (by nofun))).trans n_80
                  obtain ⟨u_96, x_97, l_98, c_99, o_100⟩ := ext_frzE x_90 (Or.inl n_79) n_95 e_83
                  have n_101 := (o_100 p (zne k_86 e_83 (by nofun))).trans n_94
                  have c_102 := l_98 _ _ c_92
                  have w8 := (wb_eq h_13).mp x_2
                  refine Or.inl ⟨q_70, u_96, rfl, w8, k_86, x_97, q_60, _, ?_, c_102, fun j hj => wd_bytes hx ha hj, wbad_t.mp w8⟩
                  rw [wnum_dg h_13 x_2]
                  exact c_99
          · replace h_59 : (nI (nmN t n a)) = (-1) := Decidable.of_not_not h_59
            exact absurd h_59 (nI_ne1 (nm_lt x_2))
  · skip
    have e_3_a : a ≤ spn isDg t n a := spn_ge
    have e_3_b : spn isDg t n a ≤ n := spn_le (by omega)
    have k_103 := (f_4 pb (zne h2 h1 (by nofun))).trans h2
    have x_104 := ext_mut x0 f_4 (Or.inr rfl) gp e_3
    refine z_ist (ls' := [some (zR (some p)), some (zI (nI a)), some (zI (-1)), none, none, none]) rfl (Nat.le_of_ble_eq_true rfl) rfl ?_
    refine z_ald rfl rfl ?_
    refine z_get rfl e_3 rfl ?_
    refine z_ist (ls' := [some (zR (some p)), some (zI (nI a)), some (zI (-1)), some (zI (nI (spn isDg t n a))), none, none]) rfl (Nat.le_of_ble_eq_true rfl) rfl ?_
    refine z_ald rfl rfl ?_
    refine z_call (as := [zR (some p)]) (r := []) (mc' := 0) (ms' := 0) rfl rfl rfl (Nat.le_of_ble_eq_true rfl) (by omega) (by omega) (rc0 rfl e_3) (k_X1_skipWord hx hn (a := spn isDg t n a) (by omega) e_3 k_103) (by rintro _ _ ⟨e, _⟩; cases e) ?_
    rintro g_105 _ ⟨e9, e_106, f_107⟩; cases e9
    · skip
      have e_106_a : spn isDg t n a ≤ spn isWd t n (spn isDg t n a) := spn_ge
      have e_106_b : spn isWd t n (spn isDg t n a) ≤ n := spn_le (by omega)
      have k_108 := (f_107 pb (zne k_103 e_3 (by nofun))).trans k_103
      have x_109 := ext_mut x_104 f_107 (Or.inr rfl) gp e_106
      have e_110 := e_106
      rw [spn_wd] at e_110
      have e_110_a : spn isWd t n a ≤ n := spn_le (by omega)
      have e_110_b : spn isDg t n a ≤ spn isWd t n a := dg_le_wd
      refine z_ald rfl rfl ?_
      refine z_get rfl e_110 rfl ?_
      refine z_ild rfl rfl ?_
      refine z_cmpN (by omega) (by omega) rfl (fun h_111 => ?_) (fun h_111 => ?_)
      · replace h_111 : ¬ spn isWd t n a = spn isDg t n a := h_111
        refine z_ico (x := (nI 0)) rfl rfl ?_
        refine z_ist (ls' := [some (zR (some p)), some (zI (nI a)), some (zI (-1)), some (zI (nI (spn isDg t n a))), some (zI (nI 0)), none]) rfl (Nat.le_of_ble_eq_true rfl) rfl ?_
        refine z_ild rfl rfl ?_
        refine z_ifN (by omega) rfl (fun h_112 => ?_) (fun h_112 => ?_)
        · replace h_112 : 0 = 0 := h_112
          refine z_ald rfl rfl ?_
          refine z_get rfl e_110 rfl ?_
          refine z_ild rfl rfl ?_
          refine z_ald rfl rfl ?_
          refine z_get rfl e_110 rfl ?_
          refine z_call (as := [zR (some pb), zI (nI a), zI (nI (spn isWd t n a))]) (r := []) (mc' := 1) (ms' := (spn isWd t n a - a)) rfl rfl rfl (Nat.le_of_ble_eq_true rfl) (by omega) (by omega) (rc1 rfl) (k_J7_copyOfRange_39247 (by omega) (by omega) (by omega) hf (by omega) k_108) (by rintro _ _ ⟨_, e, _⟩; cases e) ?_
          rintro g_114 _ ⟨q_113, e9, h_115, e_116, f_117⟩; cases e9
          · skip
            have k_118 := (f_117 pb (zn0 k_108 h_115)).trans k_108
            have k_119 := (f_117 p (zn0 e_110 h_115)).trans e_110
            have n_121 := ext_new x_109 h_115
            have n_122 := ext_gn x_109 h_115
            have x_120 := ext_mut x_109 f_117 (Or.inl n_121) n_122 e_116
            refine z_ast (ls' := [some (zR (some p)), some (zI (nI a)), some (zI (-1)), some (zI (nI (spn isDg t n a))), some (zI (nI 0)), some (zR (some q_113))]) rfl (Nat.le_of_ble_eq_true rfl) rfl ?_
            refine z_new rfl (by omega) (by omega) ?_
            intro q_123 g_124 h_125 e_126 f_127
            have k_128 := (f_127 pb (zn0 k_118 h_125)).trans k_118
            have k_129 := (f_127 p (zn0 k_119 h_125)).trans k_119
            have k_130 := (f_127 q_113 (zn0 e_116 h_125)).trans e_116
            have n_132 := ext_new x_120 h_125
            have n_133 := ext_gn x_120 h_125
            have x_131 := ext_mut x_120 f_127 (Or.inl n_132) n_133 e_126
            replace e_126 : g_124 q_123 = some (zO 8 [zR none, zI (nI 0)]) := e_126
            refine z_dup rfl rfl ?_
            refine z_ald rfl rfl ?_
            refine z_ild rfl rfl ?_
            refine z_ifN (by omega) rfl (fun h_134 => ?_) (fun h_134 => ?_)
            · replace h_134 : 0 = 0 := h_134
              refine z_ico (x := (-1)) rfl rfl ?_
              refine z_call (as := [zR (some q_123), zR (some q_113), zI (-1)]) (r := [zR (some q_123)]) (mc' := 0) (ms' := 0) rfl rfl rfl (Nat.le_of_ble_eq_true rfl) (by omega) (by omega) (rc2 rfl) (k_X8_init e_126) (by rintro _ _ ⟨e, _⟩; cases e) ?_
              rintro g_135 _ ⟨e9, e_136, f_137⟩; cases e9
              · skip
                have k_138 := (f_137 pb (zne k_128 e_126 (by nofun))).trans k_128
                have k_139 := (f_137 p (zne k_129 e_126 (by nofun))).trans k_129
                have k_140 := (f_137 q_113 (zne k_130 e_126 (by nofun))).trans k_130
                have x_141 := ext_mut x_131 f_137 (Or.inl n_132) n_133 e_136
                refine z_ret rfl ⟨_, rfl⟩ ?_
                obtain ⟨u_142, x_143, l_144, c_145, o_146⟩ := ext_frzE x_141 (Or.inl n_121) n_122 k_140
                have n_147 := (o_146 p (zne k_139 k_140 (by nofun))).trans gp
                have n_148 := (o_146 q_123 (zne e_136 k_140 (by nofun))).trans n_133
                obtain ⟨u_149, x_150, l_151, c_152, o_153⟩ := ext_frzE x_143 (Or.inl n_132) n_148 e_136
                have n_154 := (o_153 p (zne k_139 e_136 (by nofun))).trans n_147
                have c_155 := l_151 _ _ c_145
                have w8 := wb_ne ha h_111
                refine Or.inl ⟨q_123, u_149, rfl, w8, k_139, x_150, q_113, _, ?_, c_155, fun j hj => wd_bytes hx ha hj, wbad_t.mp w8⟩
                rw [wnum_nd ha h_111]
                exact c_152
            · replace h_134 : ¬ (0 = 0) := h_134
              omega
        · replace h_112 : ¬ (0 = 0) := h_112
          omega
      · replace h_111 : spn isWd t n a = spn isDg t n a := Decidable.of_not_not h_111
        refine z_ico (x := (nI 1)) rfl rfl ?_
        refine z_go rfl ?_
        refine z_ist (ls' := [some (zR (some p)), some (zI (nI a)), some (zI (-1)), some (zI (nI (spn isDg t n a))), some (zI (nI 1)), none]) rfl (Nat.le_of_ble_eq_true rfl) rfl ?_
        refine z_ild rfl rfl ?_
        refine z_ifN (by omega) rfl (fun h_156 => ?_) (fun h_156 => ?_)
        · replace h_156 : 1 = 0 := h_156
          omega
        · replace h_156 : ¬ (1 = 0) := h_156
          refine z_ild rfl rfl ?_
          refine z_ico (x := (-1)) rfl rfl ?_
          refine z_cmp rfl (fun h_157 => ?_) (fun h_157 => ?_)
          · replace h_157 : ¬ (-1 : Int32) = -1 := h_157
            exact absurd rfl h_157
          · replace h_157 : (-1 : Int32) = -1 := Decidable.of_not_not h_157
            refine z_nul rfl ?_
            refine z_ret rfl ⟨_, rfl⟩ ?_
            exact Or.inr ⟨rfl, bt_f (fun g => x_2 ((wb_eq h_111).mpr g)), e_110, fun y hy => (f_107 y hy).trans (f_4 y hy)⟩
