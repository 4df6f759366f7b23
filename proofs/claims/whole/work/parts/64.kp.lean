def oI (x : Option Nat) : Int32 := match x with
  | none => -1
  | some j => nI j
/-- has one of the first k versions this package and this precedence -/
def hsV (r : rA) (pk : Nat) (V : vV) : Nat → Bool
  | 0 => false
  | k + 1 => hsV r pk V k || (decide (r 16 k = nI pk) && decide (ordV (rowV r k) V = 0))
theorem hsV_t {r : rA} {pk : Nat} {V : vV} {k : Nat} (h : hsV r pk V k = true) : ∀ m, hsV r pk V (k + m) = true
  | 0 => h
  | m + 1 => by rw [← Nat.add_assoc, hsV, hsV_t h m]; rfl
def ykN (r : rA) : Nat → Nat
  | 0 => 0
  | k + 1 => ykN r k + (if r 17 k = 0 then 0 else 1)
theorem ykN_le {r : rA} : ∀ k, ykN r k ≤ k
  | 0 => Nat.le_refl _
  | k + 1 => by
    have := ykN_le (r := r) k
    rw [ykN]
    split <;> omega
/-- the highest of the first k versions of package p that meets Q and is not yanked -/
def hgF (r : rA) (p : Nat) (Q : qV) : Nat → Option Nat
  | 0 => none
  | k + 1 => if r 16 k = nI p ∧ r 17 k = 0 ∧ imF Q (rowV r k) = true then some (hiF r 0 (hgF r p Q k) k) else hgF r p Q k
theorem hgF_lt {r : rA} {p : Nat} {Q : qV} : ∀ k j, hgF r p Q k = some j → j < k
  | 0, j, h => by cases h
  | k + 1, j, h => by
    rw [hgF] at h
    split at h
    · cases h
      unfold hiF
      split
      · omega
      · rename_i x e
        have := hgF_lt k _ e
        split <;> omega
    · have := hgF_lt k j h
      omega
set_option maxHeartbeats 1000000 in
theorem kl_hs {d : Nat} {Q : zQ} {h : zH} {g : zH} {r : rA} {v pg pl b : Nat} {A : Nat → Nat} {f : Nat → Option Nat} {pkb pvb mb : Nat} {pwb prb pdb : Option Nat} {yb : Bool} {V : vV} (h1 : h pg = some (zO 2 [zR (some pl), zI (nI v)])) (h2 : h pl = some (zaR 4 40 f)) (hf : ∀ i, i < v → f i = some (A i)) (hv : v ≤ 40) (hrel : ∀ i, i < v → relI h g r i (A i)) (hg : hle g h) (hb : h b = some (zO 3 [zI (nI pkb), zR (some pvb), zR pwb, zR prb, zR pdb, zI (nI mb), zI (bI yb)])) (hp8 : pkb < 8) (hV : vrAt h pvb V) (hQ : Q h (.inl (some (zI (bI (hsV r pkb V v)))))) : ∀ k, k ≤ v → ∀ (x3 : Option zV) (h0 : hsV r pkb V k = false), zEv (d + 3) tb_30 0 0 Q 2 [some (zR (some pg)), some (zR (some b)), some (zI (nI k)), x3] [] h 0 0 := by
  refine dn v (fun k hk ih x3 h0 => ?_)
  refine z_ild rfl rfl ?_
  refine z_ald rfl rfl ?_
  refine z_get rfl h1 rfl ?_
  refine z_cmpN (by omega) (by omega) rfl (fun h_1 => ?_) (fun h_1 => ?_)
  · replace h_1 : v ≤ k := h_1
    refine z_ico (x := (nI 0)) rfl rfl ?_
    refine z_ret rfl ⟨_, rfl, Or.inl rfl⟩ ?_
    have e : k = v := by omega
    subst e
    rw [h0] at hQ
    exact hQ
  · replace h_1 := Nat.not_le.mp h_1
    refine z_ald rfl rfl ?_
    refine z_get rfl h1 rfl ?_
    refine z_ild rfl rfl ?_
    refine z_aald rfl h2 (by omega) (by omega) ?_
    refine z_top (v2 := zR (some ((A k)))) (congrArg zR (hf k (by omega))) ?_
    obtain ⟨pv, pw, pr, pd, pk, m, y, c, _, ⟨e16, pk8⟩, e17, ⟨e14, m5⟩, ⟨tv, _, ⟨fd, cd, td⟩, ⟨fr, cr, tr⟩⟩⟩ := relI_h hg (hrel k (by omega))
    obtain ⟨fsv, cv⟩ := vr_cell tv
    refine z_ast (ls' := [some (zR (some pg)), some (zR (some b)), some (zI (nI k)), some (zR (some ((A k))))]) rfl (Nat.le_of_ble_eq_true rfl) rfl ?_
    refine z_ald rfl rfl ?_
    refine z_get rfl c rfl ?_
    refine z_ald rfl rfl ?_
    refine z_get rfl hb rfl ?_
    refine z_cmpN (by omega) (by omega) rfl (fun h_2 => ?_) (fun h_2 => ?_)
    · replace h_2 : ¬ pk = pkb := h_2
      refine z_inc (x' := (nI (k + 1))) (ls' := [some (zR (some pg)), some (zR (some b)), some (zI (nI (k + 1))), some (zR (some ((A k))))]) rfl rfl (nI_1 _) rfl ?_
      refine z_go rfl ?_
      refine z_ok (ls' := [some (zR (some pg)), some (zR (some b)), some (zI (nI (k + 1))), some (zR (some (A k)))]) rfl ?_
      exact ih (by omega) _ (by rw [hsV, h0, decide_eq_false (fun z => h_2 ((nI_eq (by omega) (by omega)).mp (e16.symm.trans z)))]; rfl)
    · replace h_2 : pk = pkb := Decidable.of_not_not h_2
      refine z_ald rfl rfl ?_
      refine z_get rfl c rfl ?_
      refine z_ald rfl rfl ?_
      refine z_get rfl hb rfl ?_
      refine z_callF (as := [zR (some pv), zR (some pvb)]) (r := []) (v := some (zI (ordV (rowV r k) V))) rfl rfl rfl (Nat.le_of_ble_eq_true rfl) (by omega) (by omega) (rc0 rfl cv) (k_X7_order tv hV) ?_
      refine z_if rfl (fun h_3 => ?_) (fun h_3 => ?_)
      · replace h_3 : ¬ (ordV (rowV r k) V) = 0 := h_3
        refine z_inc (x' := (nI (k + 1))) (ls' := [some (zR (some pg)), some (zR (some b)), some (zI (nI (k + 1))), some (zR (some ((A k))))]) rfl rfl (nI_1 _) rfl ?_
        refine z_go rfl ?_
        refine z_ok (ls' := [some (zR (some pg)), some (zR (some b)), some (zI (nI (k + 1))), some (zR (some (A k)))]) rfl ?_
        exact ih (by omega) _ (by rw [hsV, h0, decide_eq_false h_3, Bool.and_false]; rfl)
      · replace h_3 : (ordV (rowV r k) V) = 0 := Decidable.of_not_not h_3
        refine z_ico (x := (nI 1)) rfl rfl ?_
        refine z_ret rfl ⟨_, rfl, Or.inr rfl⟩ ?_
        have h9 := hsV_t (r := r) (pk := pkb) (V := V) (k := k + 1) (by rw [hsV, decide_eq_true (e16.trans (congrArg nI h_2)), decide_eq_true h_3]; exact Bool.or_true _) (v - (k + 1))
        rw [show k + 1 + (v - (k + 1)) = v by omega] at h9
        rw [h9] at hQ
        exact hQ
set_option maxHeartbeats 1000000 in
theorem k_X2_hasSame {d : Nat} {h : zH} {g : zH} {r : rA} {v pg pl : Nat} {A : Nat → Nat} {b pkb pvb mb : Nat} {pwb prb pdb : Option Nat} {yb : Bool} {V : vV} (hr : rgI h g r v pg pl A) (hb : h b = some (zO 3 [zI (nI pkb), zR (some pvb), zR pwb, zR prb, zR pdb, zI (nI mb), zI (bI yb)])) (hp8 : pkb < 8) (hV : vrAt h pvb V) : zPure (d + 4) 30 [zR (some pg), zR (some b)] h (some (zI (bI (hsV r pkb V v)))) := by
  obtain ⟨h1, ⟨f, h2, hf⟩, hv, hrel, hg⟩ := hr
  refine zCall.of (d := d + 3) (T := tb_30) (L := [some (zR (some pg)), some (zR (some b)), none, none]) (Nat.le_of_ble_eq_true rfl) rfl rfl ?_
  refine z_ico (x := (nI 0)) rfl rfl ?_
  refine z_ist (ls' := [some (zR (some pg)), some (zR (some b)), some (zI (nI 0)), none]) rfl (Nat.le_of_ble_eq_true rfl) rfl ?_
  exact kl_hs h1 h2 hf hv hrel hg hb hp8 hV ⟨rfl, rfl⟩ 0 (by omega) _ rfl
set_option maxHeartbeats 1000000 in
theorem k_X2_add {d : Nat} {h : zH} {g : zH} {r : rA} {v pg pl : Nat} {A : Nat → Nat} {b : Nat} {fsb : List zV} {f : Nat → Option Nat} (hr : rgI h g r v pg pl A) (h2 : h pl = some (zaR 4 40 f)) (hb : h b = some (zO 3 fsb)) (hv4 : v < 40) : zCall (d + 2) 31 [zR (some pg), zR (some b)] h 0 0 (fun h' o => o = .inl (some (zI (nI v))) ∧ h' pg = some (zO 2 [zR (some pl), zI (nI (v + 1))]) ∧ h' pl = some (zaR 4 40 (va_up f v (some b))) ∧ (∀ y, y ≠ pg → y ≠ pl → h' y = h y)) := by
  have h1 := hr.1
  refine zCall.of (d := d + 1) (T := tb_31) (L := [some (zR (some pg)), some (zR (some b))]) (Nat.le_of_ble_eq_true rfl) rfl rfl ?_
  refine z_ald rfl rfl ?_
  refine z_callF (as := [zR (some pg)]) (r := []) (v := some (zI (bI (decide (v = 40))))) rfl rfl rfl (Nat.le_of_ble_eq_true rfl) (by omega) (by omega) (rc0 rfl h1) (k_X2_isFull hr) ?_
  refine z_ifB0 rfl (fun b_1 => ?_) (fun b_1 => ?_)
  · refine z_ald rfl rfl ?_
    refine z_get rfl h1 rfl ?_
    refine z_ald rfl rfl ?_
    refine z_get rfl h1 rfl ?_
    refine z_ald rfl rfl ?_
    refine z_aast rfl h2 (by omega) (by omega) (fun q e => by cases e; exact ⟨_, hb⟩) ?_
    intro g_2 e_3 f_4
    have k_5 := (f_4 pg (zne h1 h2 (by nofun))).trans h1
    have k_6 := (f_4 b (zne hb h2 (by nofun))).trans hb
    refine z_ald rfl rfl ?_
    refine z_dup rfl rfl ?_
    refine z_get rfl k_5 rfl ?_
    refine z_ico (x := (nI 1)) rfl rfl ?_
    refine z_ibi (v := (nI (v + 1))) rfl (nI_add _ _) ?_
    refine z_put (e := zO 2 [zR (some pl), zI (nI (v + 1))]) rfl k_5 (Nat.le_of_ble_eq_true rfl) ⟨_, rfl⟩ rfl ?_
    intro g_7 e_8 f_9
    have k_10 := (f_9 b (zne k_6 k_5 (by nofun))).trans k_6
    have k_11 := (f_9 pl (zne e_3 k_5 (by nofun))).trans e_3
    refine z_ald rfl rfl ?_
    refine z_get rfl e_8 rfl ?_
    refine z_ico (x := (nI 1)) rfl rfl ?_
    refine z_ibi (v := (nI (v + 1 - 1))) rfl (pk_sub (by omega)) ?_
    refine z_top (v2 := zI (nI v)) (congrArg zI (congrArg nI (by omega))) ?_
    refine z_ret rfl ⟨_, rfl⟩ ?_
    exact ⟨rfl, e_8, k_11, fun y hy hz => (f_9 y hy).trans (f_4 y hz)⟩
  · exact absurd (of_decide_eq_true b_1) (by omega)
set_option maxHeartbeats 1000000 in
theorem kl_yk {d : Nat} {Q : zQ} {h : zH} {g : zH} {r : rA} {v pg pl : Nat} {A : Nat → Nat} {f : Nat → Option Nat} (h1 : h pg = some (zO 2 [zR (some pl), zI (nI v)])) (h2 : h pl = some (zaR 4 40 f)) (hf : ∀ i, i < v → f i = some (A i)) (hv : v ≤ 40) (hrel : ∀ i, i < v → relI h g r i (A i)) (hg : hle g h) (hQ : Q h (.inl (some (zI (nI (ykN r v)))))) : ∀ k, k ≤ v → zEv d tb_32 0 0 Q 4 [some (zR (some pg)), some (zI (nI (ykN r k))), some (zI (nI k))] [] h 0 0 := by
  refine dn v (fun k hk ih  => ?_)
  refine z_ild rfl rfl ?_
  refine z_ald rfl rfl ?_
  refine z_get rfl h1 rfl ?_
  refine z_cmpN (by omega) (by omega) rfl (fun h_1 => ?_) (fun h_1 => ?_)
  · replace h_1 : v ≤ k := h_1
    refine z_ild rfl rfl ?_
    refine z_ret rfl ⟨_, rfl⟩ ?_
    have e : k = v := by omega
    subst e
    exact hQ
  · replace h_1 := Nat.not_le.mp h_1
    refine z_ald rfl rfl ?_
    refine z_get rfl h1 rfl ?_
    refine z_ild rfl rfl ?_
    refine z_aald rfl h2 (by omega) (by omega) ?_
    refine z_top (v2 := zR (some ((A k)))) (congrArg zR (hf k (by omega))) ?_
    obtain ⟨pv, pw, pr, pd, pk, m, y, c, _, ⟨e16, pk8⟩, e17, ⟨e14, m5⟩, ⟨tv, _, ⟨fd, cd, td⟩, ⟨fr, cr, tr⟩⟩⟩ := relI_h hg (hrel k (by omega))
    obtain ⟨fsv, cv⟩ := vr_cell tv
    refine z_get rfl c rfl ?_
    refine z_ifB0 rfl (fun b_2 => ?_) (fun b_2 => ?_)
    · refine z_inc (x' := (nI (k + 1))) (ls' := [some (zR (some pg)), some (zI (nI (ykN r k))), some (zI (nI (k + 1)))]) rfl rfl (nI_1 _) rfl ?_
      refine z_go rfl ?_
      have h9 : ykN r (k + 1) = ykN r k := by rw [ykN, if_pos (by rw [e17, b_2]; rfl), Nat.add_zero]
      rw [h9] at ih
      exact ih (by omega)
    · refine z_inc (x' := (nI (ykN r k + 1))) (ls' := [some (zR (some pg)), some (zI (nI (ykN r k + 1))), some (zI (nI k))]) rfl rfl (nI_1 _) rfl ?_
      refine z_inc (x' := (nI (k + 1))) (ls' := [some (zR (some pg)), some (zI (nI (ykN r k + 1))), some (zI (nI (k + 1)))]) rfl rfl (nI_1 _) rfl ?_
      refine z_go rfl ?_
      have h9 : ykN r (k + 1) = ykN r k + 1 := by rw [ykN, if_neg (by rw [e17, b_2]; decide +kernel)]
      rw [h9] at ih
      exact ih (by omega)
set_option maxHeartbeats 1000000 in
theorem k_X2_countYanked {d : Nat} {h : zH} {g : zH} {r : rA} {v pg pl : Nat} {A : Nat → Nat} (hr : rgI h g r v pg pl A) : zPure (d + 1) 32 [zR (some pg)] h (some (zI (nI (ykN r v)))) := by
  obtain ⟨h1, ⟨f, h2, hf⟩, hv, hrel, hg⟩ := hr
  refine zCall.of (d := d) (T := tb_32) (L := [some (zR (some pg)), none, none]) (Nat.le_of_ble_eq_true rfl) rfl rfl ?_
  refine z_ico (x := (nI 0)) rfl rfl ?_
  refine z_ist (ls' := [some (zR (some pg)), some (zI (nI 0)), none]) rfl (Nat.le_of_ble_eq_true rfl) rfl ?_
  refine z_ico (x := (nI 0)) rfl rfl ?_
  refine z_ist (ls' := [some (zR (some pg)), some (zI (nI 0)), some (zI (nI 0))]) rfl (Nat.le_of_ble_eq_true rfl) rfl ?_
  exact kl_yk h1 h2 hf hv hrel hg ⟨rfl, rfl⟩ 0 (by omega)
set_option maxHeartbeats 1000000 in
theorem k_higher0 {d : Nat} {h : zH} {g : zH} {r : rA} {v pg pl : Nat} {A : Nat → Nat} {i : Nat} (hr : rgI h g r v pg pl A) (hi : i < v) : zPure (d + 4) 34 [zR (some pg), zI (-1), zI (nI i)] h (some (zI (nI i))) := by
  have hg := hr.2.2.2.2
  have h1 := hr.1
  have hv := hr.2.2.1
  refine zCall.of (d := d + 3) (T := tb_34) (L := [some (zR (some pg)), some (zI (-1)), some (zI (nI i)), none, none]) (Nat.le_of_ble_eq_true rfl) rfl rfl ?_
  refine z_ald rfl rfl ?_
  refine z_ild rfl rfl ?_
  refine z_callF (as := [zR (some pg), zI (-1)]) (r := []) (v := some (zR none)) rfl rfl rfl (Nat.le_of_ble_eq_true rfl) (by omega) (by omega) (rc0 rfl h1) (k_atN hr (fun i hi z => nI_ne1 (by omega) z.symm)) ?_
  refine z_ast (ls' := [some (zR (some pg)), some (zI (-1)), some (zI (nI i)), some (zR none), none]) rfl (Nat.le_of_ble_eq_true rfl) rfl ?_
  refine z_ald rfl rfl ?_
  refine z_ild rfl rfl ?_
  refine z_callF (as := [zR (some pg), zI (nI i)]) (r := []) (v := some (zR (some ((A i))))) rfl rfl rfl (Nat.le_of_ble_eq_true rfl) (by omega) (by omega) (rc0 rfl h1) (k_X2_at hr hi) ?_
  obtain ⟨pv_i, pw_i, pr_i, pd_i, pk_i, m_i, y_i, c_i, _, ⟨e16_i, pk8_i⟩, e17_i, ⟨e14_i, m5_i⟩, ⟨tv_i, _, ⟨fd_i, cd_i, td_i⟩, ⟨fr_i, cr_i, tr_i⟩⟩⟩ := relI_h hg (hr.2.2.2.1 i hi)
  obtain ⟨fsv_i, cv_i⟩ := vr_cell tv_i
  refine z_ast (ls' := [some (zR (some pg)), some (zI (-1)), some (zI (nI i)), some (zR none), some (zR (some ((A i))))]) rfl (Nat.le_of_ble_eq_true rfl) rfl ?_
  refine z_ald rfl rfl ?_
  refine z_nnZ rfl ?_
  refine z_ild rfl rfl ?_
  refine z_ret rfl ⟨_, rfl⟩ ?_
  exact ⟨rfl, rfl⟩
set_option maxHeartbeats 1000000 in
theorem k_higher1 {d : Nat} {h : zH} {g : zH} {r : rA} {v pg pl : Nat} {A : Nat → Nat} {i j : Nat} (hr : rgI h g r v pg pl A) (hi : i < v) (hj : j < v) : zPure (d + 4) 34 [zR (some pg), zI (nI j), zI (nI i)] h (some (zI (nI (hiF r 0 (some j) i)))) := by
  have hg := hr.2.2.2.2
  have h1 := hr.1
  have hv := hr.2.2.1
  refine zCall.of (d := d + 3) (T := tb_34) (L := [some (zR (some pg)), some (zI (nI j)), some (zI (nI i)), none, none]) (Nat.le_of_ble_eq_true rfl) rfl rfl ?_
  refine z_ald rfl rfl ?_
  refine z_ild rfl rfl ?_
  refine z_callF (as := [zR (some pg), zI (nI j)]) (r := []) (v := some (zR (some ((A j))))) rfl rfl rfl (Nat.le_of_ble_eq_true rfl) (by omega) (by omega) (rc0 rfl h1) (k_X2_at hr hj) ?_
  obtain ⟨pv_j, pw_j, pr_j, pd_j, pk_j, m_j, y_j, c_j, _, ⟨e16_j, pk8_j⟩, e17_j, ⟨e14_j, m5_j⟩, ⟨tv_j, _, ⟨fd_j, cd_j, td_j⟩, ⟨fr_j, cr_j, tr_j⟩⟩⟩ := relI_h hg (hr.2.2.2.1 j hj)
  obtain ⟨fsv_j, cv_j⟩ := vr_cell tv_j
  refine z_ast (ls' := [some (zR (some pg)), some (zI (nI j)), some (zI (nI i)), some (zR (some ((A j)))), none]) rfl (Nat.le_of_ble_eq_true rfl) rfl ?_
  refine z_ald rfl rfl ?_
  refine z_ild rfl rfl ?_
  refine z_callF (as := [zR (some pg), zI (nI i)]) (r := []) (v := some (zR (some ((A i))))) rfl rfl rfl (Nat.le_of_ble_eq_true rfl) (by omega) (by omega) (rc0 rfl h1) (k_X2_at hr hi) ?_
  obtain ⟨pv_i, pw_i, pr_i, pd_i, pk_i, m_i, y_i, c_i, _, ⟨e16_i, pk8_i⟩, e17_i, ⟨e14_i, m5_i⟩, ⟨tv_i, _, ⟨fd_i, cd_i, td_i⟩, ⟨fr_i, cr_i, tr_i⟩⟩⟩ := relI_h hg (hr.2.2.2.1 i hi)
  obtain ⟨fsv_i, cv_i⟩ := vr_cell tv_i
  refine z_ast (ls' := [some (zR (some pg)), some (zI (nI j)), some (zI (nI i)), some (zR (some ((A j)))), some (zR (some ((A i))))]) rfl (Nat.le_of_ble_eq_true rfl) rfl ?_
  refine z_ald rfl rfl ?_
  refine z_nnP rfl ?_
  refine z_ald rfl rfl ?_
  refine z_nnP rfl ?_
  refine z_ald rfl rfl ?_
  refine z_get rfl c_j rfl ?_
  refine z_ald rfl rfl ?_
  refine z_get rfl c_i rfl ?_
  refine z_callF (as := [zR (some pv_j), zR (some pv_i)]) (r := []) (v := some (zI (ordV (rowV r j) (rowV r i)))) rfl rfl rfl (Nat.le_of_ble_eq_true rfl) (by omega) (by omega) (rc0 rfl cv_j) (k_X7_order tv_j tv_i) ?_
  refine z_if rfl (fun h_1 => ?_) (fun h_1 => ?_)
  · replace h_1 : 0 ≤ (ordV (rowV r j) (rowV r i)) := h_1
    refine z_ild rfl rfl ?_
    refine z_ret rfl ⟨_, rfl⟩ ?_
    exact ⟨rfl, by rw [hiF, if_neg (i_le_n.mpr h_1)]⟩
  · replace h_1 : ¬ (0 ≤ (ordV (rowV r j) (rowV r i))) := h_1
    refine z_ild rfl rfl ?_
    refine z_go rfl ?_
    refine z_ret rfl ⟨_, rfl⟩ ?_
    exact ⟨rfl, by rw [hiF, if_pos (i_nle.mp h_1)]⟩
theorem k_X2_higher {d : Nat} {h : zH} {g : zH} {r : rA} {v pg pl : Nat} {A : Nat → Nat} {i : Nat} {x : Option Nat} (hr : rgI h g r v pg pl A) (hi : i < v) (hx : ∀ j, x = some j → j < v) : zPure (d + 4) 34 [zR (some pg), zI (oI x), zI (nI i)] h (some (zI (nI (hiF r 0 x i)))) := by
  cases x with
  | none => exact k_higher0 hr hi
  | some j => exact k_higher1 hr hi (hx j rfl)
set_option maxHeartbeats 1000000 in
theorem kl_hg {d : Nat} {Q0 : zQ} {fsq : List zV} {h : zH} {g : zH} {r : rA} {v pg pl rq p : Nat} {A : Nat → Nat} {f : Nat → Option Nat} {Q : qV} (hr : rgI h g r v pg pl A) (h1 : h pg = some (zO 2 [zR (some pl), zI (nI v)])) (h2 : h pl = some (zaR 4 40 f)) (hf : ∀ i, i < v → f i = some (A i)) (hv : v ≤ 40) (hrel : ∀ i, i < v → relI h g r i (A i)) (hg : hle g h) (hp : p < 8) (hq : rqAt h rq Q) (hqc : h rq = some (zO 4 fsq)) (hQ : Q0 h (.inl (some (zI (oI (hgF r p Q v)))))) : ∀ k, k ≤ v → ∀ (x5 : Option zV), zEv (d + 5) tb_33 0 0 Q0 5 [some (zR (some pg)), some (zI (nI p)), some (zR (some rq)), some (zI (oI (hgF r p Q k))), some (zI (nI k)), x5] [] h 0 0 := by
  refine dn v (fun k hk ih x5 => ?_)
  refine z_ild rfl rfl ?_
  refine z_ald rfl rfl ?_
  refine z_get rfl h1 rfl ?_
  refine z_cmpN (by omega) (by omega) rfl (fun h_1 => ?_) (fun h_1 => ?_)
  · replace h_1 : v ≤ k := h_1
    refine z_ild rfl rfl ?_
    refine z_ret rfl ⟨_, rfl⟩ ?_
    have e : k = v := by omega
    subst e
    exact hQ
  · replace h_1 := Nat.not_le.mp h_1
    refine z_ald rfl rfl ?_
    refine z_get rfl h1 rfl ?_
    refine z_ild rfl rfl ?_
    refine z_aald rfl h2 (by omega) (by omega) ?_
    refine z_top (v2 := zR (some ((A k)))) (congrArg zR (hf k (by omega))) ?_
    obtain ⟨pv, pw, pr, pd, pk, m, y, c, _, ⟨e16, pk8⟩, e17, ⟨e14, m5⟩, ⟨tv, _, ⟨fd, cd, td⟩, ⟨fr, cr, tr⟩⟩⟩ := relI_h hg (hrel k (by omega))
    obtain ⟨fsv, cv⟩ := vr_cell tv
    refine z_ast (ls' := [some (zR (some pg)), some (zI (nI p)), some (zR (some rq)), some (zI (oI (hgF r p Q k))), some (zI (nI k)), some (zR (some ((A k))))]) rfl (Nat.le_of_ble_eq_true rfl) rfl ?_
    refine z_ald rfl rfl ?_
    refine z_get rfl c rfl ?_
    refine z_ild rfl rfl ?_
    refine z_cmpN (by omega) (by omega) rfl (fun h_2 => ?_) (fun h_2 => ?_)
    · replace h_2 : ¬ pk = p := h_2
      refine z_inc (x' := (nI (k + 1))) (ls' := [some (zR (some pg)), some (zI (nI p)), some (zR (some rq)), some (zI (oI (hgF r p Q k))), some (zI (nI (k + 1))), some (zR (some ((A k))))]) rfl rfl (nI_1 _) rfl ?_
      refine z_go rfl ?_
      have h9 : hgF r p Q (k + 1) = hgF r p Q k := by rw [hgF, if_neg (fun z => h_2 ((nI_eq (by omega) (by omega)).mp (e16.symm.trans z.1)))]
      refine z_ok (ls' := [some (zR (some pg)), some (zI (nI p)), some (zR (some rq)), some (zI (oI (hgF r p Q (k + 1)))), some (zI (nI (k + 1))), some (zR (some (A k)))]) (by rw [h9]) ?_
      exact ih (by omega) _
    · replace h_2 : pk = p := Decidable.of_not_not h_2
      refine z_ald rfl rfl ?_
      refine z_get rfl c rfl ?_
      refine z_ifB1 rfl (fun b_3 => ?_) (fun b_3 => ?_)
      · refine z_inc (x' := (nI (k + 1))) (ls' := [some (zR (some pg)), some (zI (nI p)), some (zR (some rq)), some (zI (oI (hgF r p Q k))), some (zI (nI (k + 1))), some (zR (some ((A k))))]) rfl rfl (nI_1 _) rfl ?_
        refine z_go rfl ?_
        have h9 : hgF r p Q (k + 1) = hgF r p Q k := by rw [hgF, if_neg (fun z => by have z := z.2.1; rw [e17, b_3] at z; exact absurd z (by decide +kernel))]
        refine z_ok (ls' := [some (zR (some pg)), some (zI (nI p)), some (zR (some rq)), some (zI (oI (hgF r p Q (k + 1)))), some (zI (nI (k + 1))), some (zR (some (A k)))]) (by rw [h9]) ?_
        exact ih (by omega) _
      · refine z_ald rfl rfl ?_
        refine z_ald rfl rfl ?_
        refine z_get rfl c rfl ?_
        refine z_callF (as := [zR (some rq), zR (some pv)]) (r := []) (v := some (zI (bI (imF Q (rowV r k))))) rfl rfl rfl (Nat.le_of_ble_eq_true rfl) (by omega) (by omega) (rc0 rfl hqc) (k_X4_isMetBy hq tv) ?_
        refine z_ifB0 rfl (fun b_4 => ?_) (fun b_4 => ?_)
        · refine z_inc (x' := (nI (k + 1))) (ls' := [some (zR (some pg)), some (zI (nI p)), some (zR (some rq)), some (zI (oI (hgF r p Q k))), some (zI (nI (k + 1))), some (zR (some ((A k))))]) rfl rfl (nI_1 _) rfl ?_
          refine z_go rfl ?_
          have h9 : hgF r p Q (k + 1) = hgF r p Q k := by rw [hgF, if_neg (fun z => by have z := z.2.2; rw [b_4] at z; cases z)]
          refine z_ok (ls' := [some (zR (some pg)), some (zI (nI p)), some (zR (some rq)), some (zI (oI (hgF r p Q (k + 1)))), some (zI (nI (k + 1))), some (zR (some (A k)))]) (by rw [h9]) ?_
          exact ih (by omega) _
        · refine z_ald rfl rfl ?_
          refine z_ild rfl rfl ?_
          refine z_ild rfl rfl ?_
          refine z_callF (as := [zR (some pg), zI (oI (hgF r p Q k)), zI (nI k)]) (r := []) (v := some (zI (nI (hiF r 0 (hgF r p Q k) k)))) rfl rfl rfl (Nat.le_of_ble_eq_true rfl) (by omega) (by omega) (rc0 rfl h1) (k_X2_higher hr (by omega) (fun j hj => by have := hgF_lt k j hj; omega)) ?_
          refine z_ist (ls' := [some (zR (some pg)), some (zI (nI p)), some (zR (some rq)), some (zI (nI (hiF r 0 (hgF r p Q k) k))), some (zI (nI k)), some (zR (some ((A k))))]) rfl (Nat.le_of_ble_eq_true rfl) rfl ?_
          refine z_inc (x' := (nI (k + 1))) (ls' := [some (zR (some pg)), some (zI (nI p)), some (zR (some rq)), some (zI (nI (hiF r 0 (hgF r p Q k) k))), some (zI (nI (k + 1))), some (zR (some ((A k))))]) rfl rfl (nI_1 _) rfl ?_
          refine z_go rfl ?_
          have h9 : hgF r p Q (k + 1) = some (hiF r 0 (hgF r p Q k) k) := by rw [hgF, if_pos ⟨e16.trans (congrArg nI h_2), by rw [e17, b_3]; rfl, b_4⟩]
          refine z_ok (ls' := [some (zR (some pg)), some (zI (nI p)), some (zR (some rq)), some (zI (oI (hgF r p Q (k + 1)))), some (zI (nI (k + 1))), some (zR (some (A k)))]) (by rw [h9]; rfl) ?_
          exact ih (by omega) _
set_option maxHeartbeats 1000000 in
theorem k_X2_highest {d : Nat} {h : zH} {g : zH} {r : rA} {v pg pl : Nat} {A : Nat → Nat} {rq p : Nat} {Q : qV} (hr : rgI h g r v pg pl A) (hp : p < 8) (hq : rqAt h rq Q) : zPure (d + 6) 33 [zR (some pg), zI (nI p), zR (some rq)] h (some (zI (oI (hgF r p Q v)))) := by
  have hr0 := hr
  obtain ⟨h1, ⟨f, h2, hf⟩, hv, hrel, hg⟩ := hr
  obtain ⟨fsq, hqc⟩ := rq_cell hq
  refine zCall.of (d := d + 5) (T := tb_33) (L := [some (zR (some pg)), some (zI (nI p)), some (zR (some rq)), none, none, none]) (Nat.le_of_ble_eq_true rfl) rfl rfl ?_
  refine z_ico (x := (-1)) rfl rfl ?_
  refine z_ist (ls' := [some (zR (some pg)), some (zI (nI p)), some (zR (some rq)), some (zI (-1)), none, none]) rfl (Nat.le_of_ble_eq_true rfl) rfl ?_
  refine z_ico (x := (nI 0)) rfl rfl ?_
  refine z_ist (ls' := [some (zR (some pg)), some (zI (nI p)), some (zR (some rq)), some (zI (-1)), some (zI (nI 0)), none]) rfl (Nat.le_of_ble_eq_true rfl) rfl ?_
  exact kl_hg hr0 h1 h2 hf hv hrel hg hp hq hqc ⟨rfl, rfl⟩ 0 (by omega) _
