/-- the highest of the first k versions that are in x -/
def hmF (r : rA) (x : Int64) : Nat → Option Nat
  | 0 => none
  | k + 1 => if tst x k = true then some (hiF r 0 (hmF r x k) k) else hmF r x k
theorem hm_lt {r : rA} {x : Int64} : ∀ k j, hmF r x k = some j → j < k ∧ tst x j = true
  | 0, j, h => by cases h
  | k + 1, j, h => by
    rw [hmF] at h
    split at h
    · rename_i t
      cases h
      unfold hiF
      split
      · exact ⟨by omega, t⟩
      · rename_i z e
        have := hm_lt k _ e
        split
        · exact ⟨by omega, t⟩
        · exact ⟨by omega, this.2⟩
    · have := hm_lt k j h
      exact ⟨by omega, this.2⟩
theorem hm_none {r : rA} {x : Int64} : ∀ k, hmF r x k = none → ∀ j, j < k → tst x j = false
  | 0, _, j, hj => absurd hj (Nat.not_lt_zero _)
  | k + 1, h, j, hj => by
    rw [hmF] at h
    split at h
    · cases h
    · rename_i t
      by_cases e : j = k
      · rw [e]; exact Bool.eq_false_iff.mpr t
      · exact hm_none k h j (by omega)
/-- the foremost option of package p in x -/
def fmO (r : rA) (v : Nat) (x : Int64) (p : Nat) (pin : Option Nat) : Option Nat := if tst x (40 + p) = true then some (40 + p) else match pin with
  | none => hmF r x v
  | some q => if tst x q = true then some q else hmF r x v
theorem fm_in {r : rA} {v : Nat} {x : Int64} {p : Nat} {pin : Option Nat} {o : Nat} (h : fmO r v x p pin = some o) : tst x o = true := by
  unfold fmO at h
  split at h
  · cases h; assumption
  · split at h
    · exact (hm_lt _ _ h).2
    · split at h
      · cases h; assumption
      · exact (hm_lt _ _ h).2
theorem rg_fr {h h' g : zH} {r : rA} {v pg pl s pp : Nat} {A : Nat → Nat} {fs : List zV} {m : Nat} {T : Nat → Int64} (hr : rgI h g r v pg pl A) (hs : h s = some (zO 5 fs)) (hT : h pp = some (zaJ m T)) (gs : g s = none) (gp : g pp = none) (fr : ∀ y, y ≠ s → y ≠ pp → h' y = h y) : rgI h' g r v pg pl A := by
  obtain ⟨a, ⟨f, b, c⟩, d, e, l⟩ := hr
  refine ⟨(fr _ (zne a hs (by nofun)) (zne a hT (by nofun))).trans a, ⟨f, (fr _ (zne b hs (by nofun)) (zne b hT (by nofun))).trans b, c⟩, d, fun i hi => ?_, fun y z q => ?_⟩
  · obtain ⟨pv, pw, pr, pd, pk, m, yk, x1, x2⟩ := e i hi
    exact ⟨pv, pw, pr, pd, pk, m, yk, (fr _ (zne x1 hs (by nofun)) (zne x1 hT (by nofun))).trans x1, x2⟩
  · rw [fr y (fun w => by rw [w, gs] at q; cases q) (fun w => by rw [w, gp] at q; cases q)]
    exact l y z q
set_option maxHeartbeats 1000000 in
theorem kl_fm {d : Nat} {Q : zQ} {h : zH} {g : zH} {r : rA} {s pg po pt pc pp pl v p : Nat} {A : Nat → Nat} {fo x : Int64} {x4 : Int32} (hr : rgI h g r v pg pl A) (hs : h s = some (srO pg po pt pc pp fo)) (hp : p < 8) (h1 : h pg = some (zO 2 [zR (some pl), zI (nI v)])) (hv : v ≤ 40) (hQ : Q h (.inl (some (zI (oI (hmF r x v)))))) : ∀ k, k ≤ v → zEv (d + 4) tb_50 0 0 Q 40 [some (zR (some s)), some (zJ x), none, some (zI (nI p)), some (zI (x4)), some (zI (oI (hmF r x k))), some (zI (nI k))] [] h 0 0 := by
  refine dn v (fun k hk ih  => ?_)
  refine z_ild rfl rfl ?_
  refine z_ald rfl rfl ?_
  refine z_get rfl hs rfl ?_
  refine z_get rfl h1 rfl ?_
  refine z_cmpN (by omega) (by omega) rfl (fun h_1 => ?_) (fun h_1 => ?_)
  · replace h_1 : v ≤ k := h_1
    refine z_ild rfl rfl ?_
    refine z_ret rfl ⟨_, rfl⟩ ?_
    have e : k = v := by omega
    subst e
    exact hQ
  · replace h_1 := Nat.not_le.mp h_1
    refine z_lld rfl rfl ?_
    refine z_ild rfl rfl ?_
    refine z_callF (as := [zJ x, zI (nI k)]) (r := []) (v := some (zI (bI (tst x k)))) rfl rfl rfl (Nat.le_of_ble_eq_true rfl) (by omega) (by omega) (rc1 rfl) (k_X5_holds (by omega)) ?_
    refine z_ifB0 rfl (fun b_2 => ?_) (fun b_2 => ?_)
    · refine z_inc (x' := (nI (k + 1))) (ls' := [some (zR (some s)), some (zJ x), none, some (zI (nI p)), some (zI (x4)), some (zI (oI (hmF r x k))), some (zI (nI (k + 1)))]) rfl rfl (nI_1 _) rfl ?_
      refine z_go rfl ?_
      have h9 : hmF r x (k + 1) = hmF r x k := by rw [hmF, if_neg (by rw [b_2]; nofun)]
      rw [h9] at ih
      exact ih (by omega)
    · refine z_ald rfl rfl ?_
      refine z_get rfl hs rfl ?_
      refine z_ild rfl rfl ?_
      refine z_ild rfl rfl ?_
      refine z_callF (as := [zR (some pg), zI (oI (hmF r x k)), zI (nI k)]) (r := []) (v := some (zI (nI (hiF r 0 (hmF r x k) k)))) rfl rfl rfl (Nat.le_of_ble_eq_true rfl) (by omega) (by omega) (rc0 rfl h1) (k_X2_higher hr (by omega) (fun j hj => by have := hm_lt k j hj; omega)) ?_
      refine z_ist (ls' := [some (zR (some s)), some (zJ x), none, some (zI (nI p)), some (zI (x4)), some (zI (nI (hiF r 0 (hmF r x k) k))), some (zI (nI k))]) rfl (Nat.le_of_ble_eq_true rfl) rfl ?_
      refine z_inc (x' := (nI (k + 1))) (ls' := [some (zR (some s)), some (zJ x), none, some (zI (nI p)), some (zI (x4)), some (zI (nI (hiF r 0 (hmF r x k) k))), some (zI (nI (k + 1)))]) rfl rfl (nI_1 _) rfl ?_
      refine z_go rfl ?_
      have h9 : hmF r x (k + 1) = some (hiF r 0 (hmF r x k) k) := by rw [hmF, if_pos b_2]
      refine z_ok (ls' := [some (zR (some s)), some (zJ x), none, some (zI (nI p)), some (zI x4), some (zI (oI (hmF r x (k + 1)))), some (zI (nI (k + 1)))]) (by rw [h9]; rfl) ?_
      exact ih (by omega)
set_option maxHeartbeats 1000000 in
theorem k_fm0 {d : Nat} {h : zH} {g : zH} {r : rA} {s pg po pt pc pp pl v p : Nat} {A : Nat → Nat} {fo x : Int64} (hr : rgI h g r v pg pl A) (hs : h s = some (srO pg po pt pc pp fo)) (hp : p < 8) : zPure (d + 5) 50 [zR (some s), zJ x, zI (nI p), zI (-1)] h (some (zI (oI (fmO r v x p none)))) := by
  have h1 := hr.1
  have hv := hr.2.2.1
  refine zCall.of (d := d + 4) (T := tb_50) (L := [some (zR (some s)), some (zJ x), none, some (zI (nI p)), some (zI (-1)), none, none]) (Nat.le_of_ble_eq_true rfl) rfl rfl ?_
  refine z_lld rfl rfl ?_
  refine z_ico (x := (nI 40)) rfl rfl ?_
  refine z_ild rfl rfl ?_
  refine z_ibi (v := (nI (40 + p))) rfl (nI_add _ _) ?_
  refine z_callF (as := [zJ x, zI (nI (40 + p))]) (r := []) (v := some (zI (bI (tst x (40 + p))))) rfl rfl rfl (Nat.le_of_ble_eq_true rfl) (by omega) (by omega) (rc1 rfl) (k_X5_holds (by omega)) ?_
  refine z_ifB0 rfl (fun b_1 => ?_) (fun b_1 => ?_)
  · refine z_ild rfl rfl ?_
    refine z_ico (x := (-1)) rfl rfl ?_
    refine z_cmp rfl (fun h_2 => ?_) (fun h_2 => ?_)
    · replace h_2 : (-1 : Int32) = -1 := h_2
      refine z_ico (x := (-1)) rfl rfl ?_
      refine z_ist (ls' := [some (zR (some s)), some (zJ x), none, some (zI (nI p)), some (zI (-1)), some (zI (-1)), none]) rfl (Nat.le_of_ble_eq_true rfl) rfl ?_
      refine z_ico (x := (nI 0)) rfl rfl ?_
      refine z_ist (ls' := [some (zR (some s)), some (zJ x), none, some (zI (nI p)), some (zI (-1)), some (zI (-1)), some (zI (nI 0))]) rfl (Nat.le_of_ble_eq_true rfl) rfl ?_
      have e0 : fmO r v x p none = hmF r x v := by unfold fmO; rw [if_neg (by rw [b_1]; nofun)]
      rw [e0]
      exact kl_fm hr hs hp h1 hv ⟨rfl, rfl⟩ 0 (by omega)
    · replace h_2 : ¬ ((-1 : Int32) = -1) := h_2
      exact absurd rfl h_2
  · refine z_ico (x := (nI 40)) rfl rfl ?_
    refine z_ild rfl rfl ?_
    refine z_ibi (v := (nI (40 + p))) rfl (nI_add _ _) ?_
    refine z_ret rfl ⟨_, rfl⟩ ?_
    exact ⟨rfl, by unfold fmO; rw [if_pos b_1]; rfl⟩
set_option maxHeartbeats 1000000 in
theorem k_fm1 {d : Nat} {h : zH} {g : zH} {r : rA} {s pg po pt pc pp pl v p : Nat} {A : Nat → Nat} {fo x : Int64} {q : Nat} (hr : rgI h g r v pg pl A) (hs : h s = some (srO pg po pt pc pp fo)) (hp : p < 8) (hq : q < 40) : zPure (d + 5) 50 [zR (some s), zJ x, zI (nI p), zI (nI q)] h (some (zI (oI (fmO r v x p (some q))))) := by
  have h1 := hr.1
  have hv := hr.2.2.1
  refine zCall.of (d := d + 4) (T := tb_50) (L := [some (zR (some s)), some (zJ x), none, some (zI (nI p)), some (zI (nI q)), none, none]) (Nat.le_of_ble_eq_true rfl) rfl rfl ?_
  refine z_lld rfl rfl ?_
  refine z_ico (x := (nI 40)) rfl rfl ?_
  refine z_ild rfl rfl ?_
  refine z_ibi (v := (nI (40 + p))) rfl (nI_add _ _) ?_
  refine z_callF (as := [zJ x, zI (nI (40 + p))]) (r := []) (v := some (zI (bI (tst x (40 + p))))) rfl rfl rfl (Nat.le_of_ble_eq_true rfl) (by omega) (by omega) (rc1 rfl) (k_X5_holds (by omega)) ?_
  refine z_ifB0 rfl (fun b_1 => ?_) (fun b_1 => ?_)
  · refine z_ild rfl rfl ?_
    refine z_ico (x := (-1)) rfl rfl ?_
    refine z_cmp rfl (fun h_2 => ?_) (fun h_2 => ?_)
    · replace h_2 : (nI q) = (-1) := h_2
      exact absurd h_2 (nI_ne1 (by omega))
    · replace h_2 : ¬ ((nI q) = (-1)) := h_2
      refine z_lld rfl rfl ?_
      refine z_ild rfl rfl ?_
      refine z_callF (as := [zJ x, zI (nI q)]) (r := []) (v := some (zI (bI (tst x q)))) rfl rfl rfl (Nat.le_of_ble_eq_true rfl) (by omega) (by omega) (rc1 rfl) (k_X5_holds (by omega)) ?_
      refine z_ifB0 rfl (fun b_3 => ?_) (fun b_3 => ?_)
      · refine z_ico (x := (-1)) rfl rfl ?_
        refine z_ist (ls' := [some (zR (some s)), some (zJ x), none, some (zI (nI p)), some (zI (nI q)), some (zI (-1)), none]) rfl (Nat.le_of_ble_eq_true rfl) rfl ?_
        refine z_ico (x := (nI 0)) rfl rfl ?_
        refine z_ist (ls' := [some (zR (some s)), some (zJ x), none, some (zI (nI p)), some (zI (nI q)), some (zI (-1)), some (zI (nI 0))]) rfl (Nat.le_of_ble_eq_true rfl) rfl ?_
        have e0 : fmO r v x p (some q) = hmF r x v := by unfold fmO; rw [if_neg (by rw [b_1]; nofun)]; dsimp only; rw [if_neg (by rw [b_3]; nofun)]
        rw [e0]
        exact kl_fm hr hs hp h1 hv ⟨rfl, rfl⟩ 0 (by omega)
      · refine z_ild rfl rfl ?_
        refine z_ret rfl ⟨_, rfl⟩ ?_
        exact ⟨rfl, by unfold fmO; rw [if_neg (by rw [b_1]; nofun)]; dsimp only; rw [if_pos b_3]; rfl⟩
  · refine z_ico (x := (nI 40)) rfl rfl ?_
    refine z_ild rfl rfl ?_
    refine z_ibi (v := (nI (40 + p))) rfl (nI_add _ _) ?_
    refine z_ret rfl ⟨_, rfl⟩ ?_
    exact ⟨rfl, by unfold fmO; rw [if_pos b_1]; rfl⟩
theorem k_X5_foremost {d : Nat} {h : zH} {g : zH} {r : rA} {s pg po pt pc pp pl v p : Nat} {A : Nat → Nat} {fo x : Int64} {pin : Option Nat} (hr : rgI h g r v pg pl A) (hs : h s = some (srO pg po pt pc pp fo)) (hp : p < 8) (hq : ∀ q, pin = some q → q < 40) : zPure (d + 5) 50 [zR (some s), zJ x, zI (nI p), zI (oI pin)] h (some (zI (oI (fmO r v x p pin)))) := by
  cases pin with
  | none => exact k_fm0 hr hs hp
  | some q => exact k_fm1 hr hs hp (hq q rfl)
