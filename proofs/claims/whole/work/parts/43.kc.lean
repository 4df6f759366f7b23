/-- a span: named, low, itself, high, itself -/
abbrev sV : Type := Option vV × Option vV × Bool × Option vV × Bool
def ovAt (h : zH) (a : Option Nat) (o : Option vV) : Prop := match o with
  | none => a = none
  | some V => ∃ q, a = some q ∧ vrAt h q V
def spAt (h : zH) (p : Nat) (s : sV) : Prop := ∃ a b c, h p = some (zO 6 [zR a, zR b, zI (bI s.2.2.1), zR c, zI (bI s.2.2.2.2)]) ∧ ovAt h a s.1 ∧ ovAt h b s.2.1 ∧ ovAt h c s.2.2.2.1
def cvL (V : vV) (lo : Option vV) (wl : Bool) : Bool := match lo with
  | none => true
  | some L => !decide (ordV V L < 0) && (!decide (ordV V L = 0) || wl)
def cvH (V : vV) (hi : Option vV) (wh : Bool) : Bool := match hi with
  | none => true
  | some H => !decide (0 < ordV V H) && (!decide (ordV V H = 0) || wh)
def cvF (s : sV) (V : vV) : Bool := cvL V s.2.1 s.2.2.1 && cvH V s.2.2.2.1 s.2.2.2.2
def nwF (s : sV) (V : vV) : Bool := match s.1 with
  | none => false
  | some N => !decide (N.2.2.2.1 = 0) && decide (onV N V = 0)
def alC (sp : Nat → sV) (V : vV) : Nat → Bool
  | 0 => true
  | k + 1 => alC sp V k && cvF (sp k) V
def nmC (sp : Nat → sV) (V : vV) : Nat → Bool
  | 0 => decide (V.2.2.2.1 = 0)
  | k + 1 => nmC sp V k || nwF (sp k) V
/-- a requirement: how many comparators, and their spans -/
abbrev qV : Type := Nat × (Nat → sV)
def imF (q : qV) (V : vV) : Bool := alC q.2 V q.1 && nmC q.2 V q.1
theorem alC_f {sp : Nat → sV} {V : vV} {k : Nat} (h : alC sp V k = false) : ∀ m, alC sp V (k + m) = false
  | 0 => h
  | m + 1 => by rw [← Nat.add_assoc, alC, alC_f h m]; rfl
def rqAt (h : zH) (p : Nat) (q : qV) : Prop := ∃ pa f, h p = some (zO 4 [zR (some pa), zI (nI q.1)]) ∧ h pa = some (zaR 6 4 f) ∧ q.1 ≤ 4 ∧ ∀ j, j < q.1 → ∃ a, f j = some a ∧ spAt h a (q.2 j)
theorem sp_cell {h : zH} {p : Nat} {s : sV} (hv : spAt h p s) : ∃ fs, h p = some (zO 6 fs) := by
  obtain ⟨_, _, _, e, _⟩ := hv
  exact ⟨_, e⟩
theorem rt_t {x : Bool} (e : x = true) : (Sum.inl (some (zI (nI 1))) : Option zV ⊕ Nat) = Sum.inl (some (zI (bI x))) := by subst e; rfl
theorem rt_f {x : Bool} (e : x = false) : (Sum.inl (some (zI (nI 0))) : Option zV ⊕ Nat) = Sum.inl (some (zI (bI x))) := by subst e; rfl
def kcF (V : vV) (n : Nat) : Nat := if ¬ V.1 = 0 ∨ n = 1 then 1 else if ¬ V.2.1 = 0 ∨ n = 2 then 2 else 3
set_option maxHeartbeats 1000000 in
theorem k_cov00 {d : Nat} {h : zH} {p1 v l1 l2 : Nat} {a : Option Nat} {wl wh : Bool} {V L H : vV} (h1 : h p1 = some (zO 6 [zR a, zR none, zI (bI wl), zR none, zI (bI wh)])) (hv : vrAt h v V) : zPure (d + 4) 64 [zR (some p1), zR (some v)] h (some (zI (bI (cvL V none wl && cvH V none wh)))) := by
  obtain ⟨fsv, hvc⟩ := vr_cell hv
  refine zCall.of (d := d + 3) (T := tb_64) (L := [some (zR (some p1)), some (zR (some v)), none]) (Nat.le_of_ble_eq_true rfl) rfl rfl ?_
  refine z_ald rfl rfl ?_
  refine z_get rfl h1 rfl ?_
  refine z_nlZ rfl ?_
  refine z_ald rfl rfl ?_
  refine z_get rfl h1 rfl ?_
  refine z_nlZ rfl ?_
  refine z_ico (x := (nI 1)) rfl rfl ?_
  refine z_ret rfl ⟨_, rfl, Or.inr rfl⟩ ?_
  exact ⟨rfl, rt_t (by simp [cvL, cvH])⟩
set_option maxHeartbeats 1000000 in
theorem k_cov01 {d : Nat} {h : zH} {p1 v l1 l2 : Nat} {a : Option Nat} {wl wh : Bool} {V L H : vV} (h1 : h p1 = some (zO 6 [zR a, zR none, zI (bI wl), zR (some l2), zI (bI wh)])) (hv : vrAt h v V) (hh : vrAt h l2 H) : zPure (d + 4) 64 [zR (some p1), zR (some v)] h (some (zI (bI (cvL V none wl && cvH V (some H) wh)))) := by
  obtain ⟨fsv, hvc⟩ := vr_cell hv
  refine zCall.of (d := d + 3) (T := tb_64) (L := [some (zR (some p1)), some (zR (some v)), none]) (Nat.le_of_ble_eq_true rfl) rfl rfl ?_
  refine z_ald rfl rfl ?_
  refine z_get rfl h1 rfl ?_
  refine z_nlZ rfl ?_
  refine z_ald rfl rfl ?_
  refine z_get rfl h1 rfl ?_
  refine z_nlP rfl ?_
  refine z_ald rfl rfl ?_
  refine z_ald rfl rfl ?_
  refine z_get rfl h1 rfl ?_
  refine z_callF (as := [zR (some v), zR (some l2)]) (r := []) (v := some (zI (ordV V H))) rfl rfl rfl (Nat.le_of_ble_eq_true rfl) (by omega) (by omega) (rc0 rfl hvc) (k_X7_order hv hh) ?_
  refine z_ist (ls' := [some (zR (some p1)), some (zR (some v)), some (zI (ordV V H))]) rfl (Nat.le_of_ble_eq_true rfl) rfl ?_
  refine z_ild rfl rfl ?_
  refine z_if rfl (fun h_1 => ?_) (fun h_1 => ?_)
  · replace h_1 : 0 < (ordV V H) := h_1
    refine z_ico (x := (nI 0)) rfl rfl ?_
    refine z_ret rfl ⟨_, rfl, Or.inl rfl⟩ ?_
    exact ⟨rfl, rt_f (by simp [cvL, cvH, h_1])⟩
  · replace h_1 : ¬ (0 < (ordV V H)) := h_1
    refine z_ild rfl rfl ?_
    refine z_if rfl (fun h_2 => ?_) (fun h_2 => ?_)
    · replace h_2 : ¬ (ordV V H) = 0 := h_2
      refine z_ico (x := (nI 1)) rfl rfl ?_
      refine z_ret rfl ⟨_, rfl, Or.inr rfl⟩ ?_
      exact ⟨rfl, rt_t (by simp [cvL, cvH, h_1, h_2])⟩
    · replace h_2 : (ordV V H) = 0 := Decidable.of_not_not h_2
      refine z_ald rfl rfl ?_
      refine z_get rfl h1 rfl ?_
      refine z_ifB1 rfl (fun h_3 => ?_) (fun h_3 => ?_)
      · refine z_ico (x := (nI 1)) rfl rfl ?_
        refine z_ret rfl ⟨_, rfl, Or.inr rfl⟩ ?_
        exact ⟨rfl, rt_t (by simp [cvL, cvH, h_1, h_2, h_3])⟩
      · refine z_ico (x := (nI 0)) rfl rfl ?_
        refine z_ret rfl ⟨_, rfl, Or.inl rfl⟩ ?_
        exact ⟨rfl, rt_f (by simp [cvL, cvH, h_1, h_2, h_3])⟩
set_option maxHeartbeats 1000000 in
theorem k_cov10 {d : Nat} {h : zH} {p1 v l1 l2 : Nat} {a : Option Nat} {wl wh : Bool} {V L H : vV} (h1 : h p1 = some (zO 6 [zR a, zR (some l1), zI (bI wl), zR none, zI (bI wh)])) (hv : vrAt h v V) (hl : vrAt h l1 L) : zPure (d + 4) 64 [zR (some p1), zR (some v)] h (some (zI (bI (cvL V (some L) wl && cvH V none wh)))) := by
  obtain ⟨fsv, hvc⟩ := vr_cell hv
  refine zCall.of (d := d + 3) (T := tb_64) (L := [some (zR (some p1)), some (zR (some v)), none]) (Nat.le_of_ble_eq_true rfl) rfl rfl ?_
  refine z_ald rfl rfl ?_
  refine z_get rfl h1 rfl ?_
  refine z_nlP rfl ?_
  refine z_ald rfl rfl ?_
  refine z_ald rfl rfl ?_
  refine z_get rfl h1 rfl ?_
  refine z_callF (as := [zR (some v), zR (some l1)]) (r := []) (v := some (zI (ordV V L))) rfl rfl rfl (Nat.le_of_ble_eq_true rfl) (by omega) (by omega) (rc0 rfl hvc) (k_X7_order hv hl) ?_
  refine z_ist (ls' := [some (zR (some p1)), some (zR (some v)), some (zI (ordV V L))]) rfl (Nat.le_of_ble_eq_true rfl) rfl ?_
  refine z_ild rfl rfl ?_
  refine z_if rfl (fun h_1 => ?_) (fun h_1 => ?_)
  · replace h_1 : (ordV V L) < 0 := h_1
    refine z_ico (x := (nI 0)) rfl rfl ?_
    refine z_ret rfl ⟨_, rfl, Or.inl rfl⟩ ?_
    exact ⟨rfl, rt_f (by simp [cvL, cvH, h_1])⟩
  · replace h_1 : ¬ ((ordV V L) < 0) := h_1
    refine z_ild rfl rfl ?_
    refine z_if rfl (fun h_2 => ?_) (fun h_2 => ?_)
    · replace h_2 : ¬ (ordV V L) = 0 := h_2
      refine z_ald rfl rfl ?_
      refine z_get rfl h1 rfl ?_
      refine z_nlZ rfl ?_
      refine z_ico (x := (nI 1)) rfl rfl ?_
      refine z_ret rfl ⟨_, rfl, Or.inr rfl⟩ ?_
      exact ⟨rfl, rt_t (by simp [cvL, cvH, h_1, h_2])⟩
    · replace h_2 : (ordV V L) = 0 := Decidable.of_not_not h_2
      refine z_ald rfl rfl ?_
      refine z_get rfl h1 rfl ?_
      refine z_ifB1 rfl (fun h_3 => ?_) (fun h_3 => ?_)
      · refine z_ald rfl rfl ?_
        refine z_get rfl h1 rfl ?_
        refine z_nlZ rfl ?_
        refine z_ico (x := (nI 1)) rfl rfl ?_
        refine z_ret rfl ⟨_, rfl, Or.inr rfl⟩ ?_
        exact ⟨rfl, rt_t (by simp [cvL, cvH, h_1, h_2, h_3])⟩
      · refine z_ico (x := (nI 0)) rfl rfl ?_
        refine z_ret rfl ⟨_, rfl, Or.inl rfl⟩ ?_
        exact ⟨rfl, rt_f (by simp [cvL, cvH, h_1, h_2, h_3])⟩
set_option maxHeartbeats 1000000 in
theorem k_cov11 {d : Nat} {h : zH} {p1 v l1 l2 : Nat} {a : Option Nat} {wl wh : Bool} {V L H : vV} (h1 : h p1 = some (zO 6 [zR a, zR (some l1), zI (bI wl), zR (some l2), zI (bI wh)])) (hv : vrAt h v V) (hl : vrAt h l1 L) (hh : vrAt h l2 H) : zPure (d + 4) 64 [zR (some p1), zR (some v)] h (some (zI (bI (cvL V (some L) wl && cvH V (some H) wh)))) := by
  obtain ⟨fsv, hvc⟩ := vr_cell hv
  refine zCall.of (d := d + 3) (T := tb_64) (L := [some (zR (some p1)), some (zR (some v)), none]) (Nat.le_of_ble_eq_true rfl) rfl rfl ?_
  refine z_ald rfl rfl ?_
  refine z_get rfl h1 rfl ?_
  refine z_nlP rfl ?_
  refine z_ald rfl rfl ?_
  refine z_ald rfl rfl ?_
  refine z_get rfl h1 rfl ?_
  refine z_callF (as := [zR (some v), zR (some l1)]) (r := []) (v := some (zI (ordV V L))) rfl rfl rfl (Nat.le_of_ble_eq_true rfl) (by omega) (by omega) (rc0 rfl hvc) (k_X7_order hv hl) ?_
  refine z_ist (ls' := [some (zR (some p1)), some (zR (some v)), some (zI (ordV V L))]) rfl (Nat.le_of_ble_eq_true rfl) rfl ?_
  refine z_ild rfl rfl ?_
  refine z_if rfl (fun h_1 => ?_) (fun h_1 => ?_)
  · replace h_1 : (ordV V L) < 0 := h_1
    refine z_ico (x := (nI 0)) rfl rfl ?_
    refine z_ret rfl ⟨_, rfl, Or.inl rfl⟩ ?_
    exact ⟨rfl, rt_f (by simp [cvL, cvH, h_1])⟩
  · replace h_1 : ¬ ((ordV V L) < 0) := h_1
    refine z_ild rfl rfl ?_
    refine z_if rfl (fun h_2 => ?_) (fun h_2 => ?_)
    · replace h_2 : ¬ (ordV V L) = 0 := h_2
      refine z_ald rfl rfl ?_
      refine z_get rfl h1 rfl ?_
      refine z_nlP rfl ?_
      refine z_ald rfl rfl ?_
      refine z_ald rfl rfl ?_
      refine z_get rfl h1 rfl ?_
      refine z_callF (as := [zR (some v), zR (some l2)]) (r := []) (v := some (zI (ordV V H))) rfl rfl rfl (Nat.le_of_ble_eq_true rfl) (by omega) (by omega) (rc0 rfl hvc) (k_X7_order hv hh) ?_
      refine z_ist (ls' := [some (zR (some p1)), some (zR (some v)), some (zI (ordV V H))]) rfl (Nat.le_of_ble_eq_true rfl) rfl ?_
      refine z_ild rfl rfl ?_
      refine z_if rfl (fun h_3 => ?_) (fun h_3 => ?_)
      · replace h_3 : 0 < (ordV V H) := h_3
        refine z_ico (x := (nI 0)) rfl rfl ?_
        refine z_ret rfl ⟨_, rfl, Or.inl rfl⟩ ?_
        exact ⟨rfl, rt_f (by simp [cvL, cvH, h_1, h_2, h_3])⟩
      · replace h_3 : ¬ (0 < (ordV V H)) := h_3
        refine z_ild rfl rfl ?_
        refine z_if rfl (fun h_4 => ?_) (fun h_4 => ?_)
        · replace h_4 : ¬ (ordV V H) = 0 := h_4
          refine z_ico (x := (nI 1)) rfl rfl ?_
          refine z_ret rfl ⟨_, rfl, Or.inr rfl⟩ ?_
          exact ⟨rfl, rt_t (by simp [cvL, cvH, h_1, h_2, h_3, h_4])⟩
        · replace h_4 : (ordV V H) = 0 := Decidable.of_not_not h_4
          refine z_ald rfl rfl ?_
          refine z_get rfl h1 rfl ?_
          refine z_ifB1 rfl (fun h_5 => ?_) (fun h_5 => ?_)
          · refine z_ico (x := (nI 1)) rfl rfl ?_
            refine z_ret rfl ⟨_, rfl, Or.inr rfl⟩ ?_
            exact ⟨rfl, rt_t (by simp [cvL, cvH, h_1, h_2, h_3, h_4, h_5])⟩
          · refine z_ico (x := (nI 0)) rfl rfl ?_
            refine z_ret rfl ⟨_, rfl, Or.inl rfl⟩ ?_
            exact ⟨rfl, rt_f (by simp [cvL, cvH, h_1, h_2, h_3, h_4, h_5])⟩
    · replace h_2 : (ordV V L) = 0 := Decidable.of_not_not h_2
      refine z_ald rfl rfl ?_
      refine z_get rfl h1 rfl ?_
      refine z_ifB1 rfl (fun h_6 => ?_) (fun h_6 => ?_)
      · refine z_ald rfl rfl ?_
        refine z_get rfl h1 rfl ?_
        refine z_nlP rfl ?_
        refine z_ald rfl rfl ?_
        refine z_ald rfl rfl ?_
        refine z_get rfl h1 rfl ?_
        refine z_callF (as := [zR (some v), zR (some l2)]) (r := []) (v := some (zI (ordV V H))) rfl rfl rfl (Nat.le_of_ble_eq_true rfl) (by omega) (by omega) (rc0 rfl hvc) (k_X7_order hv hh) ?_
        refine z_ist (ls' := [some (zR (some p1)), some (zR (some v)), some (zI (ordV V H))]) rfl (Nat.le_of_ble_eq_true rfl) rfl ?_
        refine z_ild rfl rfl ?_
        refine z_if rfl (fun h_7 => ?_) (fun h_7 => ?_)
        · replace h_7 : 0 < (ordV V H) := h_7
          refine z_ico (x := (nI 0)) rfl rfl ?_
          refine z_ret rfl ⟨_, rfl, Or.inl rfl⟩ ?_
          exact ⟨rfl, rt_f (by simp [cvL, cvH, h_1, h_2, h_6, h_7])⟩
        · replace h_7 : ¬ (0 < (ordV V H)) := h_7
          refine z_ild rfl rfl ?_
          refine z_if rfl (fun h_8 => ?_) (fun h_8 => ?_)
          · replace h_8 : ¬ (ordV V H) = 0 := h_8
            refine z_ico (x := (nI 1)) rfl rfl ?_
            refine z_ret rfl ⟨_, rfl, Or.inr rfl⟩ ?_
            exact ⟨rfl, rt_t (by simp [cvL, cvH, h_1, h_2, h_6, h_7, h_8])⟩
          · replace h_8 : (ordV V H) = 0 := Decidable.of_not_not h_8
            refine z_ald rfl rfl ?_
            refine z_get rfl h1 rfl ?_
            refine z_ifB1 rfl (fun h_9 => ?_) (fun h_9 => ?_)
            · refine z_ico (x := (nI 1)) rfl rfl ?_
              refine z_ret rfl ⟨_, rfl, Or.inr rfl⟩ ?_
              exact ⟨rfl, rt_t (by simp [cvL, cvH, h_1, h_2, h_6, h_7, h_8, h_9])⟩
            · refine z_ico (x := (nI 0)) rfl rfl ?_
              refine z_ret rfl ⟨_, rfl, Or.inl rfl⟩ ?_
              exact ⟨rfl, rt_f (by simp [cvL, cvH, h_1, h_2, h_6, h_7, h_8, h_9])⟩
      · refine z_ico (x := (nI 0)) rfl rfl ?_
        refine z_ret rfl ⟨_, rfl, Or.inl rfl⟩ ?_
        exact ⟨rfl, rt_f (by simp [cvL, cvH, h_1, h_2, h_6])⟩
theorem k_X6_covers {d : Nat} {h : zH} {p1 v : Nat} {s : sV} {V : vV} (hs : spAt h p1 s) (hv : vrAt h v V) : zPure (d + 4) 64 [zR (some p1), zR (some v)] h (some (zI (bI (cvF s V)))) := by
  obtain ⟨nm, lo, wl, hi, wh⟩ := s
  obtain ⟨a, b, c, e, _, hb, hc⟩ := hs
  cases lo with
  | none =>
    cases hi with
    | none =>
      cases hb
      cases hc
      exact k_cov00 (l1 := 0) (l2 := 0) (L := V) (H := V) e hv
    | some H =>
      cases hb
      obtain ⟨l2, e2, hh⟩ := hc
      cases e2
      exact k_cov01 (l1 := 0) (L := V) e hv hh
  | some L =>
    obtain ⟨l1, e1, hl⟩ := hb
    cases e1
    cases hi with
    | none =>
      cases hc
      exact k_cov10 (l2 := 0) (H := V) e hv hl
    | some H =>
      obtain ⟨l2, e2, hh⟩ := hc
      cases e2
      exact k_cov11 e hv hl hh
set_option maxHeartbeats 1000000 in
theorem k_nam0 {d : Nat} {h : zH} {p1 v l1 : Nat} {a b : Option Nat} {wl wh : Bool} {V L : vV} (h1 : h p1 = some (zO 6 [zR none, zR a, zI (bI wl), zR b, zI (bI wh)])) (hv : vrAt h v V) : zPure (d + 3) 65 [zR (some p1), zR (some v)] h (some (zI (bI false))) := by
  obtain ⟨fsv, hvc⟩ := vr_cell hv
  refine zCall.of (d := d + 2) (T := tb_65) (L := [some (zR (some p1)), some (zR (some v))]) (Nat.le_of_ble_eq_true rfl) rfl rfl ?_
  refine z_ald rfl rfl ?_
  refine z_get rfl h1 rfl ?_
  refine z_nlZ rfl ?_
  refine z_ico (x := (nI 0)) rfl rfl ?_
  refine z_ret rfl ⟨_, rfl, Or.inl rfl⟩ ?_
  exact ⟨rfl, rfl⟩
set_option maxHeartbeats 1000000 in
theorem k_nam1 {d : Nat} {h : zH} {p1 v l1 : Nat} {a b : Option Nat} {wl wh : Bool} {V L : vV} (h1 : h p1 = some (zO 6 [zR (some l1), zR a, zI (bI wl), zR b, zI (bI wh)])) (hv : vrAt h v V) (hl : vrAt h l1 L) : zPure (d + 3) 65 [zR (some p1), zR (some v)] h (some (zI (bI (!decide (L.2.2.2.1 = 0) && decide (onV L V = 0))))) := by
  obtain ⟨fsv, hvc⟩ := vr_cell hv
  obtain ⟨fsl, hlc⟩ := vr_cell hl
  refine zCall.of (d := d + 2) (T := tb_65) (L := [some (zR (some p1)), some (zR (some v))]) (Nat.le_of_ble_eq_true rfl) rfl rfl ?_
  refine z_ald rfl rfl ?_
  refine z_get rfl h1 rfl ?_
  refine z_nlP rfl ?_
  refine z_ald rfl rfl ?_
  refine z_get rfl h1 rfl ?_
  refine z_callF (as := [zR (some l1)]) (r := []) (v := some (zI (bI (!decide (L.2.2.2.1 = 0))))) rfl rfl rfl (Nat.le_of_ble_eq_true rfl) (by omega) (by omega) (rc0 rfl hlc) (k_X7_hasWords hl) ?_
  refine z_ifB0 rfl (fun h_1 => ?_) (fun h_1 => ?_)
  · refine z_ico (x := (nI 0)) rfl rfl ?_
    refine z_ret rfl ⟨_, rfl, Or.inl rfl⟩ ?_
    exact ⟨rfl, rt_f (by rw [h_1]; rfl)⟩
  · refine z_ald rfl rfl ?_
    refine z_get rfl h1 rfl ?_
    refine z_ald rfl rfl ?_
    refine z_callF (as := [zR (some l1), zR (some v)]) (r := []) (v := some (zI (onV L V))) rfl rfl rfl (Nat.le_of_ble_eq_true rfl) (by omega) (by omega) (rc0 rfl hlc) (k_X7_orderOfNumbers hl hv) ?_
    refine z_if rfl (fun h_2 => ?_) (fun h_2 => ?_)
    · replace h_2 : ¬ (onV L V) = 0 := h_2
      refine z_ico (x := (nI 0)) rfl rfl ?_
      refine z_ret rfl ⟨_, rfl, Or.inl rfl⟩ ?_
      exact ⟨rfl, rt_f (by rw [h_1, decide_eq_false h_2]; rfl)⟩
    · replace h_2 : (onV L V) = 0 := Decidable.of_not_not h_2
      refine z_ico (x := (nI 1)) rfl rfl ?_
      refine z_go rfl ?_
      refine z_ret rfl ⟨_, rfl, Or.inr rfl⟩ ?_
      exact ⟨rfl, rt_t (by rw [h_1, decide_eq_true h_2]; rfl)⟩
theorem k_X6_namesWordsOf {d : Nat} {h : zH} {p1 v : Nat} {s : sV} {V : vV} (hs : spAt h p1 s) (hv : vrAt h v V) : zPure (d + 3) 65 [zR (some p1), zR (some v)] h (some (zI (bI (nwF s V)))) := by
  obtain ⟨nm, lo, wl, hi, wh⟩ := s
  obtain ⟨a, b, c, e, ha, _, _⟩ := hs
  cases nm with
  | none =>
    cases ha
    exact k_nam0 (l1 := 0) (L := V) e hv
  | some L =>
    obtain ⟨l1, e1, hl⟩ := ha
    cases e1
    exact k_nam1 e hv hl
set_option maxHeartbeats 1000000 in
theorem kl_met {d : Nat} {Q : zQ} {h : zH} {p1 pa v n : Nat} {f : Nat → Option Nat} {sp : Nat → sV} {V : vV} {fsv : List zV} (h1 : h p1 = some (zO 4 [zR (some pa), zI (nI n)])) (h2 : h pa = some (zaR 6 4 f)) (hn : n ≤ 4) (hs : ∀ j, j < n → ∃ a, f j = some a ∧ spAt h a (sp j)) (hv : vrAt h v V) (hvc : h v = some (zO 7 fsv)) (hQ : Q h (.inl (some (zI (bI (imF (n, sp) V)))))) : ∀ k, k ≤ n → ∀ (ha : alC sp V k = true), zEv (d + 4) tb_42 0 0 Q 15 [some (zR (some p1)), some (zR (some v)), some (zI (bI (nmC sp V k))), some (zI (nI k))] [] h 0 0 := by
  refine dn n (fun k hk ih ha => ?_)
  refine z_ild rfl rfl ?_
  refine z_ald rfl rfl ?_
  refine z_get rfl h1 rfl ?_
  refine z_cmpN (by omega) (by omega) rfl (fun h_1 => ?_) (fun h_1 => ?_)
  · replace h_1 : n ≤ k := h_1
    refine z_ild rfl rfl ?_
    refine z_ret rfl ⟨_, rfl, bI_01 _⟩ ?_
    have h3 : k = n := by omega
    subst h3
    have h9 : imF (k, sp) V = nmC sp V k := by
      show (alC sp V k && nmC sp V k) = nmC sp V k
      rw [ha]
      rfl
    rw [h9] at hQ
    exact hQ
  · replace h_1 := Nat.not_le.mp h_1
    obtain ⟨q, eq, hsp⟩ := hs k (by omega)
    obtain ⟨fsq, hqc⟩ := sp_cell hsp
    refine z_ald rfl rfl ?_
    refine z_get rfl h1 rfl ?_
    refine z_ild rfl rfl ?_
    refine z_aald rfl h2 (by omega) (by omega) ?_
    refine z_top (v2 := zR (some q)) (congrArg zR eq) ?_
    refine z_ald rfl rfl ?_
    refine z_callF (as := [zR (some q), zR (some v)]) (r := []) (v := some (zI (bI (cvF (sp k) V)))) rfl rfl rfl (Nat.le_of_ble_eq_true rfl) (by omega) (by omega) (rc0 rfl hqc) (k_X6_covers hsp hv) ?_
    refine z_ifB1 rfl (fun h_2 => ?_) (fun h_2 => ?_)
    · refine z_ild rfl rfl ?_
      refine z_ifB1 rfl (fun h_3 => ?_) (fun h_3 => ?_)
      · refine z_ico (x := (nI 1)) rfl rfl ?_
        refine z_go rfl ?_
        refine z_ist (ls' := [some (zR (some p1)), some (zR (some v)), some (zI (nI 1)), some (zI (nI k))]) rfl (Nat.le_of_ble_eq_true rfl) rfl ?_
        refine z_inc (x' := (nI (k + 1))) (ls' := [some (zR (some p1)), some (zR (some v)), some (zI (nI 1)), some (zI (nI (k + 1)))]) rfl rfl (nI_1 _) rfl ?_
        refine z_go rfl ?_
        have h9 : nmC sp V (k + 1) = true := by rw [nmC, h_3]; rfl
        rw [h9] at ih
        exact ih (by omega) (by rw [alC, ha, h_2]; rfl)
      · refine z_ald rfl rfl ?_
        refine z_get rfl h1 rfl ?_
        refine z_ild rfl rfl ?_
        refine z_aald rfl h2 (by omega) (by omega) ?_
        refine z_top (v2 := zR (some q)) (congrArg zR eq) ?_
        refine z_ald rfl rfl ?_
        refine z_callF (as := [zR (some q), zR (some v)]) (r := []) (v := some (zI (bI (nwF (sp k) V)))) rfl rfl rfl (Nat.le_of_ble_eq_true rfl) (by omega) (by omega) (rc0 rfl hqc) (k_X6_namesWordsOf hsp hv) ?_
        refine z_ifB0 rfl (fun h_4 => ?_) (fun h_4 => ?_)
        · refine z_ico (x := (nI 0)) rfl rfl ?_
          refine z_ist (ls' := [some (zR (some p1)), some (zR (some v)), some (zI (nI 0)), some (zI (nI k))]) rfl (Nat.le_of_ble_eq_true rfl) rfl ?_
          refine z_inc (x' := (nI (k + 1))) (ls' := [some (zR (some p1)), some (zR (some v)), some (zI (nI 0)), some (zI (nI (k + 1)))]) rfl rfl (nI_1 _) rfl ?_
          refine z_go rfl ?_
          have h9 : nmC sp V (k + 1) = false := by rw [nmC, h_3, h_4]; rfl
          rw [h9] at ih
          exact ih (by omega) (by rw [alC, ha, h_2]; rfl)
        · refine z_ico (x := (nI 1)) rfl rfl ?_
          refine z_go rfl ?_
          refine z_ist (ls' := [some (zR (some p1)), some (zR (some v)), some (zI (nI 1)), some (zI (nI k))]) rfl (Nat.le_of_ble_eq_true rfl) rfl ?_
          refine z_inc (x' := (nI (k + 1))) (ls' := [some (zR (some p1)), some (zR (some v)), some (zI (nI 1)), some (zI (nI (k + 1)))]) rfl rfl (nI_1 _) rfl ?_
          refine z_go rfl ?_
          have h9 : nmC sp V (k + 1) = true := by rw [nmC, h_3, h_4]; rfl
          rw [h9] at ih
          exact ih (by omega) (by rw [alC, ha, h_2]; rfl)
    · refine z_ico (x := (nI 0)) rfl rfl ?_
      refine z_ret rfl ⟨_, rfl, Or.inl rfl⟩ ?_
      have h8 := alC_f (sp := sp) (V := V) (k := k + 1) (by rw [alC, ha, h_2]; rfl) (n - (k + 1))
      rw [show k + 1 + (n - (k + 1)) = n by omega] at h8
      have h9 : imF (n, sp) V = false := by
        show (alC sp V n && nmC sp V n) = false
        rw [h8]
        rfl
      rw [h9] at hQ
      exact hQ
set_option maxHeartbeats 1000000 in
theorem k_X4_isMetBy {d : Nat} {h : zH} {p1 v : Nat} {q : qV} {V : vV} (hq : rqAt h p1 q) (hv : vrAt h v V) : zPure (d + 5) 42 [zR (some p1), zR (some v)] h (some (zI (bI (imF q V)))) := by
  obtain ⟨n, sp⟩ := q
  obtain ⟨pa, f, h1, h2, hn, hs⟩ := hq
  obtain ⟨fsv, hvc⟩ := vr_cell hv
  refine zCall.of (d := d + 4) (T := tb_42) (L := [some (zR (some p1)), some (zR (some v)), none, none]) (Nat.le_of_ble_eq_true rfl) rfl rfl ?_
  refine z_ald rfl rfl ?_
  refine z_callF (as := [zR (some v)]) (r := []) (v := some (zI (bI (!decide (V.2.2.2.1 = 0))))) rfl rfl rfl (Nat.le_of_ble_eq_true rfl) (by omega) (by omega) (rc0 rfl hvc) (k_X7_hasWords hv) ?_
  refine z_ifB1 rfl (fun h_1 => ?_) (fun h_1 => ?_)
  · refine z_ico (x := (nI 0)) rfl rfl ?_
    refine z_ist (ls' := [some (zR (some p1)), some (zR (some v)), some (zI (nI 0)), none]) rfl (Nat.le_of_ble_eq_true rfl) rfl ?_
    refine z_ico (x := (nI 0)) rfl rfl ?_
    refine z_ist (ls' := [some (zR (some p1)), some (zR (some v)), some (zI (nI 0)), some (zI (nI 0))]) rfl (Nat.le_of_ble_eq_true rfl) rfl ?_
    have h0 : nmC sp V 0 = false := by
      show decide (V.2.2.2.1 = 0) = false
      simpa using h_1
    have h9 := kl_met (d := d) (Q := fun h' o => h' = h ∧ o = Sum.inl (some (zI (bI (imF (n, sp) V))))) h1 h2 hn hs hv hvc ⟨rfl, rfl⟩ 0 (by omega) rfl
    rw [h0] at h9
    exact h9
  · refine z_ico (x := (nI 1)) rfl rfl ?_
    refine z_go rfl ?_
    refine z_ist (ls' := [some (zR (some p1)), some (zR (some v)), some (zI (nI 1)), none]) rfl (Nat.le_of_ble_eq_true rfl) rfl ?_
    refine z_ico (x := (nI 0)) rfl rfl ?_
    refine z_ist (ls' := [some (zR (some p1)), some (zR (some v)), some (zI (nI 1)), some (zI (nI 0))]) rfl (Nat.le_of_ble_eq_true rfl) rfl ?_
    have h0 : nmC sp V 0 = true := by
      show decide (V.2.2.2.1 = 0) = true
      simpa using h_1
    have h9 := kl_met (d := d) (Q := fun h' o => h' = h ∧ o = Sum.inl (some (zI (bI (imF (n, sp) V))))) h1 h2 hn hs hv hvc ⟨rfl, rfl⟩ 0 (by omega) rfl
    rw [h0] at h9
    exact h9
set_option maxHeartbeats 1000000 in
theorem k_X6_keptByCaret {d : Nat} {h : zH} {p1 n : Nat} {V : vV} (hv : vrAt h p1 V) (hn : n ≤ 3) : zPure (d + 1) 61 [zR (some p1), zI (nI n)] h (some (zI (nI (kcF V n)))) := by
  obtain ⟨w1, f1, L1, pos1, h1, h2, g1⟩ := hv
  refine zCall.of (d := d) (T := tb_61) (L := [some (zR (some p1)), some (zI (nI n))]) (Nat.le_of_ble_eq_true rfl) rfl rfl ?_
  refine z_ald rfl rfl ?_
  refine z_get rfl h1 rfl ?_
  refine z_if rfl (fun h_1 => ?_) (fun h_1 => ?_)
  · replace h_1 : ¬ (V.1) = 0 := h_1
    refine z_ico (x := (nI 1)) rfl rfl ?_
    refine z_ret rfl ⟨_, rfl⟩ ?_
    exact ⟨rfl, by simp [kcF, h_1]⟩
  · replace h_1 : (V.1) = 0 := Decidable.of_not_not h_1
    refine z_ild rfl rfl ?_
    refine z_ico (x := (nI 1)) rfl rfl ?_
    refine z_cmpN (by omega) (by omega) rfl (fun h_2 => ?_) (fun h_2 => ?_)
    · replace h_2 : ¬ n = 1 := h_2
      refine z_ald rfl rfl ?_
      refine z_get rfl h1 rfl ?_
      refine z_if rfl (fun h_3 => ?_) (fun h_3 => ?_)
      · replace h_3 : ¬ (V.2.1) = 0 := h_3
        refine z_ico (x := (nI 2)) rfl rfl ?_
        refine z_go rfl ?_
        refine z_ret rfl ⟨_, rfl⟩ ?_
        exact ⟨rfl, by simp [kcF, h_1, h_2, h_3]⟩
      · replace h_3 : (V.2.1) = 0 := Decidable.of_not_not h_3
        refine z_ild rfl rfl ?_
        refine z_ico (x := (nI 2)) rfl rfl ?_
        refine z_cmpN (by omega) (by omega) rfl (fun h_4 => ?_) (fun h_4 => ?_)
        · replace h_4 : ¬ n = 2 := h_4
          refine z_ico (x := (nI 3)) rfl rfl ?_
          refine z_ret rfl ⟨_, rfl⟩ ?_
          exact ⟨rfl, by simp [kcF, h_1, h_2, h_3, h_4]⟩
        · replace h_4 : n = 2 := Decidable.of_not_not h_4
          refine z_ico (x := (nI 2)) rfl rfl ?_
          refine z_go rfl ?_
          refine z_ret rfl ⟨_, rfl⟩ ?_
          exact ⟨rfl, by simp [kcF, h_1, h_2, h_3, h_4]⟩
    · replace h_2 : n = 1 := Decidable.of_not_not h_2
      refine z_ico (x := (nI 1)) rfl rfl ?_
      refine z_ret rfl ⟨_, rfl⟩ ?_
      exact ⟨rfl, by simp [kcF, h_1, h_2]⟩
