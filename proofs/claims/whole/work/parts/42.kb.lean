/-- a version: three numbers and the words behind '-', as they stand -/
abbrev vV : Type := Int32 × Int32 × Int32 × Nat × (Nat → Int32)
def cwG (w : Nat → Int32) (m p : Nat) (w' : Nat → Int32) (m' s : Nat) : Int32 := cwF (fun j => w (p + j)) (fun j => w' (s + j)) (spn noPt w m p - p) (spn noPt w' m' s - s)
def owV (w : Nat → Int32) (m : Nat) (w' : Nat → Int32) (m' : Nat) : Nat → Nat → Nat → Int32
  | 0, _, _ => nI 0
  | j + 1, p, s => if p < m ∧ s < m' then (if cwG w m p w' m' s = 0 then owV w m w' m' j (spn noPt w m p + 1) (spn noPt w' m' s + 1) else cwG w m p w' m' s) else if m ≤ p then (if m' ≤ s then nI 0 else -1) else nI 1
def onV (V U : vV) : Int32 := if V.1 = U.1 then (if V.2.1 = U.2.1 then cmp3 V.2.2.1 U.2.2.1 else if U.2.1 ≤ V.2.1 then nI 1 else -1) else if U.1 ≤ V.1 then nI 1 else -1
/-- precedence -/
def ordV (V U : vV) : Int32 := if onV V U = 0 then (if V.2.2.2.1 = 0 ∨ U.2.2.2.1 = 0 then (if V.2.2.2.1 = U.2.2.2.1 then nI 0 else if V.2.2.2.1 = 0 then nI 1 else -1) else owV V.2.2.2.2 V.2.2.2.1 U.2.2.2.2 U.2.2.2.1 (V.2.2.2.1 + 1 + 1) 0 0) else onV V U
/-- the words of a version, laid in an array -/
def wsAt (h : zH) (f : Nat → Option Nat) (L : Nat) (w : Nat → Int32) (m : Nat) (pos : Nat → Nat) : Prop := pos 0 = 0 ∧ (∀ i, i < L → ∃ q, f i = some q ∧ wdAt h q (fun j => w (pos i + j)) (spn noPt w m (pos i) - pos i) ∧ pos (i + 1) = spn noPt w m (pos i) + 1) ∧ (L = 0 → m = 0) ∧ (0 < L → pos L = m + 1) ∧ L ≤ 24
def vrAt (h : zH) (p : Nat) (V : vV) : Prop := ∃ pw f L pos, h p = some (zO 7 [zI V.1, zI V.2.1, zI V.2.2.1, zR (some pw)]) ∧ h pw = some (zaR 7 L f) ∧ wsAt h f L V.2.2.2.2 V.2.2.2.1 pos
theorem vr_cell {h : zH} {p : Nat} {V : vV} (hv : vrAt h p V) : ∃ fs, h p = some (zO 7 fs) := by
  obtain ⟨_, _, _, _, e, _⟩ := hv
  exact ⟨_, e⟩
theorem ws_pos {h : zH} {f : Nat → Option Nat} {L m : Nat} {w : Nat → Int32} {pos : Nat → Nat} (hw : wsAt h f L w m pos) : ∀ i, i < L → pos i < m := by
  intro i hi
  obtain ⟨q, _, hq, _⟩ := hw.2.1 i hi
  obtain ⟨_, _, _, _, _, hg⟩ := hq
  have h0 := hg.1
  refine Nat.not_le.mp (fun g => ?_)
  rw [show spn noPt w m (pos i) = pos i by unfold spn; rw [show m - pos i = 0 by omega]; rfl] at h0
  omega
theorem ws_ge {h : zH} {f : Nat → Option Nat} {L m : Nat} {w : Nat → Int32} {pos : Nat → Nat} (hw : wsAt h f L w m pos) : ∀ i, i ≤ L → i ≤ pos i
  | 0, _ => Nat.zero_le _
  | i + 1, hi => by
    obtain ⟨q, _, _, e⟩ := hw.2.1 i (by omega)
    have := ws_ge hw i (by omega)
    have g : pos i ≤ spn noPt w m (pos i) := spn_ge
    omega
theorem ws_0 {h : zH} {f : Nat → Option Nat} {L m : Nat} {w : Nat → Int32} {pos : Nat → Nat} (hw : wsAt h f L w m pos) : L = 0 ↔ m = 0 := by
  constructor
  · exact hw.2.2.1
  · intro e
    refine Nat.eq_zero_of_not_pos (fun g => ?_)
    have := ws_pos hw 0 g
    omega
theorem ws_end {h : zH} {f : Nat → Option Nat} {L m : Nat} {w : Nat → Int32} {pos : Nat → Nat} (hw : wsAt h f L w m pos) : m ≤ pos L := by
  by_cases e : L = 0
  · rw [hw.2.2.1 e]; omega
  · rw [hw.2.2.2.1 (by omega)]; omega
theorem z_ok {d : Nat} {T : List (Nat × zOp)} {mc ms : Nat} {Q : zQ} {pc : Nat} {ls ls' : List (Option zV)} {st : List zV} {h : zH} {c s : Nat} (e : ls = ls') (k : zEv d T mc ms Q pc ls' st h c s) : zEv d T mc ms Q pc ls st h c s := by subst e; exact k
set_option maxHeartbeats 1000000 in
theorem k_X7_orderOfNumbers {d : Nat} {h : zH} {p1 p2 : Nat} {V U : vV} (hv : vrAt h p1 V) (hu : vrAt h p2 U) : zPure (d + 2) 68 [zR (some p1), zR (some p2)] h (some (zI (onV V U))) := by
  obtain ⟨w1, f1, L1, pos1, h1, h2, g1⟩ := hv
  obtain ⟨w2, f2, L2, pos2, h3, h4, g2⟩ := hu
  refine zCall.of (d := d + 1) (T := tb_68) (L := [some (zR (some p1)), some (zR (some p2))]) (Nat.le_of_ble_eq_true rfl) rfl rfl ?_
  refine z_ald rfl rfl ?_
  refine z_get rfl h1 rfl ?_
  refine z_ald rfl rfl ?_
  refine z_get rfl h3 rfl ?_
  refine z_cmp rfl (fun h_1 => ?_) (fun h_1 => ?_)
  · replace h_1 : (V.1) = (U.1) := h_1
    refine z_ald rfl rfl ?_
    refine z_get rfl h1 rfl ?_
    refine z_ald rfl rfl ?_
    refine z_get rfl h3 rfl ?_
    refine z_cmp rfl (fun h_2 => ?_) (fun h_2 => ?_)
    · replace h_2 : (V.2.1) = (U.2.1) := h_2
      refine z_ald rfl rfl ?_
      refine z_get rfl h1 rfl ?_
      refine z_ald rfl rfl ?_
      refine z_get rfl h3 rfl ?_
      refine z_callF (as := [zI (V.2.2.1), zI (U.2.2.1)]) (r := []) (v := some (zI (cmp3 (V.2.2.1) (U.2.2.1)))) rfl rfl rfl (Nat.le_of_ble_eq_true rfl) (by omega) (by omega) (rc1 rfl) k_compare3 ?_
      refine z_ret rfl ⟨_, rfl⟩ ?_
      exact ⟨rfl, by rw [onV, if_pos h_1, if_pos h_2]⟩
    · replace h_2 : ¬ ((V.2.1) = (U.2.1)) := h_2
      refine z_ald rfl rfl ?_
      refine z_get rfl h1 rfl ?_
      refine z_ald rfl rfl ?_
      refine z_get rfl h3 rfl ?_
      refine z_cmp rfl (fun h_3 => ?_) (fun h_3 => ?_)
      · replace h_3 : (U.2.1) ≤ (V.2.1) := h_3
        refine z_ico (x := (nI 1)) rfl rfl ?_
        refine z_ret rfl ⟨_, rfl⟩ ?_
        exact ⟨rfl, by rw [onV, if_pos h_1, if_neg h_2, if_pos h_3]⟩
      · replace h_3 : ¬ ((U.2.1) ≤ (V.2.1)) := h_3
        refine z_ico (x := (-1)) rfl rfl ?_
        refine z_go rfl ?_
        refine z_ret rfl ⟨_, rfl⟩ ?_
        exact ⟨rfl, by rw [onV, if_pos h_1, if_neg h_2, if_neg h_3]⟩
  · replace h_1 : ¬ ((V.1) = (U.1)) := h_1
    refine z_ald rfl rfl ?_
    refine z_get rfl h1 rfl ?_
    refine z_ald rfl rfl ?_
    refine z_get rfl h3 rfl ?_
    refine z_cmp rfl (fun h_4 => ?_) (fun h_4 => ?_)
    · replace h_4 : (U.1) ≤ (V.1) := h_4
      refine z_ico (x := (nI 1)) rfl rfl ?_
      refine z_ret rfl ⟨_, rfl⟩ ?_
      exact ⟨rfl, by rw [onV, if_neg h_1, if_pos h_4]⟩
    · replace h_4 : ¬ ((U.1) ≤ (V.1)) := h_4
      refine z_ico (x := (-1)) rfl rfl ?_
      refine z_go rfl ?_
      refine z_ret rfl ⟨_, rfl⟩ ?_
      exact ⟨rfl, by rw [onV, if_neg h_1, if_neg h_4]⟩
set_option maxHeartbeats 1000000 in
theorem k_X7_hasWords {d : Nat} {h : zH} {p1 : Nat} {V : vV} (hv : vrAt h p1 V) : zPure (d + 1) 69 [zR (some p1)] h (some (zI (bI (!decide (V.2.2.2.1 = 0))))) := by
  obtain ⟨w1, f1, L1, pos1, h1, h2, g1⟩ := hv
  have hL1 := g1.2.2.2.2
  refine zCall.of (d := d) (T := tb_69) (L := [some (zR (some p1))]) (Nat.le_of_ble_eq_true rfl) rfl rfl ?_
  refine z_ald rfl rfl ?_
  refine z_get rfl h1 rfl ?_
  refine z_len (m := L1) rfl (by rw [h2]; rfl) ?_
  refine z_ifN (by omega) rfl (fun h_1 => ?_) (fun h_1 => ?_)
  · replace h_1 : L1 ≤ 0 := h_1
    refine z_ico (x := (nI 0)) rfl rfl ?_
    refine z_ret rfl ⟨_, rfl, Or.inl rfl⟩ ?_
    have h9 : (!decide (V.2.2.2.1 = 0)) = false := by
      have := ws_0 g1
      have hh := h_1
      rw [decide_eq_true (this.mp (by omega))]; rfl
    exact ⟨rfl, by rw [h9]; rfl⟩
  · replace h_1 := Nat.not_le.mp h_1
    refine z_ico (x := (nI 1)) rfl rfl ?_
    refine z_go rfl ?_
    refine z_ret rfl ⟨_, rfl, Or.inr rfl⟩ ?_
    have h9 : (!decide (V.2.2.2.1 = 0)) = true := by
      have := ws_0 g1
      have hh := h_1
      rw [decide_eq_false (fun q => by have := this.mpr q; omega)]; rfl
    exact ⟨rfl, by rw [h9]; rfl⟩
set_option maxHeartbeats 1000000 in
theorem kl_ver {d : Nat} {Q : zQ} {h : zH} {p1 p2 w1 w2 L1 L2 m n : Nat} {x1 y1 z1 x2 y2 z2 : Int32} {f1 f2 : Nat → Option Nat} {u t : Nat → Int32} {pos1 pos2 : Nat → Nat} (h1 : h p1 = some (zO 7 [zI x1, zI y1, zI z1, zR (some w1)])) (h2 : h w1 = some (zaR 7 L1 f1)) (h3 : h p2 = some (zO 7 [zI x2, zI y2, zI z2, zR (some w2)])) (h4 : h w2 = some (zaR 7 L2 f2)) (g1 : wsAt h f1 L1 u m pos1) (g2 : wsAt h f2 L2 t n pos2) (hL1 : L1 ≤ 24) (hL2 : L2 ≤ 24) (hmn : L1 ≤ m) (h24 : 0 = 0) (hQ : Q h (.inl (some (zI (owV u m t n (m + 1 + 1) 0 0))))) : ∀ k, k ≤ min L1 L2 → ∀ (hb : owV u m t n (m + 1 + 1) 0 0 = owV u m t n (m + 1 + 1 - k) (pos1 k) (pos2 k)) (x4 : Option zV), zEv (d + 2) tb_67 0 0 Q 38 [some (zR (some p1)), some (zR (some p2)), some (zI (nI 0)), some (zI (nI k)), x4] [] h 0 0 := by
  refine dn (min L1 L2) (fun k hk ih hb x4 => ?_)
  have hj : m + 1 + 1 - k = (m + 1 + 1 - (k + 1)) + 1 := by omega
  refine z_ild rfl rfl ?_
  refine z_ald rfl rfl ?_
  refine z_get rfl h1 rfl ?_
  refine z_len (m := L1) rfl (by rw [h2]; rfl) ?_
  refine z_cmpN (by omega) (by omega) rfl (fun h_1 => ?_) (fun h_1 => ?_)
  · replace h_1 : L1 ≤ k := h_1
    refine z_ald rfl rfl ?_
    refine z_get rfl h1 rfl ?_
    refine z_len (m := L1) rfl (by rw [h2]; rfl) ?_
    refine z_ald rfl rfl ?_
    refine z_get rfl h3 rfl ?_
    refine z_len (m := L2) rfl (by rw [h4]; rfl) ?_
    refine z_callF (as := [zI (nI L1), zI (nI L2)]) (r := []) (v := some (zI (cmp3 (nI L1) (nI L2)))) rfl rfl rfl (Nat.le_of_ble_eq_true rfl) (by omega) (by omega) (rc1 rfl) k_compare3 ?_
    refine z_ret rfl ⟨_, rfl⟩ ?_
    have h9 : owV u m t n (m + 1 + 1) 0 0 = cmp3 (nI L1) (nI L2) := by
      rw [hb, hj, owV, if_neg (fun q => by
        obtain ⟨q1, q2⟩ := q
        have a1 := ws_end g1
        have a2 := ws_end g2
        by_cases e : k < L1
        · have e' : k = L2 := by omega
          subst e'; omega
        · have e' : k = L1 := by omega
          subst e'; omega)]
      have a1 := ws_end g1
      have a2 := ws_end g2
      by_cases e : k < L1
      · have b1 := ws_pos g1 k e
        rw [if_neg (by omega), cmp3_gt (by omega) (by omega)]
      · have e' : k = L1 := by omega
        rw [if_pos (by rw [e']; exact a1)]
        by_cases e2 : k < L2
        · have b2 := ws_pos g2 k e2
          rw [if_neg (by omega), cmp3_lt (by omega) (by omega)]
        · have e3 : k = L2 := by omega
          rw [if_pos (by rw [e3]; exact a2), ← e', ← e3, cmp3_eq]
    rw [h9] at hQ
    exact hQ
  · replace h_1 := Nat.not_le.mp h_1
    refine z_ild rfl rfl ?_
    refine z_ald rfl rfl ?_
    refine z_get rfl h3 rfl ?_
    refine z_len (m := L2) rfl (by rw [h4]; rfl) ?_
    refine z_cmpN (by omega) (by omega) rfl (fun h_2 => ?_) (fun h_2 => ?_)
    · replace h_2 : L2 ≤ k := h_2
      refine z_ald rfl rfl ?_
      refine z_get rfl h1 rfl ?_
      refine z_len (m := L1) rfl (by rw [h2]; rfl) ?_
      refine z_ald rfl rfl ?_
      refine z_get rfl h3 rfl ?_
      refine z_len (m := L2) rfl (by rw [h4]; rfl) ?_
      refine z_callF (as := [zI (nI L1), zI (nI L2)]) (r := []) (v := some (zI (cmp3 (nI L1) (nI L2)))) rfl rfl rfl (Nat.le_of_ble_eq_true rfl) (by omega) (by omega) (rc1 rfl) k_compare3 ?_
      refine z_ret rfl ⟨_, rfl⟩ ?_
      have h9 : owV u m t n (m + 1 + 1) 0 0 = cmp3 (nI L1) (nI L2) := by
        rw [hb, hj, owV, if_neg (fun q => by
          obtain ⟨q1, q2⟩ := q
          have a1 := ws_end g1
          have a2 := ws_end g2
          by_cases e : k < L1
          · have e' : k = L2 := by omega
            subst e'; omega
          · have e' : k = L1 := by omega
            subst e'; omega)]
        have a1 := ws_end g1
        have a2 := ws_end g2
        by_cases e : k < L1
        · have b1 := ws_pos g1 k e
          rw [if_neg (by omega), cmp3_gt (by omega) (by omega)]
        · have e' : k = L1 := by omega
          rw [if_pos (by rw [e']; exact a1)]
          by_cases e2 : k < L2
          · have b2 := ws_pos g2 k e2
            rw [if_neg (by omega), cmp3_lt (by omega) (by omega)]
          · have e3 : k = L2 := by omega
            rw [if_pos (by rw [e3]; exact a2), ← e', ← e3, cmp3_eq]
      rw [h9] at hQ
      exact hQ
    · replace h_2 := Nat.not_le.mp h_2
      obtain ⟨q1, e1, ⟨b1, fb1, e2, e3, e4, e5⟩, ep1⟩ := g1.2.1 k (by omega)
      obtain ⟨q2, e8, ⟨b2, fb2, e6, e7, e9, e10⟩, ep2⟩ := g2.2.1 k (by omega)
      refine z_ald rfl rfl ?_
      refine z_get rfl h1 rfl ?_
      refine z_ild rfl rfl ?_
      refine z_aald rfl h2 (by omega) (by omega) ?_
      refine z_top (v2 := zR (some q1)) (congrArg zR e1) ?_
      refine z_ald rfl rfl ?_
      refine z_get rfl h3 rfl ?_
      refine z_ild rfl rfl ?_
      refine z_aald rfl h4 (by omega) (by omega) ?_
      refine z_top (v2 := zR (some q2)) (congrArg zR e8) ?_
      refine z_callF (as := [zR (some q1), zR (some q2)]) (r := []) (v := some (zI (cwG u m (pos1 k) t n (pos2 k)))) rfl rfl rfl (Nat.le_of_ble_eq_true rfl) (by omega) (by omega) (rc0 rfl e2) (k_X8_order e2 e3 e6 e7 e4 e9 e5 e10) ?_
      refine z_ist (ls' := [some (zR (some p1)), some (zR (some p2)), some (zI (nI 0)), some (zI (nI k)), some (zI (cwG u m (pos1 k) t n (pos2 k)))]) rfl (Nat.le_of_ble_eq_true rfl) rfl ?_
      refine z_ild rfl rfl ?_
      refine z_if rfl (fun h_3 => ?_) (fun h_3 => ?_)
      · replace h_3 : (cwG u m (pos1 k) t n (pos2 k)) = 0 := h_3
        refine z_inc (x' := (nI (k + 1))) (ls' := [some (zR (some p1)), some (zR (some p2)), some (zI (nI 0)), some (zI (nI (k + 1))), some (zI (cwG u m (pos1 k) t n (pos2 k)))]) rfl rfl (nI_1 _) rfl ?_
        refine z_go rfl ?_
        refine ih (by omega) ?_ _
        rw [hb, hj, owV, if_pos ⟨ws_pos g1 k (by omega), ws_pos g2 k (by omega)⟩, if_pos h_3, ep1, ep2]
      · replace h_3 : ¬ ((cwG u m (pos1 k) t n (pos2 k)) = 0) := h_3
        refine z_ild rfl rfl ?_
        refine z_ret rfl ⟨_, rfl⟩ ?_
        rw [hb, hj, owV, if_pos ⟨ws_pos g1 k (by omega), ws_pos g2 k (by omega)⟩, if_neg h_3] at hQ
        exact hQ
set_option maxHeartbeats 1000000 in
theorem k_X7_order {d : Nat} {h : zH} {p1 p2 : Nat} {V U : vV} (hv : vrAt h p1 V) (hu : vrAt h p2 U) : zPure (d + 3) 67 [zR (some p1), zR (some p2)] h (some (zI (ordV V U))) := by
  have hv0 := hv
  have hu0 := hu
  obtain ⟨w1, f1, L1, pos1, h1, h2, g1⟩ := hv
  obtain ⟨w2, f2, L2, pos2, h3, h4, g2⟩ := hu
  have hL1 := g1.2.2.2.2
  have hL2 := g2.2.2.2.2
  refine zCall.of (d := d + 2) (T := tb_67) (L := [some (zR (some p1)), some (zR (some p2)), none, none, none]) (Nat.le_of_ble_eq_true rfl) rfl rfl ?_
  refine z_ald rfl rfl ?_
  refine z_ald rfl rfl ?_
  refine z_callF (as := [zR (some p1), zR (some p2)]) (r := []) (v := some (zI (onV V U))) rfl rfl rfl (Nat.le_of_ble_eq_true rfl) (by omega) (by omega) (rc0 rfl h1) (k_X7_orderOfNumbers hv0 hu0) ?_
  refine z_ist (ls' := [some (zR (some p1)), some (zR (some p2)), some (zI (onV V U)), none, none]) rfl (Nat.le_of_ble_eq_true rfl) rfl ?_
  refine z_ild rfl rfl ?_
  refine z_if rfl (fun h_1 => ?_) (fun h_1 => ?_)
  · replace h_1 : (onV V U) = 0 := h_1
    refine z_ald rfl rfl ?_
    refine z_callF (as := [zR (some p1)]) (r := []) (v := some (zI (bI (!decide (V.2.2.2.1 = 0))))) rfl rfl rfl (Nat.le_of_ble_eq_true rfl) (by omega) (by omega) (rc0 rfl h1) (k_X7_hasWords hv0) ?_
    refine z_ald rfl rfl ?_
    refine z_callF (as := [zR (some p2)]) (r := [zI (bI (!decide (V.2.2.2.1 = 0)))]) (v := some (zI (bI (!decide (U.2.2.2.1 = 0))))) rfl rfl rfl (Nat.le_of_ble_eq_true rfl) (by omega) (by omega) (rc0 rfl h3) (k_X7_hasWords hu0) ?_
    refine z_cmp rfl (fun h_2 => ?_) (fun h_2 => ?_)
    · replace h_2 : (bI (!decide (V.2.2.2.1 = 0))) = (bI (!decide (U.2.2.2.1 = 0))) := h_2
      refine z_ico (x := (nI 0)) rfl rfl ?_
      refine z_ist (ls' := [some (zR (some p1)), some (zR (some p2)), some (zI (onV V U)), some (zI (nI 0)), none]) rfl (Nat.le_of_ble_eq_true rfl) rfl ?_
      have hm1 : L1 ≤ V.2.2.2.1 := by
        by_cases e : L1 = 0
        · omega
        · have a1 := ws_ge g1 (L1 - 1) (by omega)
          have a2 := ws_pos g1 (L1 - 1) (by omega)
          omega
      have h9 : ordV V U = owV V.2.2.2.2 V.2.2.2.1 U.2.2.2.2 U.2.2.2.1 (V.2.2.2.1 + 1 + 1) 0 0 := by
        rw [ordV, if_pos h_1]
        by_cases q : V.2.2.2.1 = 0
        · have q2 : U.2.2.2.1 = 0 := by
            by_cases q3 : U.2.2.2.1 = 0
            · exact q3
            · exact absurd h_2 (by simp [q, q3, bI])
          rw [if_pos (Or.inl q), if_pos (by rw [q, q2]), owV, if_neg (by omega), if_pos (by omega), if_pos (by omega)]
        · have q2 : ¬ U.2.2.2.1 = 0 := fun q3 => absurd h_2 (by simp [q, q3, bI])
          rw [if_neg (fun g => g.elim q q2)]
      rw [h9]
      have h0 : onV V U = nI 0 := h_1
      refine z_ok (ls' := [some (zR (some p1)), some (zR (some p2)), some (zI (nI 0)), some (zI (nI 0)), none]) (by rw [h0]) ?_
      exact kl_ver h1 h2 h3 h4 g1 g2 hL1 hL2 hm1 rfl ⟨rfl, rfl⟩ 0 (by omega) (by rw [g1.1, g2.1]; rfl) none
    · replace h_2 : ¬ ((bI (!decide (V.2.2.2.1 = 0))) = (bI (!decide (U.2.2.2.1 = 0)))) := h_2
      refine z_ald rfl rfl ?_
      refine z_callF (as := [zR (some p1)]) (r := []) (v := some (zI (bI (!decide (V.2.2.2.1 = 0))))) rfl rfl rfl (Nat.le_of_ble_eq_true rfl) (by omega) (by omega) (rc0 rfl h1) (k_X7_hasWords hv0) ?_
      refine z_ifB0 rfl (fun h_3 => ?_) (fun h_3 => ?_)
      · refine z_ico (x := (nI 1)) rfl rfl ?_
        refine z_ret rfl ⟨_, rfl⟩ ?_
        have q1 : V.2.2.2.1 = 0 := by simpa using h_3
        have q2 : ¬ U.2.2.2.1 = 0 := fun q => h_2 (by rw [q1, q])
        exact ⟨rfl, by rw [ordV, if_pos h_1, if_pos (Or.inl q1), if_neg (by rw [q1]; exact fun q => q2 q.symm), if_pos q1]⟩
      · refine z_ico (x := (-1)) rfl rfl ?_
        refine z_go rfl ?_
        refine z_ret rfl ⟨_, rfl⟩ ?_
        have q1 : ¬ V.2.2.2.1 = 0 := by simpa using h_3
        have q2 : U.2.2.2.1 = 0 := by
          by_cases q : U.2.2.2.1 = 0
          · exact q
          · exact absurd (by simp [q1, q]) h_2
        exact ⟨rfl, by rw [ordV, if_pos h_1, if_pos (Or.inr q2), if_neg (by rw [q2]; exact q1), if_neg q1]⟩
  · replace h_1 : ¬ ((onV V U) = 0) := h_1
    refine z_ild rfl rfl ?_
    refine z_ret rfl ⟨_, rfl⟩ ?_
    exact ⟨rfl, by rw [ordV, if_neg h_1]⟩
