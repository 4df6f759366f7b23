def wsz (r : rA) (i : Nat) : Nat := (r 8 i).toNatClampNeg
def sgn (r : rA) (i : Nat) : Nat := (r 10 i).toNatClampNeg
def cnt (r : rA) (k : Nat) : Nat := (r 12 k).toNatClampNeg
/-- a row is sound -/
def rowOK (r : rA) (i : Nat) : Prop := (r 8 i = nI (wsz r i) ∧ wsz r i ≤ 24) ∧ r 10 i = nI (sgn r i) ∧ sgn r i ≤ 7
def nmd (r : rA) (k i : Nat) : Bool := !decide (r 8 k ≤ 0) && (decide (r 5 k = r 5 i) && (decide (r 6 k = r 6 i) && decide (r 7 k = r 7 i)))
def alF (r : rA) (i k0 : Nat) : Nat → Bool
  | 0 => true
  | m + 1 => alF r i k0 m && metF r (sgn r (k0 + m)) (k0 + m) (wsz r (k0 + m)) i (wsz r i)
def nmF (r : rA) (i k0 : Nat) : Nat → Bool
  | 0 => decide (wsz r i = 0)
  | m + 1 => nmF r i k0 m || nmd r (k0 + m) i
/-- does version i meet requirement q? -/
def maF (r : rA) (q i : Nat) : Bool := alF r i (41 + 4 * q) (cnt r q) && nmF r i (41 + 4 * q) (cnt r q)
set_option maxHeartbeats 2000000 in
theorem l_ma {q : Nat} {qa : Nat → Nat} {d c n a v f rq i : Nat} {b : Bool} {r : rA} {Q : rS → (Option zV ⊕ Nat) → Prop} (hq : rq < 214) (hi : i < 900) (hI : rowOK r i) (hC : r 12 rq = nI (cnt r rq)) (hc5 : cnt r rq ≤ 5) (hR : ∀ m, m < cnt r rq → rowOK r (41 + 4 * rq + m)) (hQ : Q (c, n, a, b, v, f, r) (.inl (some (zI (bI (maF r rq i)))))) : ∀ (j m : Nat), cnt r rq ≤ m + j → m ≤ cnt r rq → rEv q qa (d + 5) tb_121 Q 26 [some (zR (some q)), some (zI (nI rq)), some (zI (nI i)), some (zI (bI (alF r i (41 + 4 * rq) m))), some (zI (bI (nmF r i (41 + 4 * rq) m))), some (zI (nI (41 + 4 * rq + m)))] [] (c, n, a, b, v, f, r) := by
  intro j
  induction j with
  | zero =>
    intro m h1 h2
    have hm : m = cnt r rq := by omega
    subst hm
    refine r_ild rfl rfl ?_
    refine r_ico (x := (nI 41)) rfl rfl ?_
    refine r_ico (x := (nI 4)) rfl rfl ?_
    refine r_ild rfl rfl ?_
    refine r_ibi (v := (nI (4 * rq))) rfl (pk_mul _ _) ?_
    refine r_ibi (v := (nI (41 + (4 * rq)))) rfl (nI_add _ _) ?_
    refine r_ald rfl rfl ?_
    refine r_get rfl rfl ?_
    refine r_ild rfl rfl ?_
    refine r_ialdN (k0 := 12) rfl rfl (by omega) (by decide) ?_
    refine r_top (y := (nI (cnt r rq))) hC ?_
    refine r_ibi (v := (nI (41 + (4 * rq) + (cnt r rq)))) rfl (nI_add _ _) ?_
    refine r_cmpN (by omega) (by omega) rfl (fun h_1 => ?_) (fun h_1 => ?_)
    · replace h_1 : 41 + (4 * rq) + (cnt r rq) ≤ 41 + 4 * rq + cnt r rq := h_1
      refine r_ild rfl rfl ?_
      refine r_ifB0 rfl (fun h_2 => ?_) (fun h_2 => ?_)
      · refine r_ico (x := (nI 0)) rfl rfl ?_
        refine r_ret rfl ⟨_, rfl, Or.inl rfl⟩ ?_
        unfold maF at hQ
        rw [h_2] at hQ
        exact hQ
      · refine r_ild rfl rfl ?_
        refine r_ifB0 rfl (fun h_3 => ?_) (fun h_3 => ?_)
        · refine r_ico (x := (nI 0)) rfl rfl ?_
          refine r_ret rfl ⟨_, rfl, Or.inl rfl⟩ ?_
          unfold maF at hQ
          rw [h_2, h_3] at hQ
          exact hQ
        · refine r_ico (x := (nI 1)) rfl rfl ?_
          refine r_go rfl ?_
          refine r_ret rfl ⟨_, rfl, Or.inr rfl⟩ ?_
          unfold maF at hQ
          rw [h_2, h_3] at hQ
          exact hQ
    · replace h_1 := Nat.not_le.mp h_1
      omega
  | succ j ih =>
    intro m h1 h2
    refine r_ild rfl rfl ?_
    refine r_ico (x := (nI 41)) rfl rfl ?_
    refine r_ico (x := (nI 4)) rfl rfl ?_
    refine r_ild rfl rfl ?_
    refine r_ibi (v := (nI (4 * rq))) rfl (pk_mul _ _) ?_
    refine r_ibi (v := (nI (41 + (4 * rq)))) rfl (nI_add _ _) ?_
    refine r_ald rfl rfl ?_
    refine r_get rfl rfl ?_
    refine r_ild rfl rfl ?_
    refine r_ialdN (k0 := 12) rfl rfl (by omega) (by decide) ?_
    refine r_top (y := (nI (cnt r rq))) hC ?_
    refine r_ibi (v := (nI (41 + (4 * rq) + (cnt r rq)))) rfl (nI_add _ _) ?_
    refine r_cmpN (by omega) (by omega) rfl (fun h_1 => ?_) (fun h_1 => ?_)
    · replace h_1 : 41 + (4 * rq) + (cnt r rq) ≤ 41 + 4 * rq + m := h_1
      refine r_ild rfl rfl ?_
      refine r_ifB0 rfl (fun h_2 => ?_) (fun h_2 => ?_)
      · refine r_ico (x := (nI 0)) rfl rfl ?_
        refine r_ret rfl ⟨_, rfl, Or.inl rfl⟩ ?_
        have hm : m = cnt r rq := by omega
        subst hm
        unfold maF at hQ
        rw [h_2] at hQ
        exact hQ
      · refine r_ild rfl rfl ?_
        refine r_ifB0 rfl (fun h_3 => ?_) (fun h_3 => ?_)
        · refine r_ico (x := (nI 0)) rfl rfl ?_
          refine r_ret rfl ⟨_, rfl, Or.inl rfl⟩ ?_
          have hm : m = cnt r rq := by omega
          subst hm
          unfold maF at hQ
          rw [h_2, h_3] at hQ
          exact hQ
        · refine r_ico (x := (nI 1)) rfl rfl ?_
          refine r_go rfl ?_
          refine r_ret rfl ⟨_, rfl, Or.inr rfl⟩ ?_
          have hm : m = cnt r rq := by omega
          subst hm
          unfold maF at hQ
          rw [h_2, h_3] at hQ
          exact hQ
    · replace h_1 := Nat.not_le.mp h_1
      have hk := hR m (by omega)
      have J63_3 : ∀ (x63_4 : Bool), x63_4 = (alF r i (41 + 4 * rq) (m + 1)) → rEv q qa (d + 5) tb_121 Q 63 [some (zR (some q)), some (zI (nI rq)), some (zI (nI i)), some (zI (bI (alF r i (41 + 4 * rq) m))), some (zI (bI (nmF r i (41 + 4 * rq) m))), some (zI (nI (41 + 4 * rq + m)))] [zI (bI (x63_4))] (c, n, a, b, v, f, r) := by
        intro x63_4 hxx63_4
        refine r_ist (ls' := [some (zR (some q)), some (zI (nI rq)), some (zI (nI i)), some (zI (bI (x63_4))), some (zI (bI (nmF r i (41 + 4 * rq) m))), some (zI (nI (41 + 4 * rq + m)))]) rfl (Nat.le_of_ble_eq_true rfl) rfl ?_
        have J132_4 : ∀ (x132_5 : Bool), x132_5 = (nmF r i (41 + 4 * rq) (m + 1)) → rEv q qa (d + 5) tb_121 Q 132 [some (zR (some q)), some (zI (nI rq)), some (zI (nI i)), some (zI (bI (x63_4))), some (zI (bI (nmF r i (41 + 4 * rq) m))), some (zI (nI (41 + 4 * rq + m)))] [zI (bI (x132_5))] (c, n, a, b, v, f, r) := by
          intro x132_5 hxx132_5
          refine r_ist (ls' := [some (zR (some q)), some (zI (nI rq)), some (zI (nI i)), some (zI (bI (x63_4))), some (zI (bI (x132_5))), some (zI (nI (41 + 4 * rq + m)))]) rfl (Nat.le_of_ble_eq_true rfl) rfl ?_
          refine r_inc (x' := (nI (41 + 4 * rq + m + 1))) (ls' := [some (zR (some q)), some (zI (nI rq)), some (zI (nI i)), some (zI (bI (x63_4))), some (zI (bI (x132_5))), some (zI (nI (41 + 4 * rq + m + 1)))]) rfl rfl (nI_1 _) rfl ?_
          refine r_go rfl ?_
          subst hxx63_4; subst hxx132_5
          exact ih (m + 1) (by omega) (by omega)
        refine r_ild rfl rfl ?_
        refine r_ifB1 rfl (fun h_6 => ?_) (fun h_6 => ?_)
        · refine r_ico (x := (nI 1)) rfl rfl ?_
          refine r_go rfl ?_
          exact J132_4 true (by simp [nmF, nmd, h_6])
        · refine r_ald rfl rfl ?_
          refine r_get rfl rfl ?_
          refine r_ild rfl rfl ?_
          refine r_ialdN (k0 := 8) rfl rfl (by omega) (by decide) ?_
          refine r_if rfl (fun h_7 => ?_) (fun h_7 => ?_)
          · replace h_7 : (r 8 (41 + 4 * rq + m)) ≤ 0 := h_7
            refine r_ico (x := (nI 0)) rfl rfl ?_
            exact J132_4 false (by simp [nmF, nmd, h_6, h_7])
          · replace h_7 : ¬ ((r 8 (41 + 4 * rq + m)) ≤ 0) := h_7
            refine r_ald rfl rfl ?_
            refine r_get rfl rfl ?_
            refine r_ild rfl rfl ?_
            refine r_ialdN (k0 := 5) rfl rfl (by omega) (by decide) ?_
            refine r_ald rfl rfl ?_
            refine r_get rfl rfl ?_
            refine r_ild rfl rfl ?_
            refine r_ialdN (k0 := 5) rfl rfl (by omega) (by decide) ?_
            refine r_cmp rfl (fun h_8 => ?_) (fun h_8 => ?_)
            · replace h_8 : ¬ (r 5 (41 + 4 * rq + m)) = (r 5 i) := h_8
              refine r_ico (x := (nI 0)) rfl rfl ?_
              exact J132_4 false (by simp [nmF, nmd, h_6, h_7, h_8])
            · replace h_8 : (r 5 (41 + 4 * rq + m)) = (r 5 i) := Decidable.of_not_not h_8
              refine r_ald rfl rfl ?_
              refine r_get rfl rfl ?_
              refine r_ild rfl rfl ?_
              refine r_ialdN (k0 := 6) rfl rfl (by omega) (by decide) ?_
              refine r_ald rfl rfl ?_
              refine r_get rfl rfl ?_
              refine r_ild rfl rfl ?_
              refine r_ialdN (k0 := 6) rfl rfl (by omega) (by decide) ?_
              refine r_cmp rfl (fun h_9 => ?_) (fun h_9 => ?_)
              · replace h_9 : ¬ (r 6 (41 + 4 * rq + m)) = (r 6 i) := h_9
                refine r_ico (x := (nI 0)) rfl rfl ?_
                exact J132_4 false (by simp [nmF, nmd, h_6, h_7, h_8, h_9])
              · replace h_9 : (r 6 (41 + 4 * rq + m)) = (r 6 i) := Decidable.of_not_not h_9
                refine r_ald rfl rfl ?_
                refine r_get rfl rfl ?_
                refine r_ild rfl rfl ?_
                refine r_ialdN (k0 := 7) rfl rfl (by omega) (by decide) ?_
                refine r_ald rfl rfl ?_
                refine r_get rfl rfl ?_
                refine r_ild rfl rfl ?_
                refine r_ialdN (k0 := 7) rfl rfl (by omega) (by decide) ?_
                refine r_cmp rfl (fun h_10 => ?_) (fun h_10 => ?_)
                · replace h_10 : ¬ (r 7 (41 + 4 * rq + m)) = (r 7 i) := h_10
                  refine r_ico (x := (nI 0)) rfl rfl ?_
                  exact J132_4 false (by simp [nmF, nmd, h_6, h_7, h_8, h_9, h_10])
                · replace h_10 : (r 7 (41 + 4 * rq + m)) = (r 7 i) := Decidable.of_not_not h_10
                  refine r_ico (x := (nI 1)) rfl rfl ?_
                  refine r_go rfl ?_
                  exact J132_4 true (by simp [nmF, nmd, h_6, h_7, h_8, h_9, h_10])
      refine r_ild rfl rfl ?_
      refine r_ifB0 rfl (fun h_11 => ?_) (fun h_11 => ?_)
      · refine r_ico (x := (nI 0)) rfl rfl ?_
        exact J63_3 false (by rw [alF, h_11]; rfl)
      · refine r_ald rfl rfl ?_
        refine r_ild rfl rfl ?_
        refine r_ild rfl rfl ?_
        refine r_call (as := [zR (some q), zI (nI (41 + 4 * rq + m)), zI (nI i)]) (r := []) (s' := (c, n, a, b, v, f, r)) (v := some (zI (bI (metF r (sgn r (41 + 4 * rq + m)) (41 + 4 * rq + m) (wsz r (41 + 4 * rq + m)) i (wsz r i))))) rfl rfl rfl (Nat.le_of_ble_eq_true rfl) (Or.inr ⟨rfl, rfl, _, rfl⟩) (c_isMet (by omega) (by omega) hk.1.2 hI.1.2 hk.1.1 hI.1.1 hk.2.1 hk.2.2) ?_
        refine r_ifB0 rfl (fun h_12 => ?_) (fun h_12 => ?_)
        · refine r_ico (x := (nI 0)) rfl rfl ?_
          exact J63_3 false (by rw [alF, h_11, h_12]; rfl)
        · refine r_ico (x := (nI 1)) rfl rfl ?_
          refine r_go rfl ?_
          exact J63_3 true (by rw [alF, h_11, h_12]; rfl)
set_option maxHeartbeats 1000000 in
theorem c_meetsAll {q : Nat} {qa : Nat → Nat} {d c n a v f : Nat} {b : Bool} {r : rA} {rq i : Nat} (hq : rq < 214) (hi : i < 900) (hI : rowOK r i) (hC : r 12 rq = nI (cnt r rq)) (hc5 : cnt r rq ≤ 5) (hR : ∀ m, m < cnt r rq → rowOK r (41 + 4 * rq + m)) : rFun q qa (d + 6) 121 [zR (some q), zI (nI rq), zI (nI i)] (c, n, a, b, v, f, r) (c, n, a, b, v, f, r) (some (zI (bI (maF r rq i)))) := by
  refine rFun.of (d := d + 5) (T := tb_121) (L := [some (zR (some q)), some (zI (nI rq)), some (zI (nI i)), none, none, none]) (Nat.le_of_ble_eq_true rfl) rfl rfl ?_
  refine r_ico (x := (nI 1)) rfl rfl ?_
  refine r_ist (ls' := [some (zR (some q)), some (zI (nI rq)), some (zI (nI i)), some (zI (nI 1)), none, none]) rfl (Nat.le_of_ble_eq_true rfl) rfl ?_
  refine r_ald rfl rfl ?_
  refine r_get rfl rfl ?_
  refine r_ild rfl rfl ?_
  refine r_ialdN (k0 := 8) rfl rfl (by omega) (by decide) ?_
  refine r_top (y := (nI (wsz r i))) hI.1.1 ?_
  refine r_ifN (by have := hI.1.2; omega) rfl (fun h_1 => ?_) (fun h_1 => ?_)
  · replace h_1 : ¬ wsz r i = 0 := h_1
    refine r_ico (x := (nI 0)) rfl rfl ?_
    refine r_ist (ls' := [some (zR (some q)), some (zI (nI rq)), some (zI (nI i)), some (zI (nI 1)), some (zI (nI 0)), none]) rfl (Nat.le_of_ble_eq_true rfl) rfl ?_
    refine r_ico (x := (nI 41)) rfl rfl ?_
    refine r_ico (x := (nI 4)) rfl rfl ?_
    refine r_ild rfl rfl ?_
    refine r_ibi (v := (nI (4 * rq))) rfl (pk_mul _ _) ?_
    refine r_ibi (v := (nI (41 + (4 * rq)))) rfl (nI_add _ _) ?_
    refine r_ist (ls' := [some (zR (some q)), some (zI (nI rq)), some (zI (nI i)), some (zI (nI 1)), some (zI (nI 0)), some (zI (nI (41 + (4 * rq))))]) rfl (Nat.le_of_ble_eq_true rfl) rfl ?_
    have h9 := l_ma (q := q) (qa := qa) (d := d) (c := c) (n := n) (a := a) (v := v) (f := f) (b := b) (Q := fun t o => t = (c, n, a, b, v, f, r) ∧ o = Sum.inl (some (zI (bI (maF r rq i))))) hq hi hI hC hc5 hR ⟨rfl, rfl⟩ (cnt r rq) 0 (by omega) (by omega)
    rw [show nmF r i (41 + 4 * rq) 0 = false from decide_eq_false h_1] at h9
    exact h9
  · replace h_1 : wsz r i = 0 := Decidable.of_not_not h_1
    refine r_ico (x := (nI 1)) rfl rfl ?_
    refine r_go rfl ?_
    refine r_ist (ls' := [some (zR (some q)), some (zI (nI rq)), some (zI (nI i)), some (zI (nI 1)), some (zI (nI 1)), none]) rfl (Nat.le_of_ble_eq_true rfl) rfl ?_
    refine r_ico (x := (nI 41)) rfl rfl ?_
    refine r_ico (x := (nI 4)) rfl rfl ?_
    refine r_ild rfl rfl ?_
    refine r_ibi (v := (nI (4 * rq))) rfl (pk_mul _ _) ?_
    refine r_ibi (v := (nI (41 + (4 * rq)))) rfl (nI_add _ _) ?_
    refine r_ist (ls' := [some (zR (some q)), some (zI (nI rq)), some (zI (nI i)), some (zI (nI 1)), some (zI (nI 1)), some (zI (nI (41 + (4 * rq))))]) rfl (Nat.le_of_ble_eq_true rfl) rfl ?_
    have h9 := l_ma (q := q) (qa := qa) (d := d) (c := c) (n := n) (a := a) (v := v) (f := f) (b := b) (Q := fun t o => t = (c, n, a, b, v, f, r) ∧ o = Sum.inl (some (zI (bI (maF r rq i))))) hq hi hI hC hc5 hR ⟨rfl, rfl⟩ (cnt r rq) 0 (by omega) (by omega)
    rw [show nmF r i (41 + 4 * rq) 0 = true from decide_eq_true h_1] at h9
    exact h9
