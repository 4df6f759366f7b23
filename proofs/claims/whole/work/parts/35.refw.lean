/-- one array anew -/
def rwr (r : rA) (k : Nat) (g : Nat → Int32) : rA := fun j => if j = k then g else r j
theorem rwr_s (r : rA) (k : Nat) (g : Nat → Int32) : rwr r k g k = g := by simp [rwr]
theorem rwr_n {r : rA} {k j : Nat} {g : Nat → Int32} (h : j ≠ k) : rwr r k g j = r j := by simp [rwr, h]
theorem rwr_i (r : rA) (k : Nat) : rwr r k (r k) = r := by
  funext j
  unfold rwr
  split
  · rename_i h
    rw [h]
  · rfl
theorem rset_rwr (r : rA) (k i : Nat) (g : Nat → Int32) (x : Int32) : rset (rwr r k g) k i x = rwr r k (upd g i x) := by
  funext j
  unfold rset
  split
  · rename_i h
    subst h
    rw [rwr_s, rwr_s]
  · rename_i h
    rw [rwr_n h, rwr_n h]
def w0 (r : rA) (k : Nat) : Bool := !decide (r 20 k = 0)
/-- the packages that the first k needs of version i are on, beside those of R -/
def ndB (r : rA) (i : Nat) (R : Nat → Bool) : Nat → Nat → Bool
  | 0 => R
  | k + 1 => fun x => ndB r i R k x || decide (r 13 (5 * i + k) = nI x)
theorem ndB_t {r : rA} {i : Nat} {R : Nat → Bool} {x : Nat} (h : R x = true) : ∀ k, ndB r i R k x = true
  | 0 => h
  | k + 1 => by
    show (ndB r i R k x || _) = true
    rw [ndB_t h k]
    rfl
def rpB (r : rA) (g : Nat → Int32) (R : Nat → Bool) : Nat → Nat → Bool
  | 0 => R
  | p + 1 => if g p = -1 then rpB r g R p else if rpB r g R p p = true then ndB r (g p).toNatClampNeg (rpB r g R p) (r 14 (g p).toNatClampNeg).toNatClampNeg else rpB r g R p
def rrB (r : rA) (g : Nat → Int32) : Nat → Nat → Bool
  | 0 => w0 r
  | k + 1 => rpB r g (rrB r g k) 8
/-- is each of the first p packages to which something is given reached? -/
def rch (r : rA) (g : Nat → Int32) : Nat → Bool
  | 0 => true
  | p + 1 => rch r g p && (if g p = -1 then true else rrB r g 8 p)
theorem rch_f {r : rA} {g : Nat → Int32} {p : Nat} (h : rch r g p = false) : ∀ m, rch r g (p + m) = false
  | 0 => h
  | m + 1 => by rw [← Nat.add_assoc, rch, rch_f h m]; rfl
theorem upd_bI {R : Nat → Int32} {F : Nat → Bool} {x : Nat} (hR : ∀ i, i < 8 → R i = bI (F i)) (hx : x < 8) {y : Int32} (hy : y = nI x) : ∀ i, i < 8 → upd R x (bI true) i = bI (F i || decide (y = nI i)) := by
  intro i hi
  subst hy
  unfold upd
  by_cases e : i = x
  · rw [if_pos e, e, decide_eq_true rfl, Bool.or_true]
  · rw [if_neg e, hR i hi, decide_eq_false (fun h => e ((nI_eq (by omega) (by omega)).mp h).symm), Bool.or_false]
theorem rCall.of {q : Nat} {qa : Nat → Nat} {d : Nat} {T : List (Nat × zOp)} {Q : rS → (Option zV ⊕ Nat) → Prop} {s : rS} {j : Nat} {as : List zV} {L : List (Option zV)} (hn : (zargs as).length ≤ zL j) (hT : ztb j = T) (hL : zent (zL j) as = L) (k : rEv q qa d T Q 0 L [] s) : rCall q qa (d + 1) j as s Q := fun h hr => ⟨hn, by rw [hT, hL]; exact k h h hr rFr.rf⟩
theorem r_callQ {q : Nat} {qa : Nat → Nat} {d : Nat} {T : List (Nat × zOp)} {Q P : rS → (Option zV ⊕ Nat) → Prop} {pc : Nat} {ls : List (Option zV)} {st : List zV} {s : rS} {n a b ix w : Nat} {z : Int} {as r : List zV} (ho : T.lookup pc = some (35, n, a, b, ix, w, z)) (hst : st = as.reverse ++ r) (hb : as.length = b) (hs : (r.map zcat).sum ≤ 8) (hk : zK a = 1 ∨ (zK a = 0 ∧ zci a = 10 ∧ ∃ t, as = zR (some q) :: t)) (hc : rCall q qa d a as s P) (hP : ∀ s' e, ¬ P s' (.inr e)) (k : ∀ s' v, P s' (.inl v) → rEv q qa d T Q (pc + n) ls (v.toList ++ r) s') : rEv q qa d T Q pc ls st s := by
  intro h0 h hr hf
  refine zEv.step ho ⟨as, r, 0, 0, hst, hb, hs, Nat.le_refl _, Nat.le_refl _, ?_, ?_⟩
  · rcases hk with hk | ⟨hk, hci, t, ht⟩
    · rw [hk]; trivial
    · rw [hk, hci]; exact ⟨q, t, _, ht, hr.1⟩
  · refine zCall_mono d a as h 0 0 _ _ (fun h' o ⟨s1, g1, g2, e1⟩ => ?_) (hc h hr)
    rcases o with (_ | v) | e
    · exact k s1 none e1 h0 h' g1 (hf.tr g2)
    · exact k s1 (some v) e1 h0 h' g1 (hf.tr g2)
    · exact absurd e1 (hP s1 e)
set_option maxHeartbeats 1000000 in
theorem l_re1 {q : Nat} {qa : Nat → Nat} {d c n a v f : Nat} {b : Bool} {r : rA} {Q : rS → (Option zV ⊕ Nat) → Prop}  (hW : ∀ k, k < 8 → r 20 k = bI (w0 r k)) (hE : ∀ R : Nat → Int32, (∀ i, i < 8 → R i = bI (w0 r i)) → rEv q qa (d + 1) tb_137 Q 26 [some (zR (some q)), some (zI (nI 8)), none, none, none] [] (c, n, a, b, v, f, rwr r 29 R)) : ∀ k, k ≤ 8 → ∀ (R : Nat → Int32) (hR : ∀ i, i < k → R i = bI (w0 r i)), rEv q qa (d + 1) tb_137 Q 2 [some (zR (some q)), some (zI (nI k)), none, none, none] [] (c, n, a, b, v, f, rwr r 29 R) := by
  refine dn 8 (fun k hk ih R hR => ?_)
  refine r_ild rfl rfl ?_
  refine r_ico (x := (nI 8)) rfl rfl ?_
  refine r_cmpN (by omega) (by omega) rfl (fun h_1 => ?_) (fun h_1 => ?_)
  · replace h_1 : 8 ≤ k := h_1
    have h3 : k = 8 := by omega
    subst h3
    exact hE R hR
  · replace h_1 := Nat.not_le.mp h_1
    refine r_ald rfl rfl ?_
    refine r_get rfl rfl ?_
    refine r_ild rfl rfl ?_
    refine r_ald rfl rfl ?_
    refine r_get rfl rfl ?_
    refine r_ild rfl rfl ?_
    refine r_ialdN (k0 := 20) rfl rfl (by omega) (by decide) ?_
    refine r_top (y := (bI (w0 r k))) (hW k (by omega)) ?_
    refine r_iastN (k0 := 29) (x' := (bI (w0 r k))) rfl rfl (by omega) (by decide) (znar_b _) ?_
    refine r_inc (x' := (nI (k + 1))) (ls' := [some (zR (some q)), some (zI (nI (k + 1))), none, none, none]) rfl rfl (nI_1 _) rfl ?_
    refine r_go rfl ?_
    rw [rset_rwr]
    exact ih (by omega) (upd R k (bI (w0 r k))) (fun i hi => by unfold upd; split; (rename_i e; rw [e]); exact hR i (by omega))
set_option maxHeartbeats 1000000 in
theorem l_re2 {q : Nat} {qa : Nat → Nat} {d c n a v f : Nat} {b : Bool} {r : rA} {Q : rS → (Option zV ⊕ Nat) → Prop} {rd p j m : Nat} {F : Nat → Bool} (hp : p < 8) (hF : F p = true) (hj : j < 40) (hm : m ≤ 5) (hM : r 14 j = nI m) (hN : ∀ k, k < m → ∃ x, x < 8 ∧ r 13 (5 * j + k) = nI x) (hE : ∀ R : Nat → Int32, (∀ i, i < 8 → R i = bI (ndB r j F m i)) → ∀ k, rEv q qa (d + 1) tb_137 Q 99 [some (zR (some q)), some (zI (nI rd)), some (zI (nI p)), some (zI (nI j)), some (zI (nI k))] [] (c, n, a, b, v, f, rwr r 29 R)) : ∀ k, k ≤ m → ∀ (R : Nat → Int32) (hR : ∀ i, i < 8 → R i = bI (ndB r j F k i)), rEv q qa (d + 1) tb_137 Q 51 [some (zR (some q)), some (zI (nI rd)), some (zI (nI p)), some (zI (nI j)), some (zI (nI k))] [] (c, n, a, b, v, f, rwr r 29 R) := by
  refine dn m (fun k hk ih R hR => ?_)
  refine r_ild rfl rfl ?_
  refine r_ico (x := (-1)) rfl rfl ?_
  refine r_cmp rfl (fun h_1 => ?_) (fun h_1 => ?_)
  · replace h_1 : (nI j) = (-1) := h_1
    exact absurd h_1 (nI_ne1 (by omega))
  · replace h_1 : ¬ ((nI j) = (-1)) := h_1
    refine r_ald rfl rfl ?_
    refine r_get rfl rfl ?_
    refine r_ild rfl rfl ?_
    refine r_ialdN (k0 := 29) rfl rfl (by omega) (by decide) ?_
    refine r_top (y := (bI (true))) ((hR p hp).trans (congrArg bI (ndB_t hF k))) ?_
    refine r_ifB0 rfl (fun h_2 => ?_) (fun h_2 => ?_)
    · cases h_2
    · refine r_ild rfl rfl ?_
      refine r_ald rfl rfl ?_
      refine r_get rfl rfl ?_
      refine r_ild rfl rfl ?_
      refine r_ialdN (k0 := 14) rfl rfl (by omega) (by decide) ?_
      refine r_top (y := (nI m)) hM ?_
      refine r_cmpN (by omega) (by omega) rfl (fun h_3 => ?_) (fun h_3 => ?_)
      · replace h_3 : m ≤ k := h_3
        have h3 : k = m := by omega
        subst h3
        exact hE R hR k
      · replace h_3 := Nat.not_le.mp h_3
        refine r_ald rfl rfl ?_
        refine r_get rfl rfl ?_
        refine r_ald rfl rfl ?_
        refine r_get rfl rfl ?_
        refine r_ico (x := (nI 5)) rfl rfl ?_
        refine r_ild rfl rfl ?_
        refine r_ibi (v := (nI (5 * j))) rfl (pk_mul _ _) ?_
        refine r_ild rfl rfl ?_
        refine r_ibi (v := (nI (5 * j + k))) rfl (nI_add _ _) ?_
        refine r_ialdN (k0 := 13) rfl rfl (by omega) (by decide) ?_
        obtain ⟨y, hy, ey⟩ := hN k (by omega)
        refine r_top (y := nI y) ey ?_
        refine r_ico (x := (nI 1)) rfl rfl ?_
        refine r_iastN (k0 := 29) (x' := (bI (true))) rfl rfl (by omega) (by decide) (by decide +kernel) ?_
        refine r_inc (x' := (nI (k + 1))) (ls' := [some (zR (some q)), some (zI (nI rd)), some (zI (nI p)), some (zI (nI j)), some (zI (nI (k + 1)))]) rfl rfl (nI_1 _) rfl ?_
        refine r_go rfl ?_
        rw [rset_rwr]
        exact ih (by omega) _ (upd_bI hR hy ey)
set_option maxHeartbeats 1000000 in
theorem l_re3 {q : Nat} {qa : Nat → Nat} {d c n a v f : Nat} {b : Bool} {r : rA} {Q : rS → (Option zV ⊕ Nat) → Prop} {rd : Nat} {F : Nat → Bool} {t : Nat → Nat} {g : Nat → Int32} (hT : ∀ k, k < 8 → r 27 k = nI (t k) ∧ t k < 41) (hX : ∀ k, k < 8 → r 25 (41 * k + t k) = g k) (hx : ∀ k, k < 8 → g k = -1 ∨ ∃ j, j < 40 ∧ g k = nI j) (hM : ∀ j, j < 40 → ∃ m, m ≤ 5 ∧ r 14 j = nI m ∧ ∀ k, k < m → ∃ x, x < 8 ∧ r 13 (5 * j + k) = nI x) (hE : ∀ R : Nat → Int32, (∀ i, i < 8 → R i = bI (rpB r g F 8 i)) → ∀ (x3 x4 : Option zV), rEv q qa (d + 1) tb_137 Q 105 [some (zR (some q)), some (zI (nI rd)), some (zI (nI 8)), x3, x4] [] (c, n, a, b, v, f, rwr r 29 R)) : ∀ k, k ≤ 8 → ∀ (R : Nat → Int32) (hR : ∀ i, i < 8 → R i = bI (rpB r g F k i)) (x3 x4 : Option zV), rEv q qa (d + 1) tb_137 Q 36 [some (zR (some q)), some (zI (nI rd)), some (zI (nI k)), x3, x4] [] (c, n, a, b, v, f, rwr r 29 R) := by
  refine dn 8 (fun k hk ih R hR x3 x4 => ?_)
  refine r_ild rfl rfl ?_
  refine r_ico (x := (nI 8)) rfl rfl ?_
  refine r_cmpN (by omega) (by omega) rfl (fun h_1 => ?_) (fun h_1 => ?_)
  · replace h_1 : 8 ≤ k := h_1
    have h3 : k = 8 := by omega
    subst h3
    exact hE R hR _ _
  · replace h_1 := Nat.not_le.mp h_1
    refine r_ald rfl rfl ?_
    refine r_ild rfl rfl ?_
    refine r_call (as := [zR (some q), zI (nI k)]) (r := []) (s' := (c, n, a, b, v, f, rwr r 29 R)) (v := some (zI (g k))) rfl rfl rfl (Nat.le_of_ble_eq_true rfl) (Or.inr ⟨rfl, rfl, _, rfl⟩) (c_given (by omega) (hT k (by omega)).2 (hT k (by omega)).1 (hX k (by omega))) ?_
    refine r_ist (ls' := [some (zR (some q)), some (zI (nI rd)), some (zI (nI k)), some (zI (g k)), x4]) rfl (Nat.le_of_ble_eq_true rfl) rfl ?_
    refine r_ico (x := (nI 0)) rfl rfl ?_
    refine r_ist (ls' := [some (zR (some q)), some (zI (nI rd)), some (zI (nI k)), some (zI (g k)), some (zI (nI 0))]) rfl (Nat.le_of_ble_eq_true rfl) rfl ?_
    by_cases h1 : g k = -1
    · refine r_ild rfl rfl ?_
      refine r_ico (x := (-1)) rfl rfl ?_
      refine r_cmp rfl (fun h2 => ?_) (fun h2 => absurd h1 h2)
      refine r_inc (x' := (nI (k + 1))) (ls' := [some (zR (some q)), some (zI (nI rd)), some (zI (nI (k + 1))), some (zI (g k)), some (zI (nI 0))]) rfl rfl (nI_1 _) rfl ?_
      refine r_go rfl ?_
      exact ih (by omega) R (fun i hi => by rw [hR i hi, rpB, if_pos h1]) _ _
    · obtain ⟨j, hj, e⟩ := (hx k (by omega)).resolve_left h1
      obtain ⟨m, hm, e2, hN⟩ := hM j hj
      by_cases h2 : rpB r g F k k = true
      · have h7 : rpB r g F (k + 1) = ndB r j (rpB r g F k) m := by rw [rpB, if_neg h1, if_pos h2, e, nI_clamp (by omega), e2, nI_clamp (by omega)]
        rw [e]
        rw [h7] at ih
        refine l_re2 (F := rpB r g F k) (by omega) h2 hj hm e2 hN ?_ 0 (by omega) R hR
        intro R hR k2
        refine r_inc (x' := (nI (k + 1))) (ls' := [some (zR (some q)), some (zI (nI rd)), some (zI (nI (k + 1))), some (zI (nI j)), some (zI (nI k2))]) rfl rfl (nI_1 _) rfl ?_
        refine r_go rfl ?_
        exact ih (by omega) R hR _ _
      · have h3 : rpB r g F k k = false := by simpa using h2
        refine r_ild rfl rfl ?_
        refine r_ico (x := (-1)) rfl rfl ?_
        refine r_cmp rfl (fun h4 => absurd h4 h1) (fun h4 => ?_)
        refine r_ald rfl rfl ?_
        refine r_get rfl rfl ?_
        refine r_ild rfl rfl ?_
        refine r_ialdN (k0 := 29) rfl rfl (by omega) (by decide) ?_
        refine r_top (y := bI false) ((hR k (by omega)).trans (congrArg bI h3)) ?_
        refine r_ifB0 rfl (fun h5 => ?_) (fun h5 => by cases h5)
        refine r_inc (x' := (nI (k + 1))) (ls' := [some (zR (some q)), some (zI (nI rd)), some (zI (nI (k + 1))), some (zI (g k)), some (zI (nI 0))]) rfl rfl (nI_1 _) rfl ?_
        refine r_go rfl ?_
        exact ih (by omega) R (fun i hi => by rw [hR i hi, rpB, if_neg h1, if_neg h2]) _ _
set_option maxHeartbeats 1000000 in
theorem l_re4 {q : Nat} {qa : Nat → Nat} {d c n a v f : Nat} {b : Bool} {r : rA} {Q : rS → (Option zV ⊕ Nat) → Prop} {t : Nat → Nat} {g : Nat → Int32} (hT : ∀ k, k < 8 → r 27 k = nI (t k) ∧ t k < 41) (hX : ∀ k, k < 8 → r 25 (41 * k + t k) = g k) (hx : ∀ k, k < 8 → g k = -1 ∨ ∃ j, j < 40 ∧ g k = nI j) (hM : ∀ j, j < 40 → ∃ m, m ≤ 5 ∧ r 14 j = nI m ∧ ∀ k, k < m → ∃ x, x < 8 ∧ r 13 (5 * j + k) = nI x) (hE : ∀ R : Nat → Int32, (∀ i, i < 8 → R i = bI (rrB r g 8 i)) → ∀ (x2 x3 x4 : Option zV), rEv q qa (d + 1) tb_137 Q 111 [some (zR (some q)), some (zI (nI 8)), x2, x3, x4] [] (c, n, a, b, v, f, rwr r 29 R)) : ∀ k, k ≤ 8 → ∀ (R : Nat → Int32) (hR : ∀ i, i < 8 → R i = bI (rrB r g k i)) (x2 x3 x4 : Option zV), rEv q qa (d + 1) tb_137 Q 28 [some (zR (some q)), some (zI (nI k)), x2, x3, x4] [] (c, n, a, b, v, f, rwr r 29 R) := by
  refine dn 8 (fun k hk ih R hR x2 x3 x4 => ?_)
  refine r_ild rfl rfl ?_
  refine r_ico (x := (nI 8)) rfl rfl ?_
  refine r_cmpN (by omega) (by omega) rfl (fun h_1 => ?_) (fun h_1 => ?_)
  · replace h_1 : 8 ≤ k := h_1
    have h3 : k = 8 := by omega
    subst h3
    exact hE R hR _ _ _
  · replace h_1 := Nat.not_le.mp h_1
    refine r_ico (x := (nI 0)) rfl rfl ?_
    refine r_ist (ls' := [some (zR (some q)), some (zI (nI k)), some (zI (nI 0)), x3, x4]) rfl (Nat.le_of_ble_eq_true rfl) rfl ?_
    refine l_re3 (F := rrB r g k) hT hX hx hM ?_ 0 (by omega) R hR x3 x4
    intro R hR x3 x4
    refine r_inc (x' := (nI (k + 1))) (ls' := [some (zR (some q)), some (zI (nI (k + 1))), some (zI (nI 8)), x3, x4]) rfl rfl (nI_1 _) rfl ?_
    refine r_go rfl ?_
    exact ih (by omega) R hR _ _ _
set_option maxHeartbeats 1000000 in
theorem l_re5 {q : Nat} {qa : Nat → Nat} {d c n a v f : Nat} {b : Bool} {r : rA} {Q : rS → (Option zV ⊕ Nat) → Prop} {R : Nat → Int32} {x3 x4 : Option zV} {t : Nat → Nat} {g : Nat → Int32} (hT : ∀ k, k < 8 → r 27 k = nI (t k) ∧ t k < 41) (hX : ∀ k, k < 8 → r 25 (41 * k + t k) = g k) (hx : ∀ k, k < 8 → g k = -1 ∨ ∃ j, j < 40 ∧ g k = nI j) (hM : ∀ j, j < 40 → ∃ m, m ≤ 5 ∧ r 14 j = nI m ∧ ∀ k, k < m → ∃ x, x < 8 ∧ r 13 (5 * j + k) = nI x) (hR : ∀ i, i < 8 → R i = bI (rrB r g 8 i)) (hQ : Q (c, n, a, b, v, f, rwr r 29 R) (.inl (some (zI (bI (rch r g 8)))))) : ∀ k, k ≤ 8 → rEv q qa (d + 1) tb_137 Q 115 [some (zR (some q)), some (zI (bI (rch r g k))), some (zI (nI k)), x3, x4] [] (c, n, a, b, v, f, rwr r 29 R) := by
  refine dn 8 (fun k hk ih => ?_)
  refine r_ild rfl rfl ?_
  refine r_ico (x := (nI 8)) rfl rfl ?_
  refine r_cmpN (by omega) (by omega) rfl (fun h_1 => ?_) (fun h_1 => ?_)
  · replace h_1 : 8 ≤ k := h_1
    refine r_ild rfl rfl ?_
    refine r_ret rfl ⟨_, rfl, bI_01 _⟩ ?_
    have h3 : k = 8 := by omega
    rw [h3]
    exact hQ
  · replace h_1 := Nat.not_le.mp h_1
    refine r_ild rfl rfl ?_
    refine r_ifB0 rfl (fun h_2 => ?_) (fun h_2 => ?_)
    · refine r_ico (x := (nI 0)) rfl rfl ?_
      refine r_ist (ls' := [some (zR (some q)), some (zI (nI 0)), some (zI (nI k)), x3, x4]) rfl (Nat.le_of_ble_eq_true rfl) rfl ?_
      refine r_inc (x' := (nI (k + 1))) (ls' := [some (zR (some q)), some (zI (nI 0)), some (zI (nI (k + 1))), x3, x4]) rfl rfl (nI_1 _) rfl ?_
      refine r_go rfl ?_
      have h9 : rch r g (k + 1) = false := by rw [rch, h_2]; rfl
      rw [h9] at ih
      exact ih (by omega)
    · refine r_ald rfl rfl ?_
      refine r_ild rfl rfl ?_
      refine r_call (as := [zR (some q), zI (nI k)]) (r := []) (s' := (c, n, a, b, v, f, rwr r 29 R)) (v := some (zI (g k))) rfl rfl rfl (Nat.le_of_ble_eq_true rfl) (Or.inr ⟨rfl, rfl, _, rfl⟩) (c_given (by omega) (hT k (by omega)).2 (hT k (by omega)).1 (hX k (by omega))) ?_
      refine r_ico (x := (-1)) rfl rfl ?_
      refine r_cmp rfl (fun h_3 => ?_) (fun h_3 => ?_)
      · replace h_3 : (g k) = (-1) := h_3
        refine r_ico (x := (nI 1)) rfl rfl ?_
        refine r_go rfl ?_
        refine r_ist (ls' := [some (zR (some q)), some (zI (nI 1)), some (zI (nI k)), x3, x4]) rfl (Nat.le_of_ble_eq_true rfl) rfl ?_
        refine r_inc (x' := (nI (k + 1))) (ls' := [some (zR (some q)), some (zI (nI 1)), some (zI (nI (k + 1))), x3, x4]) rfl rfl (nI_1 _) rfl ?_
        refine r_go rfl ?_
        have h9 : rch r g (k + 1) = true := by rw [rch, h_2, if_pos h_3]; rfl
        rw [h9] at ih
        exact ih (by omega)
      · replace h_3 : ¬ ((g k) = (-1)) := h_3
        refine r_ald rfl rfl ?_
        refine r_get rfl rfl ?_
        refine r_ild rfl rfl ?_
        refine r_ialdN (k0 := 29) rfl rfl (by omega) (by decide) ?_
        refine r_top (y := (bI (rrB r g 8 k))) (hR k (by omega)) ?_
        refine r_ifB0 rfl (fun h_4 => ?_) (fun h_4 => ?_)
        · refine r_ico (x := (nI 0)) rfl rfl ?_
          refine r_ist (ls' := [some (zR (some q)), some (zI (nI 0)), some (zI (nI k)), x3, x4]) rfl (Nat.le_of_ble_eq_true rfl) rfl ?_
          refine r_inc (x' := (nI (k + 1))) (ls' := [some (zR (some q)), some (zI (nI 0)), some (zI (nI (k + 1))), x3, x4]) rfl rfl (nI_1 _) rfl ?_
          refine r_go rfl ?_
          have h9 : rch r g (k + 1) = false := by rw [rch, h_2, if_neg h_3, h_4]; rfl
          rw [h9] at ih
          exact ih (by omega)
        · refine r_ico (x := (nI 1)) rfl rfl ?_
          refine r_go rfl ?_
          refine r_ist (ls' := [some (zR (some q)), some (zI (nI 1)), some (zI (nI k)), x3, x4]) rfl (Nat.le_of_ble_eq_true rfl) rfl ?_
          refine r_inc (x' := (nI (k + 1))) (ls' := [some (zR (some q)), some (zI (nI 1)), some (zI (nI (k + 1))), x3, x4]) rfl rfl (nI_1 _) rfl ?_
          refine r_go rfl ?_
          have h9 : rch r g (k + 1) = true := by rw [rch, h_2, if_neg h_3, h_4]; rfl
          rw [h9] at ih
          exact ih (by omega)
set_option maxHeartbeats 1000000 in
theorem c_isReached {q : Nat} {qa : Nat → Nat} {d c n a v f : Nat} {b : Bool} {r : rA} {t : Nat → Nat} {g : Nat → Int32} (hW : ∀ k, k < 8 → r 20 k = bI (w0 r k)) (hT : ∀ k, k < 8 → r 27 k = nI (t k) ∧ t k < 41) (hX : ∀ k, k < 8 → r 25 (41 * k + t k) = g k) (hx : ∀ k, k < 8 → g k = -1 ∨ ∃ j, j < 40 ∧ g k = nI j) (hM : ∀ j, j < 40 → ∃ m, m ≤ 5 ∧ r 14 j = nI m ∧ ∀ k, k < m → ∃ x, x < 8 ∧ r 13 (5 * j + k) = nI x) : rCall q qa (d + 2) 137 [zR (some q)] (c, n, a, b, v, f, r) (fun s o => (∃ R, s = (c, n, a, b, v, f, rwr r 29 R)) ∧ o = .inl (some (zI (bI (rch r g 8))))) := by
  refine rCall.of (d := d + 1) (T := tb_137) (L := [some (zR (some q)), none, none, none, none]) (Nat.le_of_ble_eq_true rfl) rfl rfl ?_
  refine r_ico (x := (nI 0)) rfl rfl ?_
  refine r_ist (ls' := [some (zR (some q)), some (zI (nI 0)), none, none, none]) rfl (Nat.le_of_ble_eq_true rfl) rfl ?_
  refine rEv_rr (rwr_i r 29) ?_
  refine l_re1 hW ?_ 0 (by omega) (r 29) (fun i hi => absurd hi (by omega))
  intro R hR
  refine r_ico (x := (nI 0)) rfl rfl ?_
  refine r_ist (ls' := [some (zR (some q)), some (zI (nI 0)), none, none, none]) rfl (Nat.le_of_ble_eq_true rfl) rfl ?_
  refine l_re4 hT hX hx hM ?_ 0 (by omega) R hR none none none
  intro R hR x2 x3 x4
  refine r_ico (x := (nI 1)) rfl rfl ?_
  refine r_ist (ls' := [some (zR (some q)), some (zI (nI 1)), x2, x3, x4]) rfl (Nat.le_of_ble_eq_true rfl) rfl ?_
  refine r_ico (x := (nI 0)) rfl rfl ?_
  refine r_ist (ls' := [some (zR (some q)), some (zI (nI 1)), some (zI (nI 0)), x3, x4]) rfl (Nat.le_of_ble_eq_true rfl) rfl ?_
  exact l_re5 hT hX hx hM hR ⟨⟨R, rfl⟩, rfl⟩ 0 (by omega)
