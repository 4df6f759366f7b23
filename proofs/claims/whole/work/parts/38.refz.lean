/-! The reference's solve. -/
theorem lyL_c {r r' : rA} (h : ∀ j, j < 25 → r j = r' j) (p : Nat) : ∀ k, lyL r p k = lyL r' p k := by
  have hr : rowsEq r r' := ⟨h 5 (by omega), h 6 (by omega), h 7 (by omega), h 8 (by omega), h 9 (by omega), h 10 (by omega), h 11 (by omega), h 12 (by omega)⟩
  have hg : ∀ i j, gbF r p i j = gbF r' p i j := by
    intro i j
    unfold gbF wsz
    rw [ordF_c hr, h 21 (by omega), h 8 (by omega)]
  have hi : ∀ i L, insL r p i L = insL r' p i L := by
    intro i L
    induction L with
    | nil => rfl
    | cons x R ih => rw [insL, insL, ih, hg]
  intro k
  induction k with
  | zero => rfl
  | succ k ih =>
    have he : elg r p k = elg r' p k := by unfold elg; rw [h 16 (by omega), h 17 (by omega), h 21 (by omega)]
    rw [lyL, lyL, ih, hi, he]
/-- how many options package p has -/
def oln (r : rA) (v p : Nat) : Nat := (if r 20 p = 0 then 1 else 0) + (lyL r p v).length
/-- its t-th option -/
def opt (r : rA) (v p t : Nat) : Int32 := if r 20 p = 0 then (if t = 0 then -1 else nI ((lyL r p v).getD ((lyL r p v).length - t) 0)) else nI ((lyL r p v).getD ((lyL r p v).length - 1 - t) 0)
theorem oln_le (r : rA) {v p : Nat} (hv : v ≤ 40) : oln r v p ≤ 41 := by
  have := lyL_len r p v
  unfold oln
  split <;> omega
theorem getD_mem {L : List Nat} {t : Nat} (h : t < L.length) : L.getD t 0 ∈ L := by
  have e : L.getD t 0 = L[t] := by simp [List.getD_eq_getElem?_getD, List.getElem?_eq_getElem h]
  rw [e]
  exact List.getElem_mem h
theorem opt_ok {r : rA} {v p t : Nat} (h : t < oln r v p) : (opt r v p t = -1 ∧ r 20 p = 0 ∧ t = 0) ∨ ∃ j, j < v ∧ elg r p j = true ∧ opt r v p t = nI j := by
  unfold oln at h
  unfold opt
  by_cases e : r 20 p = 0
  · rw [if_pos e] at h
    rw [if_pos e]
    by_cases e2 : t = 0
    · rw [if_pos e2]
      exact Or.inl ⟨rfl, e, e2⟩
    · rw [if_neg e2]
      have := (lyL_mem r p v _).mp (getD_mem (L := lyL r p v) (t := (lyL r p v).length - t) (by omega))
      exact Or.inr ⟨_, this.1, this.2, rfl⟩
  · rw [if_neg e] at h
    rw [if_neg e]
    have := (lyL_mem r p v _).mp (getD_mem (L := lyL r p v) (t := (lyL r p v).length - 1 - t) (by omega))
    exact Or.inr ⟨_, this.1, this.2, rfl⟩
/-- the rows with what fits laid out -/
def vfR (r : rA) : rA := rwr r 28 (fun x => bI (maF r (x / 40) (x % 40)))
/-- the reference's own notion of a choice that goes well -/
abbrev gdR (r : rA) (v : Nat) (t : Nat → Nat) : Prop := gdT (vfR r) (oln r v) (opt r v) t
theorem gwF_cc {r r' : rA} {v : Nat} (hv : v ≤ 40) (h13 : r 13 = r' 13) (h14 : r 14 = r' 14) (h20 : r 20 = r' 20) (h28 : ∀ j i, j < 8 + 5 * v → i < v → r 28 (40 * j + i) = r' 28 (40 * j + i)) (hM : ∀ j, j < 40 → ∃ m, m ≤ 5 ∧ r 14 j = nI m) {g : Nat → Int32} {p : Nat} (hp : p < 8) (hg : ∀ k, k ≤ p → g k = -1 ∨ ∃ j, j < v ∧ g k = nI j) (hw : ¬ r 20 p = 0 → ¬ g p = -1) : ∀ m, m ≤ p + 1 → gwF r g p m = gwF r' g p m := by
  have hI : ∀ x p y, (x = -1 ∨ ∃ j, j < v ∧ x = nI j) → (y = -1 ∨ ∃ j, j < v ∧ y = nI j) → awI r x p y = awI r' x p y := by
    intro x p y hx hy
    unfold awI
    rcases hx with e | ⟨j, hj, e⟩
    · rw [if_pos e, if_pos e]
    · subst e
      rw [if_neg (nI_ne1 (by omega)), if_neg (nI_ne1 (by omega)), nI_clamp (by omega), h14]
      obtain ⟨m, hm, em⟩ := hM j (by omega)
      rw [h14] at em
      rw [em, nI_clamp (by omega)]
      refine awF_c h13 m (fun k hk => ?_)
      rcases hy with e | ⟨i, hi, e⟩
      · subst e
        exact h28 _ _ (by omega) (by show (-1 : Int32).toNatClampNeg < v; rw [show (-1 : Int32).toNatClampNeg = 0 by decide]; omega)
      · subst e
        rw [nI_clamp (by omega)]
        exact h28 _ _ (by omega) hi
  intro m
  induction m with
  | zero =>
    intro _
    rw [gwF, gwF, g0F, g0F, h20]
    by_cases e : r' 20 p = 0
    · rw [if_pos e, if_pos e]
    · rw [if_neg e, if_neg e]
      rcases hg p (Nat.le_refl _) with e2 | ⟨i, hi, e2⟩
      · exact absurd e2 (hw (by rw [h20]; exact e))
      · rw [e2, nI_clamp (by omega), h28 p i (by omega) hi]
  | succ m ih =>
    intro hm
    rw [gwF, gwF, ih (by omega), hI _ _ _ (hg m (by omega)) (hg p (Nat.le_refl _)), hI _ _ _ (hg p (Nat.le_refl _)) (hg m (by omega))]
set_option maxHeartbeats 1000000 in
theorem l_so1 {q : Nat} {qa : Nat → Nat} {d c n a v f : Nat} {b : Bool} {r : rA} {Q : rS → (Option zV ⊕ Nat) → Prop}  (hv : v ≤ 40) (hV : ∀ i, i < v → rowOK r i) (hE : ∀ (x : rA), (∀ j, j ≠ 25 → j ≠ 26 → j ≠ 27 → x j = r j) → (∀ p, p < 8 → x 26 p = nI (oln r v p) ∧ x 27 p = nI 0 ∧ ∀ t, t < oln r v p → x 25 (41 * p + t) = opt r v p t) → rEv q qa (d + 6) tb_138 Q 23 [some (zR (some q)), some (zI (nI 8)), none, none, none] [] (c, n, a, b, v, f, x)) : ∀ k, k ≤ 8 → ∀ (x : rA) (h1 : ∀ j, j ≠ 25 → j ≠ 26 → j ≠ 27 → x j = r j) (h2 : ∀ p, p < k → x 26 p = nI (oln r v p) ∧ x 27 p = nI 0 ∧ ∀ t, t < oln r v p → x 25 (41 * p + t) = opt r v p t), rEv q qa (d + 6) tb_138 Q 6 [some (zR (some q)), some (zI (nI k)), none, none, none] [] (c, n, a, b, v, f, x) := by
  refine dn 8 (fun k hk ih x h1 h2 => ?_)
  refine r_ild rfl rfl ?_
  refine r_ico (x := (nI 8)) rfl rfl ?_
  refine r_cmpN (by omega) (by omega) rfl (fun h_1 => ?_) (fun h_1 => ?_)
  · replace h_1 : 8 ≤ k := h_1
    have h3 : k = 8 := by omega
    subst h3
    exact hE x h1 h2
  · replace h_1 := Nat.not_le.mp h_1
    refine r_ald rfl rfl ?_
    refine r_ild rfl rfl ?_
    have hly : lyL x k v = lyL r k v := lyL_c (fun j hj => h1 j (by omega) (by omega) (by omega)) k v
    refine r_callQ (as := [zR (some q), zI (nI k)]) (r := []) rfl rfl rfl (Nat.le_of_ble_eq_true rfl) (Or.inr ⟨rfl, rfl, _, rfl⟩) (c_layOut (d := d) (r := x) (p := k) (by omega) hv (fun i hi => by have := hV i hi; unfold rowOK wsz sgn at this ⊢; rw [h1 8 (by decide) (by decide) (by decide), h1 10 (by decide) (by decide) (by decide)]; exact this)) (fun s e h => by cases h.2) ?_
    rintro s2 w2 ⟨⟨A, fs, hs2, hfs, hla, hfr⟩, hw2⟩
    cases hw2
    subst hs2
    rw [hly] at hla ⊢
    rw [h1 20 (by decide) (by decide) (by decide)] at hfs
    have hol : fs + (lyL r k v).length = oln r v k := by
      unfold oln
      by_cases e : r 20 k = 0
      · rw [if_pos e] at hfs ⊢
        rw [hfs.1]
      · rw [if_neg e] at hfs ⊢
        rw [hfs]
    rw [hol]
    refine r_inc (x' := (nI (k + 1))) (ls' := [some (zR (some q)), some (zI (nI (k + 1))), none, none, none]) rfl rfl (nI_1 _) rfl ?_
    refine r_go rfl ?_
    refine ih (by omega) _ (fun j j1 j2 j3 => ?_) (fun p hp => ?_)
    · rw [rset_n _ _ _ j3, rset_n _ _ _ j2, rwr_n j1]
      exact h1 j j1 j2 j3
    · have e26 : rset (rset (rwr x 25 A) 26 k (nI (oln r v k))) 27 k (nI 0) 26 = upd (x 26) k (nI (oln r v k)) := by rw [rset_n _ _ _ (by decide), rset_s, rwr_n (by decide)]
      have e27 : rset (rset (rwr x 25 A) 26 k (nI (oln r v k))) 27 k (nI 0) 27 = upd (x 27) k (nI 0) := by rw [rset_s, rset_n _ _ _ (by decide), rwr_n (by decide)]
      have e25 : rset (rset (rwr x 25 A) 26 k (nI (oln r v k))) 27 k (nI 0) 25 = A := by rw [rset_n _ _ _ (by decide), rset_n _ _ _ (by decide), rwr_s]
      rw [e26, e27, e25]
      unfold upd
      by_cases e : p = k
      · subst e
        rw [if_pos rfl, if_pos rfl]
        refine ⟨rfl, rfl, fun t ht => ?_⟩
        unfold opt
        by_cases e : r 20 p = 0
        · rw [if_pos e] at hfs ⊢
          by_cases e2 : t = 0
          · rw [if_pos e2, e2]
            exact hfs.2
          · rw [if_neg e2]
            have := hla (t - 1) (by omega)
            rw [show 41 * p + fs + (t - 1) = 41 * p + t by omega] at this
            rw [this]
            congr 2
            omega
        · rw [if_neg e] at hfs ⊢
          have := hla t (by omega)
          rw [show 41 * p + fs + t = 41 * p + t by omega] at this
          exact this
      · rw [if_neg e, if_neg e]
        refine ⟨(h2 p (by omega)).1, (h2 p (by omega)).2.1, fun t ht => ?_⟩
        have := oln_le r (p := p) hv
        rw [hfr _ (by omega)]
        exact (h2 p (by omega)).2.2 t ht
set_option maxHeartbeats 1000000 in
theorem l_so3 {q : Nat} {qa : Nat → Nat} {d c n a v f : Nat} {b : Bool} {r : rA} {Q : rS → (Option zV ⊕ Nat) → Prop} {t : Nat → Nat} {g : Nat → Int32} (hT : ∀ k, k < 8 → r 27 k = nI (t k) ∧ t k < 41) (hX : ∀ k, k < 8 → r 25 (41 * k + t k) = g k) (hQ : Q (0, n, a, b, v, f, rfil r 22 g 8) (.inl (some (zI (nI (cntF g 8)))))) : ∀ k, k ≤ 8 → rEv q qa (d + 6) tb_138 Q 165 [some (zR (some q)), some (zI (nI 7)), some (zI (nI 1)), some (zI (nI (cntF g k))), some (zI (nI k))] [] (0, n, a, b, v, f, rfil r 22 g k) := by
  refine dn 8 (fun k hk ih => ?_)
  refine r_ild rfl rfl ?_
  refine r_ico (x := (nI 8)) rfl rfl ?_
  refine r_cmpN (by omega) (by omega) rfl (fun h_1 => ?_) (fun h_1 => ?_)
  · replace h_1 : 8 ≤ k := h_1
    refine r_ild rfl rfl ?_
    refine r_ret rfl ⟨_, rfl⟩ ?_
    have h3 : k = 8 := by omega
    rw [h3]
    exact hQ
  · replace h_1 := Nat.not_le.mp h_1
    refine r_ild rfl rfl ?_
    refine r_ifN (by omega) rfl (fun h_2 => ?_) (fun h_2 => ?_)
    · replace h_2 : 1 = 0 := h_2
      omega
    · replace h_2 : ¬ (1 = 0) := h_2
      refine r_ald rfl rfl ?_
      refine r_get rfl rfl ?_
      refine r_ild rfl rfl ?_
      refine r_ald rfl rfl ?_
      refine r_ild rfl rfl ?_
      refine r_call (as := [zR (some q), zI (nI k)]) (r := [zI (nI k), zR (some (qa 22))]) (s' := (0, n, a, b, v, f, rfil r 22 g k)) (v := some (zI (g k))) rfl rfl rfl (Nat.le_of_ble_eq_true rfl) (Or.inr ⟨rfl, rfl, _, rfl⟩) (c_given (r := rfil r 22 g k) (t := t k) (x := g k) (by omega) (hT k (by omega)).2 (hT k (by omega)).1 (hX k (by omega))) ?_
      refine r_iastN (k0 := 22) (x' := (g k)) rfl rfl (by omega) (by decide) rfl ?_
      refine r_ild rfl rfl ?_
      refine r_ald rfl rfl ?_
      refine r_get rfl rfl ?_
      refine r_ild rfl rfl ?_
      refine r_ialdN (k0 := 22) rfl rfl (by omega) (by decide) ?_
      refine r_top (y := (g k)) (by simp [rar, rset, upd]) ?_
      refine r_ico (x := (-1)) rfl rfl ?_
      refine r_cmp rfl (fun h_3 => ?_) (fun h_3 => ?_)
      · replace h_3 : ¬ (g k) = (-1) := h_3
        refine r_ico (x := (nI 1)) rfl rfl ?_
        refine r_ibi (v := (nI (cntF g k + 1))) rfl (nI_add _ _) ?_
        refine r_ist (ls' := [some (zR (some q)), some (zI (nI 7)), some (zI (nI 1)), some (zI (nI (cntF g k + 1))), some (zI (nI k))]) rfl (Nat.le_of_ble_eq_true rfl) rfl ?_
        refine r_inc (x' := (nI (k + 1))) (ls' := [some (zR (some q)), some (zI (nI 7)), some (zI (nI 1)), some (zI (nI (cntF g k + 1))), some (zI (nI (k + 1)))]) rfl rfl (nI_1 _) rfl ?_
        refine r_go rfl ?_
        have h9 : cntF g (k + 1) = cntF g k + 1 := by rw [cntF, if_neg h_3]
        rw [h9] at ih
        rw [rfil_s]
        exact ih (by omega)
      · replace h_3 : (g k) = (-1) := Decidable.of_not_not h_3
        refine r_ico (x := (nI 0)) rfl rfl ?_
        refine r_go rfl ?_
        refine r_ibi (v := (nI (cntF g k + 0))) rfl (nI_add _ _) ?_
        refine r_ist (ls' := [some (zR (some q)), some (zI (nI 7)), some (zI (nI 1)), some (zI (nI (cntF g k + 0))), some (zI (nI k))]) rfl (Nat.le_of_ble_eq_true rfl) rfl ?_
        refine r_inc (x' := (nI (k + 1))) (ls' := [some (zR (some q)), some (zI (nI 7)), some (zI (nI 1)), some (zI (nI (cntF g k + 0))), some (zI (nI (k + 1)))]) rfl rfl (nI_1 _) rfl ?_
        refine r_go rfl ?_
        have h9 : cntF g (k + 1) = cntF g k + 0 := by rw [cntF, if_pos h_3]
        rw [h9] at ih
        rw [rfil_s]
        exact ih (by omega)
set_option maxHeartbeats 2000000 in
theorem c_solve {q : Nat} {qa : Nat → Nat} {d c n a v f : Nat} {b : Bool} {r : rA} (hv : v ≤ 40) (hV : ∀ i, i < v → rowOK r i) (hq : ∀ k, k < 8 + 5 * v → r 12 k = nI (cnt r k) ∧ cnt r k ≤ 5 ∧ ∀ m, m < cnt r k → rowOK r (41 + 4 * k + m)) (hM : ∀ j, j < 40 → ∃ m, m ≤ 5 ∧ r 14 j = nI m ∧ ∀ k, k < m → ∃ x, x < 8 ∧ r 13 (5 * j + k) = nI x) (hW : ∀ k, k < 8 → r 20 k = bI (w0 r k)) : rCall q qa (d + 8) 138 [zR (some q)] (c, n, a, b, v, f, r) (fun s o => ∃ r', (s = (1, n, a, b, v, f, r') ∧ o = .inl (some (zI (nI 0))) ∧ (∀ j, j < 25 → r' j = r j) ∧ ∀ t, ¬ gdR r v t) ∨ ∃ t, s = (0, n, a, b, v, f, r') ∧ gdR r v t ∧ (∀ t', gdR r v t' → ¬ lxl 8 t' t) ∧ (∀ j, j < 25 → j ≠ 22 → r' j = r j) ∧ (∀ k, k < 8 → r' 22 k = gvO (opt r v) t k) ∧ o = .inl (some (zI (nI (cntF (gvO (opt r v) t) 8))))) := by
  refine rCall.of (d := d + 7) (T := tb_138) (L := [some (zR (some q)), none, none, none, none]) (Nat.le_of_ble_eq_true rfl) rfl rfl ?_
  refine r_ald rfl rfl ?_
  refine r_callQ (as := [zR (some q)]) (r := []) rfl rfl rfl (Nat.le_of_ble_eq_true rfl) (Or.inr ⟨rfl, rfl, _, rfl⟩) (c_layFits (d := d) hv hV hq) (fun s e h => by cases h.2) ?_
  rintro s2 w2 ⟨⟨F, hs2, hF⟩, hw2⟩
  cases hw2
  subst hs2
  refine r_ico (x := (nI 0)) rfl rfl ?_
  refine r_ist (ls' := [some (zR (some q)), some (zI (nI 0)), none, none, none]) rfl (Nat.le_of_ble_eq_true rfl) rfl ?_
  have hoc : ∀ p t, opt (rwr r 28 F) v p t = opt r v p t := fun p t => by unfold opt; rw [lyL_c (r := rwr r 28 F) (r' := r) (fun j hj => rwr_n (by omega))]; rfl
  have hlc : ∀ p, oln (rwr r 28 F) v p = oln r v p := fun p => by unfold oln; rw [lyL_c (r := rwr r 28 F) (r' := r) (fun j hj => rwr_n (by omega))]; rfl
  refine l_so1 (d := d + 1) (r := rwr r 28 F) hv (fun i hi => hV i hi) ?_ 0 (by omega) (rwr r 28 F) (fun j _ _ _ => rfl) (fun p hp => absurd hp (by omega))
  intro x h1 h2
  simp only [hoc, hlc] at h2
  have hx : ∀ j, j < 25 → x j = r j := fun j hj => (h1 j (by omega) (by omega) (by omega)).trans (rwr_n (by omega))
  have hx28 : x 28 = F := (h1 28 (by decide) (by decide) (by decide)).trans (rwr_s ..)
  have hgd : ∀ t, gdT x (oln r v) (opt r v) t ↔ gdR r v t := by
    intro t
    have key : (∀ k, k < 8 → t k < oln r v k) → ∀ p, p < 8 → gwF x (gvO (opt r v) t) p (p + 1) = gwF (vfR r) (gvO (opt r v) t) p (p + 1) := by
      intro ht p hp
      refine gwF_cc hv ((hx 13 (by omega)).trans (rwr_n (by decide)).symm) ((hx 14 (by omega)).trans (rwr_n (by decide)).symm) ((hx 20 (by omega)).trans (rwr_n (by decide)).symm) ?_ ?_ hp ?_ ?_ _ (Nat.le_refl _)
      · intro j i hj hi
        rw [hx28, hF j i hj hi]
        show _ = (rwr r 28 _) 28 _
        rw [rwr_s, show (40 * j + i) / 40 = j by omega, show (40 * j + i) % 40 = i by omega]
      · intro j hj
        obtain ⟨m, hm, e, _⟩ := hM j hj
        exact ⟨m, hm, by rw [hx 14 (by omega)]; exact e⟩
      · intro k hk
        rcases opt_ok (ht k (by omega)) with ⟨e, _⟩ | ⟨j, hj, _, e⟩
        · exact Or.inl e
        · exact Or.inr ⟨j, hj, e⟩
      · intro h20 e
        rw [hx 20 (by omega)] at h20
        rcases opt_ok (ht p hp) with ⟨_, e2, _⟩ | ⟨j, hj, _, e2⟩
        · exact h20 e2
        · exact nI_ne1 (by omega) (e2.symm.trans e)
    have kr : rch x (gvO (opt r v) t) 8 = rch (vfR r) (gvO (opt r v) t) 8 := rch_c ((hx 13 (by omega)).trans (rwr_n (by decide)).symm) ((hx 14 (by omega)).trans (rwr_n (by decide)).symm) ((hx 20 (by omega)).trans (rwr_n (by decide)).symm) 8
    constructor
    · rintro ⟨g1, g2, g3⟩
      exact ⟨g1, fun k hk => (key g1 k hk).symm.trans (g2 k hk), kr.symm.trans g3⟩
    · rintro ⟨g1, g2, g3⟩
      exact ⟨g1, fun k hk => (key g1 k hk).trans (g2 k hk), kr.trans g3⟩
  refine r_ico (x := (nI 0)) rfl rfl ?_
  refine r_ist (ls' := [some (zR (some q)), some (zI (nI 0)), none, none, none]) rfl (Nat.le_of_ble_eq_true rfl) rfl ?_
  refine r_ico (x := (nI 0)) rfl rfl ?_
  refine r_ist (ls' := [some (zR (some q)), some (zI (nI 0)), some (zI (nI 0)), none, none]) rfl (Nat.le_of_ble_eq_true rfl) rfl ?_
  have hrr : rwr (rwr x 27 (x 27)) 29 (x 29) = x := by rw [rwr_i, rwr_i]
  refine rEv_rr hrr ?_
  refine l_sv (d := d + 4) (r := x) (len := oln r v) (op := opt r v) (fun k hk => ⟨(h2 k hk).1, oln_le r hv⟩) (fun k t hk ht => (h2 k hk).2.2 t ht) (fun k t hk ht => ?_) (fun j hj => ?_) (fun k hk => ?_) (fun k t hk ht h20 e => ?_) ?_ ?_ _ 0 (fun _ => 0) (x 27) (x 29) (by omega) (Nat.le_refl _) (fun k hk => (h2 k hk).2.1) (fun k hk => absurd hk (by omega)) (Nat.zero_le _) (fun k _ _ => rfl) (fun k hk => absurd hk (by omega)) (fun t ht => by rintro ⟨j, hj, _, h⟩; exact absurd h (Nat.not_lt_zero _))
  · rcases opt_ok ht with ⟨e, _⟩ | ⟨j, hj, _, e⟩
    · exact Or.inl e
    · exact Or.inr ⟨j, by omega, e⟩
  · obtain ⟨m, hm, e, hN⟩ := hM j hj
    refine ⟨m, hm, by rw [hx 14 (by omega)]; exact e, fun k hk => ?_⟩
    obtain ⟨y, hy, ey⟩ := hN k hk
    exact ⟨y, hy, by rw [hx 13 (by omega)]; exact ey⟩
  · have := hW k hk
    unfold w0 at this ⊢
    rw [hx 20 (by omega)]
    exact this
  · rw [hx 20 (by omega)] at h20
    rcases opt_ok ht with ⟨_, e2, _⟩ | ⟨j, hj, _, e2⟩
    · exact h20 e2
    · exact nI_ne1 (by omega) (e2.symm.trans e)
  · intro hno T R
    refine r_ald rfl rfl ?_
    refine r_ild rfl rfl ?_
    refine r_ifN (by omega) rfl (fun h_301 => ?_) (fun h_301 => ?_)
    · replace h_301 : 0 = 0 := h_301
      refine r_ico (x := (nI 1)) rfl rfl ?_
      refine r_put (s' := (1, n, a, b, v, f, rwr (rwr x 27 T) 29 R)) rfl (Nat.le_of_ble_eq_true rfl) ⟨_, rfl⟩ rfl rfl ?_
      refine r_ico (x := (nI 0)) rfl rfl ?_
      refine r_ist (ls' := [some (zR (some q)), some (zI (-1)), some (zI (nI 0)), some (zI (nI 0)), none]) rfl (Nat.le_of_ble_eq_true rfl) rfl ?_
      refine r_ico (x := (nI 0)) rfl rfl ?_
      refine r_ist (ls' := [some (zR (some q)), some (zI (-1)), some (zI (nI 0)), some (zI (nI 0)), some (zI (nI 0))]) rfl (Nat.le_of_ble_eq_true rfl) rfl ?_
      refine r_ild rfl rfl ?_
      refine r_ico (x := (nI 8)) rfl rfl ?_
      refine r_cmpN (by omega) (by omega) rfl (fun h_302 => ?_) (fun h_302 => ?_)
      · replace h_302 : 8 ≤ 0 := h_302
        omega
      · replace h_302 := Nat.not_le.mp h_302
        refine r_ild rfl rfl ?_
        refine r_ifN (by omega) rfl (fun h_303 => ?_) (fun h_303 => ?_)
        · replace h_303 : 0 = 0 := h_303
          refine r_ild rfl rfl ?_
          refine r_ret rfl ⟨_, rfl⟩ ?_
          exact ⟨_, Or.inl ⟨rfl, rfl, fun j hj => ((rwr_n (by omega)).trans (rwr_n (by omega))).trans (hx j hj), fun t ht => hno t ((hgd t).mpr ht)⟩⟩
        · replace h_303 : ¬ (0 = 0) := h_303
          omega
    · replace h_301 : ¬ (0 = 0) := h_301
      omega
  · intro t T R hT hg hmin
    refine r_ald rfl rfl ?_
    refine r_ild rfl rfl ?_
    refine r_ifN (by omega) rfl (fun h_401 => ?_) (fun h_401 => ?_)
    · replace h_401 : 1 = 0 := h_401
      omega
    · replace h_401 : ¬ (1 = 0) := h_401
      refine r_ico (x := (nI 0)) rfl rfl ?_
      refine r_go rfl ?_
      refine r_put (s' := (0, n, a, b, v, f, rwr (rwr x 27 T) 29 R)) rfl (Nat.le_of_ble_eq_true rfl) ⟨_, rfl⟩ rfl rfl ?_
      refine r_ico (x := (nI 0)) rfl rfl ?_
      refine r_ist (ls' := [some (zR (some q)), some (zI (nI 7)), some (zI (nI 1)), some (zI (nI 0)), none]) rfl (Nat.le_of_ble_eq_true rfl) rfl ?_
      refine r_ico (x := (nI 0)) rfl rfl ?_
      refine r_ist (ls' := [some (zR (some q)), some (zI (nI 7)), some (zI (nI 1)), some (zI (nI 0)), some (zI (nI 0))]) rfl (Nat.le_of_ble_eq_true rfl) rfl ?_
      refine rEv_rr (rfil_0 (rwr (rwr x 27 T) 29 R) 22 (gvO (opt r v) t)) ?_
      refine l_so3 (r := rwr (rwr x 27 T) 29 R) (d := d + 1) (c := c) (t := t) (g := gvO (opt r v) t) (fun k hk => ⟨hT k hk, by have := hg.1 k hk; have := oln_le r (p := k) hv; omega⟩) (fun k hk => (h2 k hk).2.2 (t k) (hg.1 k hk)) ?_ 0 (by omega)
      refine ⟨_, Or.inr ⟨t, rfl, (hgd t).mp hg, fun t' ht' => hmin t' ((hgd t').mpr ht'), fun j hj hj2 => ?_, fun k hk => ?_, rfl⟩⟩
      · exact ((rfil_n hj2).trans ((rwr_n (by omega)).trans (rwr_n (by omega)))).trans (hx j hj)
      · show rfil _ 22 _ 8 22 k = _
        simp [rfil, hk]
