/-! What the choices are made of depends on the rows alone. -/
def rowsEq (r r' : rA) : Prop := r 5 = r' 5 ∧ r 6 = r' 6 ∧ r 7 = r' 7 ∧ r 8 = r' 8 ∧ r 9 = r' 9 ∧ r 10 = r' 10 ∧ r 11 = r' 11 ∧ r 12 = r' 12
theorem owF_c {r r' : rA} (h : rowsEq r r') (ra ma rb mb : Nat) : ∀ j p s, owF r ra ma rb mb j p s = owF r' ra ma rb mb j p s := by
  obtain ⟨h5, h6, h7, h8, h9, h10, h11, h12⟩ := h
  intro j
  induction j with
  | zero => intros; rfl
  | succ j ih =>
    intro p s
    have g : ∀ x, rw9 r x = rw9 r' x := fun x => by unfold rw9; rw [h9]
    have gc : cwR r ra ma p rb mb s = cwR r' ra ma p rb mb s := by unfold cwR; rw [g ra, g rb]
    rw [owF, owF, gc, g ra, g rb, ih]
theorem ordF_c {r r' : rA} (h : rowsEq r r') (ra ma rb mb : Nat) : ordF r ra ma rb mb = ordF r' ra ma rb mb := by
  have g := owF_c h
  obtain ⟨h5, h6, h7, h8, h9, h10, h11, h12⟩ := h
  simp only [ordF, oT, h5, h6, h7, h8, g]
theorem metF_c {r r' : rA} (h : rowsEq r r') (g k mk i mi : Nat) : metF r g k mk i mi = metF r' g k mk i mi := by
  have g := ordF_c h i mi k mk
  obtain ⟨h5, h6, h7, h8, h9, h10, h11, h12⟩ := h
  unfold metF bnF oT
  rw [g, h5, h6, h7, h8, h11]
theorem maF_c {r r' : rA} (h : rowsEq r r') (q i : Nat) : maF r q i = maF r' q i := by
  have g := metF_c h
  obtain ⟨h5, h6, h7, h8, h9, h10, h11, h12⟩ := h
  have g1 : ∀ m, alF r i (41 + 4 * q) m = alF r' i (41 + 4 * q) m := by
    intro m
    induction m with
    | zero => rfl
    | succ m ih => simp only [alF, ih, g, sgn, wsz, h8, h10]
  have g2 : ∀ m, nmF r i (41 + 4 * q) m = nmF r' i (41 + 4 * q) m := by
    intro m
    induction m with
    | zero => unfold nmF wsz; rw [h8]
    | succ m ih => simp only [nmF, ih, nmd, h5, h6, h7, h8]
  simp only [maF, g1, g2, cnt, h12]
theorem rowsEq_w {r : rA} {k : Nat} {g : Nat → Int32} (h : 12 < k) : rowsEq (rwr r k g) r := ⟨rwr_n (by omega), rwr_n (by omega), rwr_n (by omega), rwr_n (by omega), rwr_n (by omega), rwr_n (by omega), rwr_n (by omega), rwr_n (by omega)⟩
theorem gbF_w {r : rA} {A : Nat → Int32} {p i j : Nat} : gbF (rwr r 25 A) p i j = gbF r p i j := by
  unfold gbF
  rw [ordF_c (rowsEq_w (by omega))]
  rfl
theorem nI_dec (m : Nat) : nI (m + 1) + Int32.ofInt (-1) = nI m := by
  have h := nI_pred m
  rw [Int32.sub_eq_add_neg] at h
  exact h
/-- version i among those laid so far, the last one first -/
def insL (r : rA) (p i : Nat) : List Nat → List Nat
  | [] => [i]
  | x :: R => if gbF r p i x = true then x :: insL r p i R else i :: x :: R
theorem insL_len (r : rA) (p i : Nat) : ∀ L, (insL r p i L).length = L.length + 1
  | [] => rfl
  | x :: R => by
    unfold insL
    split
    · simp [insL_len r p i R]
    · rfl
theorem insL_mem (r : rA) (p i : Nat) : ∀ (L : List Nat) (y : Nat), y ∈ insL r p i L ↔ y = i ∨ y ∈ L
  | [], y => by simp [insL]
  | x :: R, y => by
    unfold insL
    split
    · simp only [List.mem_cons, insL_mem r p i R y]
      constructor
      · rintro (h | h | h)
        · exact Or.inr (Or.inl h)
        · exact Or.inl h
        · exact Or.inr (Or.inr h)
      · rintro (h | h | h)
        · exact Or.inr (Or.inl h)
        · exact Or.inl h
        · exact Or.inr (Or.inr h)
    · simp only [List.mem_cons]
/-- may version k of package p be chosen? -/
def elg (r : rA) (p k : Nat) : Bool := decide (r 16 k = nI p) && (decide (r 17 k = 0) || decide (r 21 p = nI k))
theorem elg_iff {r : rA} {p k : Nat} : elg r p k = true ↔ r 16 k = nI p ∧ (r 17 k = 0 ∨ r 21 p = nI k) := by simp [elg]
def lyL (r : rA) (p : Nat) : Nat → List Nat
  | 0 => []
  | k + 1 => if elg r p k = true then insL r p k (lyL r p k) else lyL r p k
theorem lyL_len (r : rA) (p : Nat) : ∀ k, (lyL r p k).length ≤ k
  | 0 => Nat.le_refl _
  | k + 1 => by
    have := lyL_len r p k
    unfold lyL
    split
    · rw [insL_len]; omega
    · omega
theorem lyL_mem (r : rA) (p : Nat) : ∀ (k y : Nat), y ∈ lyL r p k ↔ y < k ∧ elg r p y = true
  | 0, y => by simp [lyL]
  | k + 1, y => by
    unfold lyL
    split
    · rename_i h
      rw [insL_mem, lyL_mem r p k y]
      constructor
      · rintro (e | ⟨e, g⟩)
        · subst e; exact ⟨by omega, h⟩
        · exact ⟨by omega, g⟩
      · rintro ⟨e, g⟩
        by_cases e2 : y = k
        · exact Or.inl e2
        · exact Or.inr ⟨by omega, g⟩
    · rename_i h
      rw [lyL_mem r p k y]
      constructor
      · rintro ⟨e, g⟩; exact ⟨by omega, g⟩
      · rintro ⟨e, g⟩
        by_cases e2 : y = k
        · subst e2; exact absurd g h
        · exact ⟨by omega, g⟩
/-- a list, its last one first, lies in an array from o on -/
def layd (A : Nat → Int32) (o : Nat) (L : List Nat) : Prop := ∀ t, t < L.length → A (o + t) = nI (L.getD (L.length - 1 - t) 0)
theorem layd_top {A : Nat → Int32} {o x : Nat} {R : List Nat} (h : layd A o (x :: R)) : A (o + R.length) = nI x := by
  have := h R.length (by simp)
  simpa using this
theorem layd_tl {A : Nat → Int32} {o x : Nat} {R : List Nat} (h : layd A o (x :: R)) : layd A o R := by
  intro t ht
  have := h t (by simp; omega)
  rw [this, List.length_cons, show R.length + 1 - 1 - t = (R.length - 1 - t) + 1 by omega, List.getD_cons_succ]
theorem layd_cons {A : Nat → Int32} {o x : Nat} {R : List Nat} (h : layd A o R) (hx : A (o + R.length) = nI x) : layd A o (x :: R) := by
  intro t ht
  rw [List.length_cons] at ht
  by_cases e : t = R.length
  · subst e
    simpa using hx
  · rw [h t (by omega), List.length_cons, show R.length + 1 - 1 - t = (R.length - 1 - t) + 1 by omega, List.getD_cons_succ]
theorem layd_fr {A B : Nat → Int32} {o : Nat} {R : List Nat} (h : layd A o R) (hB : ∀ t, t < R.length → B (o + t) = A (o + t)) : layd B o R := fun t ht => (hB t ht).trans (h t ht)
set_option maxHeartbeats 1000000 in
theorem l_lf1 {q : Nat} {qa : Nat → Nat} {d c n a v f : Nat} {b : Bool} {r : rA} {Q : rS → (Option zV ⊕ Nat) → Prop} {k : Nat} (hk8 : k < 8 + 5 * v) (hv : v ≤ 40) (hV : ∀ i, i < v → rowOK r i) (hq : ∀ k, k < 8 + 5 * v → r 12 k = nI (cnt r k) ∧ cnt r k ≤ 5 ∧ ∀ m, m < cnt r k → rowOK r (41 + 4 * k + m)) (hE : ∀ F : Nat → Int32, (∀ j i, j < k + 1 → i < v → F (40 * j + i) = bI (maF r j i)) → rEv q qa (d + 6) tb_133 Q 48 [some (zR (some q)), some (zI (nI k)), some (zI (nI v))] [] (c, n, a, b, v, f, rwr r 28 F)) : ∀ m, m ≤ v → ∀ (F : Nat → Int32) (hF : ∀ j i, j < k → i < v → F (40 * j + i) = bI (maF r j i)) (hG : ∀ i, i < m → F (40 * k + i) = bI (maF r k i)), rEv q qa (d + 6) tb_133 Q 17 [some (zR (some q)), some (zI (nI k)), some (zI (nI m))] [] (c, n, a, b, v, f, rwr r 28 F) := by
  refine dn v (fun m hk ih F hF hG => ?_)
  refine r_ild rfl rfl ?_
  refine r_ald rfl rfl ?_
  refine r_get rfl rfl ?_
  refine r_cmpN (by omega) (by omega) rfl (fun h_1 => ?_) (fun h_1 => ?_)
  · replace h_1 : v ≤ m := h_1
    have h3 : m = v := by omega
    subst h3
    exact hE F (fun j i hj hi => by by_cases e : j = k; (subst e; exact hG i hi); exact hF j i (by omega) hi)
  · replace h_1 := Nat.not_le.mp h_1
    refine r_ald rfl rfl ?_
    refine r_get rfl rfl ?_
    refine r_ico (x := (nI 40)) rfl rfl ?_
    refine r_ild rfl rfl ?_
    refine r_ibi (v := (nI (40 * k))) rfl (pk_mul _ _) ?_
    refine r_ild rfl rfl ?_
    refine r_ibi (v := (nI (40 * k + m))) rfl (nI_add _ _) ?_
    refine r_ald rfl rfl ?_
    refine r_ild rfl rfl ?_
    refine r_ild rfl rfl ?_
    refine r_call (as := [zR (some q), zI (nI k), zI (nI m)]) (r := [zI (nI (40 * k + m)), zR (some (qa 28))]) (s' := (c, n, a, b, v, f, rwr r 28 F)) (v := some (zI (bI (maF (rwr r 28 F) k m)))) rfl rfl rfl (Nat.le_of_ble_eq_true rfl) (Or.inr ⟨rfl, rfl, _, rfl⟩) (c_meetsAll (r := rwr r 28 F) (by omega) (by omega) (hV m (by omega)) (hq k (by omega)).1 (hq k (by omega)).2.1 (hq k (by omega)).2.2) ?_
    refine r_iastN (k0 := 28) (x' := (bI (maF (rwr r 28 F) k m))) rfl rfl (by omega) (by decide) (znar_b _) ?_
    refine r_inc (x' := (nI (m + 1))) (ls' := [some (zR (some q)), some (zI (nI k)), some (zI (nI (m + 1)))]) rfl rfl (nI_1 _) rfl ?_
    refine r_go rfl ?_
    rw [rset_rwr, maF_c (rowsEq_w (by omega))]
    refine ih (by omega) _ ?_ ?_
    · intro j i hj hi
      unfold upd
      rw [if_neg (by omega)]
      exact hF j i hj hi
    · intro i hi
      unfold upd
      by_cases e : i = m
      · rw [e, if_pos rfl]
      · rw [if_neg (by omega)]
        exact hG i (by omega)
set_option maxHeartbeats 1000000 in
theorem l_lf2 {q : Nat} {qa : Nat → Nat} {d c n a v f : Nat} {b : Bool} {r : rA} {Q : rS → (Option zV ⊕ Nat) → Prop}  (hv : v ≤ 40) (hV : ∀ i, i < v → rowOK r i) (hq : ∀ k, k < 8 + 5 * v → r 12 k = nI (cnt r k) ∧ cnt r k ≤ 5 ∧ ∀ m, m < cnt r k → rowOK r (41 + 4 * k + m)) (hE : ∀ F : Nat → Int32, (∀ j i, j < 8 + 5 * v → i < v → F (40 * j + i) = bI (maF r j i)) → Q (c, n, a, b, v, f, rwr r 28 F) (.inl none)) : ∀ k, k ≤ 8 + 5 * v → ∀ (F : Nat → Int32) (hF : ∀ j i, j < k → i < v → F (40 * j + i) = bI (maF r j i)) (x2 : Option zV), rEv q qa (d + 6) tb_133 Q 2 [some (zR (some q)), some (zI (nI k)), x2] [] (c, n, a, b, v, f, rwr r 28 F) := by
  refine dn (8 + 5 * v) (fun k hk ih F hF x2 => ?_)
  refine r_ild rfl rfl ?_
  refine r_ico (x := (nI 8)) rfl rfl ?_
  refine r_ico (x := (nI 5)) rfl rfl ?_
  refine r_ald rfl rfl ?_
  refine r_get rfl rfl ?_
  refine r_ibi (v := (nI (5 * v))) rfl (pk_mul _ _) ?_
  refine r_ibi (v := (nI (8 + (5 * v)))) rfl (nI_add _ _) ?_
  refine r_cmpN (by omega) (by omega) rfl (fun h_1 => ?_) (fun h_1 => ?_)
  · replace h_1 : 8 + (5 * v) ≤ k := h_1
    refine r_rtv rfl ?_
    exact hE F (fun j i hj hi => hF j i (by omega) hi)
  · replace h_1 := Nat.not_le.mp h_1
    refine r_ico (x := (nI 0)) rfl rfl ?_
    refine r_ist (ls' := [some (zR (some q)), some (zI (nI k)), some (zI (nI 0))]) rfl (Nat.le_of_ble_eq_true rfl) rfl ?_
    refine l_lf1 (by omega) hv hV hq ?_ 0 (by omega) F hF (fun i hi => absurd hi (by omega))
    intro F hF
    refine r_inc (x' := (nI (k + 1))) (ls' := [some (zR (some q)), some (zI (nI (k + 1))), some (zI (nI v))]) rfl rfl (nI_1 _) rfl ?_
    refine r_go rfl ?_
    exact ih (by omega) F hF _
set_option maxHeartbeats 1000000 in
theorem c_layFits {q : Nat} {qa : Nat → Nat} {d c n a v f : Nat} {b : Bool} {r : rA} (hv : v ≤ 40) (hV : ∀ i, i < v → rowOK r i) (hq : ∀ k, k < 8 + 5 * v → r 12 k = nI (cnt r k) ∧ cnt r k ≤ 5 ∧ ∀ m, m < cnt r k → rowOK r (41 + 4 * k + m)) : rCall q qa (d + 7) 133 [zR (some q)] (c, n, a, b, v, f, r) (fun s o => (∃ F : Nat → Int32, s = (c, n, a, b, v, f, rwr r 28 F) ∧ ∀ j i, j < 8 + 5 * v → i < v → F (40 * j + i) = bI (maF r j i)) ∧ o = .inl none) := by
  refine rCall.of (d := d + 6) (T := tb_133) (L := [some (zR (some q)), none, none]) (Nat.le_of_ble_eq_true rfl) rfl rfl ?_
  refine r_ico (x := (nI 0)) rfl rfl ?_
  refine r_ist (ls' := [some (zR (some q)), some (zI (nI 0)), none]) rfl (Nat.le_of_ble_eq_true rfl) rfl ?_
  refine rEv_rr (rwr_i r 28) ?_
  exact l_lf2 hv hV hq (fun F hF => ⟨⟨F, rfl, hF⟩, rfl⟩) 0 (by omega) (r 28) (fun j i hj hi => absurd hj (by omega)) none
set_option maxHeartbeats 1000000 in
theorem l_lo1 {q : Nat} {qa : Nat → Nat} {d c n a v f : Nat} {b : Bool} {r : rA} {Q : rS → (Option zV ⊕ Nat) → Prop} {p nn fs i : Nat} (hp : p < 8) (hfs : fs ≤ 1) (hi : i < 40) (hI : rowOK r i) : ∀ (L : List Nat), L.length ≤ 39 → (∀ x, x ∈ L → x < 40 ∧ rowOK r x) → ∀ (A : Nat → Int32), layd A (41 * p + fs) L → (hE : ∀ A' : Nat → Int32, layd A' (41 * p + fs) (insL r p i L) → (∀ y, y < 41 * p + fs ∨ 41 * p + fs + L.length < y → A' y = A y) → ∀ k5 : Nat, rEv q qa (d + 5) tb_131 Q 148 [some (zR (some q)), some (zI (nI p)), some (zI (nI nn)), some (zI (nI fs)), some (zI (nI i)), some (zI (nI k5))] [] (c, n, a, b, v, f, rwr r 25 A')) → rEv q qa (d + 5) tb_131 Q 72 [some (zR (some q)), some (zI (nI p)), some (zI (nI nn)), some (zI (nI fs)), some (zI (nI i)), some (zI (nI (fs + L.length)))] [] (c, n, a, b, v, f, rwr r 25 A) := by
  intro L
  induction L with
  | nil =>
    intro hl hL A hA hE
    refine r_ild rfl rfl ?_
    refine r_ild rfl rfl ?_
    refine r_cmpN (by omega) (by omega) rfl (fun h_1 => ?_) (fun h_1 => ?_)
    · replace h_1 : fs ≤ fs := h_1
      refine r_ald rfl rfl ?_
      refine r_get rfl rfl ?_
      refine r_ico (x := (nI 41)) rfl rfl ?_
      refine r_ild rfl rfl ?_
      refine r_ibi (v := (nI (41 * p))) rfl (pk_mul _ _) ?_
      refine r_ild rfl rfl ?_
      refine r_ibi (v := (nI (41 * p + fs))) rfl (nI_add _ _) ?_
      refine r_ild rfl rfl ?_
      refine r_iastN (k0 := 25) (x' := (nI i)) rfl rfl (by omega) (by decide) rfl ?_
      rw [rset_rwr]
      refine hE _ ?_ ?_ fs
      · intro t ht
        have h0 : t = 0 := by simp [insL] at ht; omega
        subst h0
        show upd A (41 * p + fs) (nI i) (41 * p + fs) = nI i
        simp [upd]
      · intro y hy
        unfold upd
        rw [if_neg (by simp at hy; omega)]
    · replace h_1 := Nat.not_le.mp h_1
      exact absurd h_1 (Nat.lt_irrefl _)
  | cons x R ih =>
    intro hl hL A hA hE
    have hA1 : A (41 * p + (fs + R.length + 1) - 1) = nI x := by rw [show 41 * p + (fs + R.length + 1) - 1 = 41 * p + fs + R.length by omega]; exact layd_top hA
    have hl2 : R.length + 1 ≤ 39 := hl
    refine r_ild rfl rfl ?_
    refine r_ild rfl rfl ?_
    refine r_cmpN (by omega) (by omega) rfl (fun h_1 => ?_) (fun h_1 => ?_)
    · replace h_1 : fs + R.length + 1 ≤ fs := h_1
      omega
    · replace h_1 := Nat.not_le.mp h_1
      refine r_ald rfl rfl ?_
      refine r_ild rfl rfl ?_
      refine r_ild rfl rfl ?_
      refine r_ald rfl rfl ?_
      refine r_get rfl rfl ?_
      refine r_ico (x := (nI 41)) rfl rfl ?_
      refine r_ild rfl rfl ?_
      refine r_ibi (v := (nI (41 * p))) rfl (pk_mul _ _) ?_
      refine r_ild rfl rfl ?_
      refine r_ibi (v := (nI (41 * p + (fs + R.length + 1)))) rfl (nI_add _ _) ?_
      refine r_ico (x := (nI 1)) rfl rfl ?_
      refine r_ibi (v := (nI (41 * p + (fs + R.length + 1) - 1))) rfl (pk_sub (by omega)) ?_
      refine r_ialdN (k0 := 25) rfl rfl (by omega) (by decide) ?_
      refine r_top (y := (nI x)) hA1 ?_
      refine r_call (as := [zR (some q), zI (nI p), zI (nI i), zI (nI x)]) (r := []) (s' := (c, n, a, b, v, f, rwr r 25 A)) (v := some (zI (bI (gbF (rwr r 25 A) p i x)))) rfl rfl rfl (Nat.le_of_ble_eq_true rfl) (Or.inr ⟨rfl, rfl, _, rfl⟩) (c_goesBefore (r := rwr r 25 A) hp (by omega) (hL x (List.mem_cons_self ..)).1 hI (hL x (List.mem_cons_self ..)).2) ?_
      refine r_ifB0 rfl (fun h_2 => ?_) (fun h_2 => ?_)
      · refine r_ald rfl rfl ?_
        refine r_get rfl rfl ?_
        refine r_ico (x := (nI 41)) rfl rfl ?_
        refine r_ild rfl rfl ?_
        refine r_ibi (v := (nI (41 * p))) rfl (pk_mul _ _) ?_
        refine r_ild rfl rfl ?_
        refine r_ibi (v := (nI (41 * p + (fs + R.length + 1)))) rfl (nI_add _ _) ?_
        refine r_ild rfl rfl ?_
        refine r_iastN (k0 := 25) (x' := (nI i)) rfl rfl (by omega) (by decide) rfl ?_
        rw [rset_rwr]
        rw [gbF_w] at h_2
        have h7 : insL r p i (x :: R) = i :: x :: R := by rw [insL, if_neg (by rw [h_2]; decide)]
        refine hE _ ?_ ?_ _
        · rw [h7]
          refine layd_cons (layd_fr hA (fun t ht => ?_)) ?_
          · have ht2 : t < R.length + 1 := ht
            unfold upd
            rw [if_neg (by omega)]
          · show upd A _ _ (41 * p + fs + (R.length + 1)) = _
            unfold upd
            rw [if_pos (by omega)]
        · intro y hy
          have hy2 : y < 41 * p + fs ∨ 41 * p + fs + (R.length + 1) < y := hy
          unfold upd
          rw [if_neg (by omega)]
      · refine r_ald rfl rfl ?_
        refine r_get rfl rfl ?_
        refine r_ico (x := (nI 41)) rfl rfl ?_
        refine r_ild rfl rfl ?_
        refine r_ibi (v := (nI (41 * p))) rfl (pk_mul _ _) ?_
        refine r_ild rfl rfl ?_
        refine r_ibi (v := (nI (41 * p + (fs + R.length + 1)))) rfl (nI_add _ _) ?_
        refine r_ald rfl rfl ?_
        refine r_get rfl rfl ?_
        refine r_ico (x := (nI 41)) rfl rfl ?_
        refine r_ild rfl rfl ?_
        refine r_ibi (v := (nI (41 * p))) rfl (pk_mul _ _) ?_
        refine r_ild rfl rfl ?_
        refine r_ibi (v := (nI (41 * p + (fs + R.length + 1)))) rfl (nI_add _ _) ?_
        refine r_ico (x := (nI 1)) rfl rfl ?_
        refine r_ibi (v := (nI (41 * p + (fs + R.length + 1) - 1))) rfl (pk_sub (by omega)) ?_
        refine r_ialdN (k0 := 25) rfl rfl (by omega) (by decide) ?_
        refine r_top (y := (nI x)) hA1 ?_
        refine r_iastN (k0 := 25) (x' := (nI x)) rfl rfl (by omega) (by decide) rfl ?_
        refine r_inc (x' := (nI (fs + R.length))) (ls' := [some (zR (some q)), some (zI (nI p)), some (zI (nI nn)), some (zI (nI fs)), some (zI (nI i)), some (zI (nI (fs + R.length)))]) rfl rfl (nI_dec _) rfl ?_
        refine r_go rfl ?_
        rw [rset_rwr]
        rw [gbF_w] at h_2
        have h7 : insL r p i (x :: R) = x :: insL r p i R := by rw [insL, if_pos h_2]
        refine ih (by omega) (fun y hy => hL y (List.mem_cons_of_mem _ hy)) _ (layd_fr (layd_tl hA) (fun t ht => ?_)) ?_
        · unfold upd
          rw [if_neg (by omega)]
        · intro A' h1 h2 k5
          refine hE A' ?_ ?_ k5
          · rw [h7]
            refine layd_cons h1 ?_
            rw [insL_len, h2 _ (Or.inr (by omega))]
            unfold upd
            rw [if_pos (by omega)]
          · intro y hy
            have hy2 : y < 41 * p + fs ∨ 41 * p + fs + (R.length + 1) < y := hy
            rw [h2 y (by omega)]
            unfold upd
            rw [if_neg (by omega)]
set_option maxHeartbeats 1000000 in
theorem l_lo2 {q : Nat} {qa : Nat → Nat} {d c n a v f : Nat} {b : Bool} {r : rA} {Q : rS → (Option zV ⊕ Nat) → Prop} {p fs : Nat} {B : Nat → Int32} (hp : p < 8) (hfs : fs ≤ 1) (hv : v ≤ 40) (hV : ∀ i, i < v → rowOK r i) (hE : ∀ A : Nat → Int32, layd A (41 * p + fs) (lyL r p v) → (∀ y, y < 41 * p + fs ∨ 41 * p + 41 ≤ y → A y = B y) → ∀ x5, rEv q qa (d + 5) tb_131 Q 157 [some (zR (some q)), some (zI (nI p)), some (zI (nI (fs + (lyL r p v).length))), some (zI (nI fs)), some (zI (nI v)), x5] [] (c, n, a, b, v, f, rwr r 25 A)) : ∀ k, k ≤ v → ∀ (A : Nat → Int32) (hA : layd A (41 * p + fs) (lyL r p k)) (hF : ∀ y, y < 41 * p + fs ∨ 41 * p + 41 ≤ y → A y = B y) (x5 : Option zV), rEv q qa (d + 5) tb_131 Q 28 [some (zR (some q)), some (zI (nI p)), some (zI (nI (fs + (lyL r p k).length))), some (zI (nI fs)), some (zI (nI k)), x5] [] (c, n, a, b, v, f, rwr r 25 A) := by
  refine dn v (fun k hk ih A hA hF x5 => ?_)
  refine r_ild rfl rfl ?_
  refine r_ald rfl rfl ?_
  refine r_get rfl rfl ?_
  refine r_cmpN (by omega) (by omega) rfl (fun h_1 => ?_) (fun h_1 => ?_)
  · replace h_1 : v ≤ k := h_1
    have h3 : k = v := by omega
    subst h3
    exact hE A hA hF _
  · replace h_1 := Nat.not_le.mp h_1
    refine r_ald rfl rfl ?_
    refine r_get rfl rfl ?_
    refine r_ild rfl rfl ?_
    refine r_ialdN (k0 := 16) rfl rfl (by omega) (by decide) ?_
    refine r_ild rfl rfl ?_
    refine r_cmp rfl (fun h_2 => ?_) (fun h_2 => ?_)
    · replace h_2 : ¬ ((rwr r 25 A) 16 k) = (nI p) := h_2
      refine r_inc (x' := (nI (k + 1))) (ls' := [some (zR (some q)), some (zI (nI p)), some (zI (nI (fs + (lyL r p k).length))), some (zI (nI fs)), some (zI (nI (k + 1))), x5]) rfl rfl (nI_1 _) rfl ?_
      refine r_go rfl ?_
      have h7 : lyL r p (k + 1) = lyL r p k := by rw [lyL, if_neg (fun e0 => let e := (elg_iff (r := r) (p := p) (k := k)).mp e0; h_2 e.1)]
      rw [h7] at ih
      exact ih (by omega) A hA hF _
    · replace h_2 : ((rwr r 25 A) 16 k) = (nI p) := Decidable.of_not_not h_2
      refine r_ald rfl rfl ?_
      refine r_get rfl rfl ?_
      refine r_ild rfl rfl ?_
      refine r_ialdN (k0 := 17) rfl rfl (by omega) (by decide) ?_
      refine r_if rfl (fun h_3 => ?_) (fun h_3 => ?_)
      · replace h_3 : ((rwr r 25 A) 17 k) = 0 := h_3
        have h8 : lyL r p (k + 1) = insL r p k (lyL r p k) := by rw [lyL, if_pos ((elg_iff (r := r) (p := p) (k := k)).mpr ⟨h_2, Or.inl h_3⟩)]
        have h9 := lyL_len r p k
        refine r_ild rfl rfl ?_
        refine r_ist (ls' := [some (zR (some q)), some (zI (nI p)), some (zI (nI (fs + (lyL r p k).length))), some (zI (nI fs)), some (zI (nI k)), some (zI (nI (fs + (lyL r p k).length)))]) rfl (Nat.le_of_ble_eq_true rfl) rfl ?_
        refine l_lo1 hp hfs (by omega) (hV k (by omega)) (lyL r p k) (by omega) (fun x hx => ⟨by have := ((lyL_mem r p k x).mp hx).1; omega, hV x (by have := ((lyL_mem r p k x).mp hx).1; omega)⟩) A hA ?_
        intro A' h1 h2 k5
        refine r_inc (x' := (nI (fs + (lyL r p k).length + 1))) (ls' := [some (zR (some q)), some (zI (nI p)), some (zI (nI (fs + (lyL r p k).length + 1))), some (zI (nI fs)), some (zI (nI k)), some (zI (nI k5))]) rfl rfl (nI_1 _) rfl ?_
        refine r_inc (x' := (nI (k + 1))) (ls' := [some (zR (some q)), some (zI (nI p)), some (zI (nI (fs + (lyL r p k).length + 1))), some (zI (nI fs)), some (zI (nI (k + 1))), some (zI (nI k5))]) rfl rfl (nI_1 _) rfl ?_
        refine r_go rfl ?_
        rw [h8, insL_len] at ih
        refine ih (by omega) A' h1 (fun y hy => ?_) _
        rw [h2 y (by omega)]
        exact hF y hy
      · replace h_3 : ¬ (((rwr r 25 A) 17 k) = 0) := h_3
        refine r_ald rfl rfl ?_
        refine r_get rfl rfl ?_
        refine r_ild rfl rfl ?_
        refine r_ialdN (k0 := 21) rfl rfl (by omega) (by decide) ?_
        refine r_ild rfl rfl ?_
        refine r_cmp rfl (fun h_4 => ?_) (fun h_4 => ?_)
        · replace h_4 : ¬ ((rwr r 25 A) 21 p) = (nI k) := h_4
          refine r_inc (x' := (nI (k + 1))) (ls' := [some (zR (some q)), some (zI (nI p)), some (zI (nI (fs + (lyL r p k).length))), some (zI (nI fs)), some (zI (nI (k + 1))), x5]) rfl rfl (nI_1 _) rfl ?_
          refine r_go rfl ?_
          have h7 : lyL r p (k + 1) = lyL r p k := by rw [lyL, if_neg (fun e0 => let e := (elg_iff (r := r) (p := p) (k := k)).mp e0; e.2.elim h_3 h_4)]
          rw [h7] at ih
          exact ih (by omega) A hA hF _
        · replace h_4 : ((rwr r 25 A) 21 p) = (nI k) := Decidable.of_not_not h_4
          have h8 : lyL r p (k + 1) = insL r p k (lyL r p k) := by rw [lyL, if_pos ((elg_iff (r := r) (p := p) (k := k)).mpr ⟨h_2, Or.inr h_4⟩)]
          have h9 := lyL_len r p k
          refine r_ild rfl rfl ?_
          refine r_ist (ls' := [some (zR (some q)), some (zI (nI p)), some (zI (nI (fs + (lyL r p k).length))), some (zI (nI fs)), some (zI (nI k)), some (zI (nI (fs + (lyL r p k).length)))]) rfl (Nat.le_of_ble_eq_true rfl) rfl ?_
          refine l_lo1 hp hfs (by omega) (hV k (by omega)) (lyL r p k) (by omega) (fun x hx => ⟨by have := ((lyL_mem r p k x).mp hx).1; omega, hV x (by have := ((lyL_mem r p k x).mp hx).1; omega)⟩) A hA ?_
          intro A' h1 h2 k5
          refine r_inc (x' := (nI (fs + (lyL r p k).length + 1))) (ls' := [some (zR (some q)), some (zI (nI p)), some (zI (nI (fs + (lyL r p k).length + 1))), some (zI (nI fs)), some (zI (nI k)), some (zI (nI k5))]) rfl rfl (nI_1 _) rfl ?_
          refine r_inc (x' := (nI (k + 1))) (ls' := [some (zR (some q)), some (zI (nI p)), some (zI (nI (fs + (lyL r p k).length + 1))), some (zI (nI fs)), some (zI (nI (k + 1))), some (zI (nI k5))]) rfl rfl (nI_1 _) rfl ?_
          refine r_go rfl ?_
          rw [h8, insL_len] at ih
          refine ih (by omega) A' h1 (fun y hy => ?_) _
          rw [h2 y (by omega)]
          exact hF y hy
set_option maxHeartbeats 1000000 in
theorem c_layOut {q : Nat} {qa : Nat → Nat} {d c n a v f : Nat} {b : Bool} {r : rA} {p : Nat} (hp : p < 8) (hv : v ≤ 40) (hV : ∀ i, i < v → rowOK r i) : rCall q qa (d + 6) 131 [zR (some q), zI (nI p)] (c, n, a, b, v, f, r) (fun s o => (∃ (A : Nat → Int32) (fs : Nat), s = (c, n, a, b, v, f, rset (rset (rwr r 25 A) 26 p (nI (fs + (lyL r p v).length))) 27 p (nI 0)) ∧ (if r 20 p = 0 then fs = 1 ∧ A (41 * p) = -1 else fs = 0) ∧ layd A (41 * p + fs) (lyL r p v) ∧ (∀ y, y < 41 * p ∨ 41 * p + 41 ≤ y → A y = r 25 y)) ∧ o = .inl none) := by
  refine rCall.of (d := d + 5) (T := tb_131) (L := [some (zR (some q)), some (zI (nI p)), none, none, none, none]) (Nat.le_of_ble_eq_true rfl) rfl rfl ?_
  refine r_ico (x := (nI 0)) rfl rfl ?_
  refine r_ist (ls' := [some (zR (some q)), some (zI (nI p)), some (zI (nI 0)), none, none, none]) rfl (Nat.le_of_ble_eq_true rfl) rfl ?_
  refine r_ald rfl rfl ?_
  refine r_get rfl rfl ?_
  refine r_ild rfl rfl ?_
  refine r_ialdN (k0 := 20) rfl rfl (by omega) (by decide) ?_
  refine r_if rfl (fun h_1 => ?_) (fun h_1 => ?_)
  · replace h_1 : ¬ (r 20 p) = 0 := h_1
    refine r_ild rfl rfl ?_
    refine r_ist (ls' := [some (zR (some q)), some (zI (nI p)), some (zI (nI 0)), some (zI (nI 0)), none, none]) rfl (Nat.le_of_ble_eq_true rfl) rfl ?_
    refine r_ico (x := (nI 0)) rfl rfl ?_
    refine r_ist (ls' := [some (zR (some q)), some (zI (nI p)), some (zI (nI 0)), some (zI (nI 0)), some (zI (nI 0)), none]) rfl (Nat.le_of_ble_eq_true rfl) rfl ?_
    refine rEv_rr (rwr_i r 25) ?_
    refine l_lo2 (fs := 0) (B := r 25) hp (by omega) hv hV ?_ 0 (by omega) (r 25) (fun t ht => absurd ht (by simp [lyL])) (fun y _ => rfl) none
    intro A hA hF x5
    refine r_ald rfl rfl ?_
    refine r_get rfl rfl ?_
    refine r_ild rfl rfl ?_
    refine r_ild rfl rfl ?_
    refine r_iastN (k0 := 26) (x' := (nI (0 + (lyL r p v).length))) rfl rfl (by omega) (by decide) rfl ?_
    refine r_ald rfl rfl ?_
    refine r_get rfl rfl ?_
    refine r_ild rfl rfl ?_
    refine r_ico (x := (nI 0)) rfl rfl ?_
    refine r_iastN (k0 := 27) (x' := (nI 0)) rfl rfl (by omega) (by decide) rfl ?_
    refine r_rtv rfl ?_
    exact ⟨⟨A, 0, rfl, by rw [if_neg h_1], hA, fun y hy => hF y (by omega)⟩, rfl⟩
  · replace h_1 : (r 20 p) = 0 := Decidable.of_not_not h_1
    refine r_ald rfl rfl ?_
    refine r_get rfl rfl ?_
    refine r_ico (x := (nI 41)) rfl rfl ?_
    refine r_ild rfl rfl ?_
    refine r_ibi (v := (nI (41 * p))) rfl (pk_mul _ _) ?_
    refine r_ico (x := (-1)) rfl rfl ?_
    refine r_iastN (k0 := 25) (x' := (-1)) rfl rfl (by omega) (by decide) rfl ?_
    refine r_ico (x := (nI 1)) rfl rfl ?_
    refine r_ist (ls' := [some (zR (some q)), some (zI (nI p)), some (zI (nI 1)), none, none, none]) rfl (Nat.le_of_ble_eq_true rfl) rfl ?_
    refine r_ild rfl rfl ?_
    refine r_ist (ls' := [some (zR (some q)), some (zI (nI p)), some (zI (nI 1)), some (zI (nI 1)), none, none]) rfl (Nat.le_of_ble_eq_true rfl) rfl ?_
    refine r_ico (x := (nI 0)) rfl rfl ?_
    refine r_ist (ls' := [some (zR (some q)), some (zI (nI p)), some (zI (nI 1)), some (zI (nI 1)), some (zI (nI 0)), none]) rfl (Nat.le_of_ble_eq_true rfl) rfl ?_
    show rEv _ _ _ _ _ _ _ _ (c, n, a, b, v, f, rwr r 25 (upd (r 25) (41 * p) (-1)))
    refine l_lo2 (fs := 1) (B := upd (r 25) (41 * p) (-1)) hp (by omega) hv hV ?_ 0 (by omega) _ (fun t ht => absurd ht (by simp [lyL])) (fun y _ => rfl) none
    intro A hA hF x5
    refine r_ald rfl rfl ?_
    refine r_get rfl rfl ?_
    refine r_ild rfl rfl ?_
    refine r_ild rfl rfl ?_
    refine r_iastN (k0 := 26) (x' := (nI (1 + (lyL r p v).length))) rfl rfl (by omega) (by decide) rfl ?_
    refine r_ald rfl rfl ?_
    refine r_get rfl rfl ?_
    refine r_ild rfl rfl ?_
    refine r_ico (x := (nI 0)) rfl rfl ?_
    refine r_iastN (k0 := 27) (x' := (nI 0)) rfl rfl (by omega) (by decide) rfl ?_
    refine r_rtv rfl ?_
    refine ⟨⟨A, 1, rfl, ?_, hA, fun y hy => ?_⟩, rfl⟩
    · rw [if_pos h_1]
      refine ⟨rfl, ?_⟩
      rw [hF _ (Or.inl (by omega))]
      simp [upd]
    · rw [hF y (by omega)]
      unfold upd
      rw [if_neg (by omega)]
