/-! Rows that hold the same: what is read from them is the same. -/
theorem bsL_cg {x y : Nat → Int32} : ∀ n k, (∀ j, k ≤ j → j < k + n → x j = y j) → bsL x n k = bsL y n k
  | 0, _, _ => rfl
  | n + 1, k, h => by rw [bsL, bsL, h k (by omega) (by omega), bsL_cg n (k + 1) (fun j a b => h j (by omega) (by omega))]
theorem wkL_cg {x y : Nat → Int32} {la : Nat} (h : ∀ j, j < la → x j = y j) : wkL x la = wkL y la := by
  rw [wkL, wkL, alld_cg la h, bsL_cg la 0 (fun j _ b => h j (by omega))]
theorem kwF_cg {w w' : Nat → Int32} {m : Nat} (h : ∀ j, j < m → w j = w' j) : ∀ j p, kwF w m j p = kwF w' m j p
  | 0, _ => rfl
  | j + 1, p => by
    rw [kwF, kwF, spn_cg (q := noPt) (a := p) h]
    by_cases c : p < m
    · have l2 : spn noPt w' m p ≤ m := spn_le (by omega)
      rw [if_pos c, if_pos c, kwF_cg h j, wkL_cg (x := fun i => w (p + i)) (y := fun i => w' (p + i)) (fun i hi => h (p + i) (by omega))]
    · rw [if_neg c, if_neg c]
theorem keyV_cg {V U : vV} (h : vEq V U) : keyV V = keyV U := by
  obtain ⟨a, b, c, d, e⟩ := h
  rw [keyV, keyV, kwF_cg e, a, b, c, d]
theorem ordV_cg {V V' U U' : vV} (h : vEq V V') (k : vEq U U') : ordV V U = ordV V' U' := by rw [ord_lex, ord_lex, keyV_cg h, keyV_cg k]
theorem ordV_oc {V V' U U' : vV} (h : vEq V V') (k : vEq U U' ∨ U = U') : ordV V U = ordV V' U' := by
  rcases k with k | k
  · exact ordV_cg h k
  · rw [k]; exact ordV_cg h (vEq_refl _)
theorem onV_cg {V V' U U' : vV} (h : vEq V V' ∨ V = V') (k : vEq U U') : onV V U = onV V' U' := by
  rcases h with h | h
  · rw [onV, onV, h.1, h.2.1, h.2.2.1, k.1, k.2.1, k.2.2.1]
  · rw [h, onV, onV, k.1, k.2.1, k.2.2.1]
theorem cvF_cg {s s' : sV} {V V' : vV} (h : sEq s s') (k : vEq V V') : cvF s V = cvF s' V' := by
  obtain ⟨n, lo, wl, hi, wh⟩ := s
  obtain ⟨n', lo', wl', hi', wh'⟩ := s'
  obtain ⟨h1, h2, h3, h4, h5⟩ := h
  replace h1 : oEq n n' := h1
  replace h2 : oEq lo lo' := h2
  replace h3 : wl = wl' := h3
  replace h4 : oEq hi hi' := h4
  replace h5 : wh = wh' := h5
  subst h3 h5
  show (cvL V lo wl && cvH V hi wh) = (cvL V' lo' wl && cvH V' hi' wh)
  have a : cvL V lo wl = cvL V' lo' wl := by
    rcases h2 with ⟨e1, e2⟩ | ⟨A, B, e1, e2, e3⟩
    · subst e1 e2; rfl
    · subst e1 e2
      show (!decide (ordV V A < 0) && (!decide (ordV V A = 0) || wl)) = (!decide (ordV V' B < 0) && (!decide (ordV V' B = 0) || wl))
      rw [ordV_oc k e3]
  have b : cvH V hi wh = cvH V' hi' wh := by
    rcases h4 with ⟨e1, e2⟩ | ⟨A, B, e1, e2, e3⟩
    · subst e1 e2; rfl
    · subst e1 e2
      show (!decide (0 < ordV V A) && (!decide (ordV V A = 0) || wh)) = (!decide (0 < ordV V' B) && (!decide (ordV V' B = 0) || wh))
      rw [ordV_oc k e3]
  rw [a, b]
theorem nwF_cg {s s' : sV} {V V' : vV} (h : sEq s s') (k : vEq V V') : nwF s V = nwF s' V' := by
  obtain ⟨n, lo, wl, hi, wh⟩ := s
  obtain ⟨n', lo', wl', hi', wh'⟩ := s'
  obtain ⟨h1, h2, h3, h4, h5⟩ := h
  replace h1 : oEq n n' := h1
  rcases h1 with ⟨e1, e2⟩ | ⟨A, B, e1, e2, e3⟩
  · subst e1 e2; rfl
  · subst e1 e2
    show (!decide (A.2.2.2.1 = 0) && decide (onV A V = 0)) = (!decide (B.2.2.2.1 = 0) && decide (onV B V' = 0))
    rw [onV_cg e3 k, show A.2.2.2.1 = B.2.2.2.1 from e3.elim (fun z => z.2.2.2.1) (fun z => by rw [z])]
theorem alC_cg {sp sp' : Nat → sV} {V V' : vV} (k : vEq V V') : ∀ n, (∀ i, i < n → sEq (sp i) (sp' i)) → alC sp V n = alC sp' V' n
  | 0, _ => rfl
  | n + 1, h => by rw [alC, alC, alC_cg k n (fun i hi => h i (by omega)), cvF_cg (h n (by omega)) k]
theorem nmC_cg {sp sp' : Nat → sV} {V V' : vV} (k : vEq V V') : ∀ n, (∀ i, i < n → sEq (sp i) (sp' i)) → nmC sp V n = nmC sp' V' n
  | 0, _ => by rw [nmC, nmC, k.2.2.2.1]
  | n + 1, h => by rw [nmC, nmC, nmC_cg k n (fun i hi => h i (by omega)), nwF_cg (h n (by omega)) k]
theorem imF_cg {q q' : qV} {V V' : vV} (h1 : q.1 = q'.1) (h : ∀ i, i < q.1 → sEq (q.2 i) (q'.2 i)) (k : vEq V V') : imF q V = imF q' V' := by
  rw [imF, imF, alC_cg k _ h, nmC_cg k _ h, h1]
/-- the row stands as it stood -/
def sRow (r r' : rA) (row : Nat) : Prop := (∀ j, (5 ≤ j ∧ j ≤ 11 ∧ j ≠ 9) → r' j row = r j row) ∧ ∀ c, c < 24 → r' 9 (24 * row + c) = r 9 (24 * row + c)
theorem sRow_refl (r : rA) (row : Nat) : sRow r r row := ⟨fun _ _ => rfl, fun _ _ => rfl⟩
/-- versions below V, and the requirements of Y, stand as they stood -/
def rSm (V : Nat) (Y : Nat → Prop) (r r' : rA) : Prop := (∀ i, i < V → sRow r r' i ∧ r' 14 i = r 14 i ∧ r' 16 i = r 16 i ∧ r' 18 i = r 18 i ∧ (∀ c, c < 24 → r' 19 (24 * i + c) = r 19 (24 * i + c)) ∧ ∀ k, k < 5 → r' 13 (5 * i + k) = r 13 (5 * i + k)) ∧ ∀ y, Y y → r' 12 y = r 12 y ∧ ∀ m, m < 4 → sRow r r' (41 + 4 * y + m)
theorem rSm_mono {V V' : Nat} {Y Y' : Nat → Prop} {r r' : rA} (h : rSm V Y r r') (hV : V' ≤ V) (hY : ∀ y, Y' y → Y y) : rSm V' Y' r r' := ⟨fun i hi => h.1 i (by omega), fun y hy => h.2 y (hY y hy)⟩
/-- arrays that no version and no requirement is read from -/
theorem rSm_of {V : Nat} {Y : Nat → Prop} {r r' : rA} (h : ∀ j, (5 ≤ j ∧ j ≤ 14) ∨ j = 16 ∨ j = 18 ∨ j = 19 → r' j = r j) : rSm V Y r r' := by
  have s : ∀ row, sRow r r' row := fun row => ⟨fun j hj => by rw [h j (by omega)], fun c _ => by rw [h 9 (by omega)]⟩
  exact ⟨fun i _ => ⟨s i, by rw [h 14 (by omega)], by rw [h 16 (by omega)], by rw [h 18 (by omega)], fun c _ => by rw [h 19 (by omega)], fun k _ => by rw [h 13 (by omega)]⟩, fun y _ => ⟨by rw [h 12 (by omega)], fun m _ => s _⟩⟩
theorem pF_sm {r r' : rA} (h : pF r r') : rSm 40 (fun y => y < 208) r r' := by
  obtain ⟨a, b, c, d, e, f, g⟩ := h
  exact ⟨fun i hi => ⟨a i (by omega), e i (by omega), by rw [b 16 (by omega)], f i (by omega), fun c hc => g _ (by omega), fun k hk => d _ (by omega)⟩, fun y hy => ⟨c y hy, fun m hm => a _ (by omega)⟩⟩
section
variable {V : Nat} {Y : Nat → Prop} {r r' : rA}
theorem sm_row {i : Nat} (h : sRow r r' i) (k : rowOK r i) : rowOK r' i ∧ vEq (rowV r i) (rowV r' i) := by
  have e8 := h.1 8 (by omega)
  have e10 := h.1 10 (by omega)
  refine ⟨?_, rowV_sam h k.1.2⟩
  unfold rowOK wsz sgn
  rw [e8, e10]
  exact k
theorem sm_nM (h : rSm V Y r r') {i : Nat} (hi : i < V) : nM r' i = nM r i := by rw [nM, nM, (h.1 i hi).2.1]
theorem sm_pk (h : rSm V Y r r') {i : Nat} (hi : i < V) : pkN r' i = pkN r i := by rw [pkN, pkN, (h.1 i hi).2.2.1]
theorem sm_ndX (h : rSm V Y r r') {i k : Nat} (hi : i < V) : ∀ m, m ≤ 5 → ndX r' i k m = ndX r i k m
  | 0, _ => rfl
  | m + 1, hm => by rw [ndX, ndX, sm_ndX h hi m (by omega), (h.1 i hi).2.2.2.2.2 m (by omega)]
theorem sm_hnB (h : rSm V Y r r') {i k : Nat} (hi : i < V) (hm : nM r i ≤ 5) : hnB r' i k = hnB r i k := by rw [hnB, hnB, sm_nM h hi, sm_ndX h hi _ hm]
theorem sm_im (h : rSm V Y r r') {y j : Nat} (hy : Y y) (hq : rqK r y) (hj : j < V) (hr : rowOK r j) : imF (qR r' y) (rowV r' j) = imF (qR r y) (rowV r j) := by
  have a := h.2 y hy
  refine (imF_cg ?_ (fun i hi => ?_) (sm_row (h.1 j hj).1 hr).2).symm
  · show (r 12 y).toNatClampNeg = (r' 12 y).toNatClampNeg
    rw [a.1]
  · have hi : i < cnt r y := hi
    exact spR_sam (a.2 i (by have := hq.2.1; omega)) (hq.2.2 i hi).1.1.2
theorem sm_exB (h : rSm V Y r r') {a b : Nat} (ha : a < V) (hb : b < V) (hY : ∀ k, k < 5 → Y (8 + 5 * a + k)) (hq : ∀ y, Y y → rqK r y) (hm : nM r a ≤ 5) (hr : rowOK r b) : exB r' a b = exB r a b := by
  rw [exB, exB, sm_pk h hb, sm_nM h ha, sm_ndX h ha _ hm]
  cases e : ndX r a (pkN r b) (nM r a) with
  | none => rfl
  | some j =>
    have := ndX_some _ _ e
    dsimp only
    rw [sm_im h (hY j (by omega)) (hq _ (hY j (by omega))) hb hr]
theorem sm_cl (h : rSm V Y r r') (h1 : rV1 r V) (hY : ∀ i, i < V → ∀ k, k < 5 → Y (8 + 5 * i + k)) (hq : ∀ y, Y y → rqK r y) {a b : Nat} (ha : vR V a) (hb : vR V b) : clR r' a b = clR r a b := by
  have hv := h1.1
  have m5 : ∀ i, i < V → nM r i ≤ 5 := fun i hi => (nM_at h1 (by omega)).1
  rw [clR, clR]
  by_cases x : a < 40
  · have ax : a < V := ha.resolve_right (by omega)
    rw [if_pos x, if_pos x]
    by_cases y : b < 40
    · have bx : b < V := hb.resolve_right (by omega)
      rw [if_pos y, if_pos y, sm_exB h ax bx (hY a ax) hq (m5 a ax) (h1.2.1 b bx), sm_exB h bx ax (hY b bx) hq (m5 b bx) (h1.2.1 a ax)]
    · rw [if_neg y, if_neg y, sm_hnB h ax (m5 a ax)]
  · rw [if_neg x, if_neg x]
    by_cases y : b < 40
    · have bx : b < V := hb.resolve_right (by omega)
      rw [if_pos y, if_pos y, sm_hnB h bx (m5 b bx)]
    · rw [if_neg y, if_neg y]
theorem sm_cSp (h : rSm V Y r r') (h1 : rV1 r V) (hY : ∀ i, i < V → ∀ k, k < 5 → Y (8 + 5 * i + k)) (hq : ∀ y, Y y → rqK r y) {C : Nat → Int64} (hC : cSp r V C) : cSp r' V C := fun a ha b hb => by
  rw [hC a ha b hb]
  constructor
  · rintro ⟨x, y, z⟩; exact ⟨x, y, (sm_cl h h1 hY hq x y).trans z⟩
  · rintro ⟨x, y, z⟩; exact ⟨x, y, (sm_cl h h1 hY hq x y).symm.trans z⟩
theorem sm_kpR (h : rSm V Y r r') {o : Nat} (ho : vR V o) (hv : V ≤ 40) : kpR r' o = kpR r o := by
  rw [kpR, kpR]
  by_cases x : o < 40
  · rw [if_pos x, if_pos x, sm_pk h (ho.resolve_right (by omega))]
  · rw [if_neg x, if_neg x]
theorem sm_rqK (h : rSm V Y r r') {y : Nat} (hy : Y y) (hq : rqK r y) : (∀ g p, rqAt g p (qR r y) → rqAt g p (qR r' y)) ∧ rqK r' y := rqK_sam (h.2 y hy).1 hq (h.2 y hy).2
theorem sm_relB (h : rSm V Y r r') {g : zH} {i pv pw pr pd m : Nat} (hi : i < V) (hr : rowOK r i) (hm : m ≤ 5) (hY : ∀ k, k < 5 → Y (8 + 5 * i + k)) (hq : ∀ y, Y y → rqK r y) (k : relB g r i pv pw pr pd m) : relB g r' i pv pw pr pd m := by
  obtain ⟨a, ⟨len, fb, b1, b2, b3, b4⟩, ⟨fd, c1, c2⟩, ⟨f, d1, d2⟩⟩ := k
  obtain ⟨s1, s2, s3, s4, s5, s6⟩ := h.1 i hi
  refine ⟨vrAt_cg (sm_row s1 hr).2 a, ⟨len, fb, by rw [s4]; exact b1, b2, b3, fun j hj => by rw [s5 j (by omega)]; exact b4 j hj⟩, ⟨fd, c1, fun j hj => by rw [s6 j (by omega)]; exact c2 j hj⟩, ⟨f, d1, fun k hk => ?_⟩⟩
  rw [sm_ndX h hi m hm]
  refine ⟨(d2 k hk).1, fun j hj => ?_⟩
  obtain ⟨q, x, y⟩ := (d2 k hk).2 j hj
  have := ndX_some _ _ hj
  exact ⟨q, x, (sm_rqK h (hY j (by omega)) (hq _ (hY j (by omega)))).1 _ _ y⟩
theorem sm_relI (h : rSm V Y r r') {hh g : zH} {i a : Nat} (hi : i < V) (hr : rowOK r i) (hY : ∀ k, k < 5 → Y (8 + 5 * i + k)) (hq : ∀ y, Y y → rqK r y) (h17 : r' 17 i = r 17 i) (k : relI hh g r i a) : relI hh g r' i a := by
  obtain ⟨pv, pw, pr, pd, pk, m, y, k1, k2, ⟨k3, k4⟩, k5, ⟨k6, k7⟩, k8⟩ := k
  obtain ⟨s1, s2, s3, s4, s5, s6⟩ := h.1 i hi
  exact ⟨pv, pw, pr, pd, pk, m, y, k1, k2, ⟨by rw [s3]; exact k3, k4⟩, by rw [h17]; exact k5, ⟨by rw [s2]; exact k6, k7⟩, sm_relB h hi hr k7 hY hq k8⟩
theorem sm_rgI (h : rSm V Y r r') {hh g : zH} {pg pl : Nat} {A : Nat → Nat} (h1 : rV1 r V) (hY : ∀ i, i < V → ∀ k, k < 5 → Y (8 + 5 * i + k)) (hq : ∀ y, Y y → rqK r y) (h17 : ∀ i, i < V → r' 17 i = r 17 i) (k : rgI hh g r V pg pl A) : rgI hh g r' V pg pl A := ⟨k.1, k.2.1, k.2.2.1, fun i hi => sm_relI h hi (h1.2.1 i hi) (hY i hi) hq (h17 i hi) (k.2.2.2.1 i hi), k.2.2.2.2⟩
end
