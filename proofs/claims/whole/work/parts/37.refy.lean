def updN (t : Nat → Nat) (k x : Nat) : Nat → Nat := fun i => if i = k then x else t i
theorem updN_s (t : Nat → Nat) (k x : Nat) : updN t k x k = x := by simp [updN]
theorem updN_n {t : Nat → Nat} {k i x : Nat} (h : i ≠ k) : updN t k x i = t i := by simp [updN, h]
theorem upd_N {T : Nat → Int32} {t : Nat → Nat} {p x : Nat} (h : ∀ k, k < 8 → T k = nI (t k)) : ∀ k, k < 8 → upd T p (nI x) k = nI (updN t p x k) := by
  intro k hk
  unfold upd updN
  split
  · rfl
  · exact h k hk
theorem rwr_rwr (r : rA) (k : Nat) (g h : Nat → Int32) : rwr (rwr r k g) k h = rwr r k h := by
  funext j
  unfold rwr
  split <;> rfl
theorem rset_rwr2 (r : rA) {k k2 : Nat} (hk : k ≠ k2) (i : Nat) (g h : Nat → Int32) (x : Int32) : rset (rwr (rwr r k g) k2 h) k i x = rwr (rwr r k (upd g i x)) k2 h := by
  funext j
  unfold rset rwr
  by_cases e : j = k
  · subst e
    simp [hk]
  · simp [e]
/-- the place of a choice among all of them -/
def wgt (t : Nat → Nat) : Nat := t 0 * 42 ^ 7 + t 1 * 42 ^ 6 + t 2 * 42 ^ 5 + t 3 * 42 ^ 4 + t 4 * 42 ^ 3 + t 5 * 42 ^ 2 + t 6 * 42 + t 7
theorem wgt_up (t : Nat → Nat) (p x : Nat) (hp : p < 8) : wgt (updN t p x) + t p * 42 ^ (7 - p) = wgt t + x * 42 ^ (7 - p) := by
  have h : p = 0 ∨ p = 1 ∨ p = 2 ∨ p = 3 ∨ p = 4 ∨ p = 5 ∨ p = 6 ∨ p = 7 := by omega
  rcases h with h | h | h | h | h | h | h | h <;> subst h <;> simp [wgt, updN] <;> omega
theorem wgt_le {t : Nat → Nat} (h : ∀ k, k < 8 → t k ≤ 41) : wgt t < 42 ^ 8 := by
  have h0 := h 0 (by omega)
  have h1 := h 1 (by omega)
  have h2 := h 2 (by omega)
  have h3 := h 3 (by omega)
  have h4 := h 4 (by omega)
  have h5 := h 5 (by omega)
  have h6 := h 6 (by omega)
  have h7 := h 7 (by omega)
  unfold wgt
  omega
/-- the first k of T come before those of t -/
def lxl (k : Nat) (T t : Nat → Nat) : Prop := ∃ j, j < k ∧ (∀ i, i < j → T i = t i) ∧ T j < t j
/-- what is given by a choice of places -/
def gvO (op : Nat → Nat → Int32) (t : Nat → Nat) : Nat → Int32 := fun k => op k (t k)
/-- a choice that goes well -/
def gdT (r : rA) (len : Nat → Nat) (op : Nat → Nat → Int32) (t : Nat → Nat) : Prop := (∀ k, k < 8 → t k < len k) ∧ (∀ k, k < 8 → gwF r (gvO op t) k (k + 1) = true) ∧ rch r (gvO op t) 8 = true
theorem gwF_g {r : rA} {g h : Nat → Int32} {p : Nat} (e : ∀ k, k ≤ p → g k = h k) : ∀ m, m ≤ p + 1 → gwF r g p m = gwF r h p m
  | 0, _ => by rw [gwF, gwF, e p (Nat.le_refl _)]
  | m + 1, hm => by rw [gwF, gwF, gwF_g e m (by omega), e p (Nat.le_refl _), e m (by omega)]
theorem lxl_inc {T t : Nat → Nat} {p : Nat} (h : ¬ lxl (p + 1) T t) (hn : ¬ ∀ k, k ≤ p → T k = t k) : ¬ lxl (p + 1) T (updN t p (t p + 1)) := by
  rintro ⟨j, hj, h1, h2⟩
  by_cases e : j = p
  · subst e
    rw [updN_s] at h2
    have h3 : ∀ i, i < j → T i = t i := fun i hi => (h1 i hi).trans (updN_n (by omega))
    by_cases e2 : T j = t j
    · exact hn (fun k hk => by by_cases e3 : k = j; (subst e3; exact e2); exact h3 k (by omega))
    · exact h ⟨j, hj, h3, by omega⟩
  · rw [updN_n e] at h2
    exact h ⟨j, hj, fun i hi => (h1 i hi).trans (updN_n (by omega)), h2⟩
theorem lxl_back {T t : Nat → Nat} {p : Nat} (h : ¬ lxl (p + 1 + 1) T t) (hT : T (p + 1) < t (p + 1)) : ¬ lxl (p + 1) T (updN (updN t (p + 1) 0) p (t p + 1)) := by
  rintro ⟨j, hj, h1, h2⟩
  have h1' : ∀ i, i < j → T i = t i := fun i hi => (h1 i hi).trans ((updN_n (by omega)).trans (updN_n (by omega)))
  by_cases e : j = p
  · subst e
    rw [updN_s] at h2
    by_cases e2 : T j = t j
    · exact h ⟨j + 1, by omega, fun i hi => by by_cases e3 : i = j; (subst e3; exact e2); exact h1' i (by omega), hT⟩
    · exact h ⟨j, by omega, h1', by omega⟩
  · rw [updN_n e, updN_n (by omega)] at h2
    exact h ⟨j, by omega, h1', h2⟩
theorem lxl_on {T t : Nat → Nat} {p : Nat} (h : ¬ lxl (p + 1) T t) (h0 : t (p + 1) = 0) : ¬ lxl (p + 1 + 1) T t := by
  rintro ⟨j, hj, h1, h2⟩
  by_cases e : j = p + 1
  · subst e; omega
  · exact h ⟨j, by omega, h1, h2⟩
/-- what allows and goesWell look at -/
theorem awF_c {r r' : rA} {i p : Nat} {x : Int32} (h13 : r 13 = r' 13) : ∀ m, (∀ k, k < m → r 28 (40 * (8 + 5 * i + k) + x.toNatClampNeg) = r' 28 (40 * (8 + 5 * i + k) + x.toNatClampNeg)) → awF r i p x m = awF r' i p x m
  | 0, _ => rfl
  | m + 1, h => by rw [awF, awF, awF_c h13 m (fun k hk => h k (by omega)), h13, h m (by omega)]
theorem gwF_rr {r : rA} {T R g : Nat → Int32} {p : Nat} : ∀ m, gwF (rwr (rwr r 27 T) 29 R) g p m = gwF r g p m
  | 0 => rfl
  | m + 1 => by
    have h : ∀ x p y, awI (rwr (rwr r 27 T) 29 R) x p y = awI r x p y := by
      intro x p y
      unfold awI
      rw [show (rwr (rwr r 27 T) 29 R) 14 = r 14 from rfl, awF_c (r := rwr (rwr r 27 T) 29 R) (r' := r) rfl _ (fun _ _ => rfl)]
    rw [gwF, gwF, gwF_rr m, h, h]
theorem ndB_c {r r' : rA} {i : Nat} {R : Nat → Bool} (h : r 13 = r' 13) : ∀ k, ndB r i R k = ndB r' i R k
  | 0 => rfl
  | k + 1 => by rw [ndB, ndB, ndB_c h k, h]
theorem rpB_c {r r' : rA} {g : Nat → Int32} {R : Nat → Bool} (h : r 13 = r' 13) (h14 : r 14 = r' 14) : ∀ k, rpB r g R k = rpB r' g R k
  | 0 => rfl
  | k + 1 => by rw [rpB, rpB, rpB_c h h14 k, h14, ndB_c h]
theorem rrB_c {r r' : rA} {g : Nat → Int32} (h : r 13 = r' 13) (h14 : r 14 = r' 14) (h20 : r 20 = r' 20) : ∀ k, rrB r g k = rrB r' g k
  | 0 => by
    funext x
    show w0 r x = w0 r' x
    unfold w0
    rw [h20]
  | k + 1 => by rw [rrB, rrB, rrB_c h h14 h20 k, rpB_c h h14]
theorem rch_c {r r' : rA} {g : Nat → Int32} (h : r 13 = r' 13) (h14 : r 14 = r' 14) (h20 : r 20 = r' 20) : ∀ k, rch r g k = rch r' g k
  | 0 => rfl
  | k + 1 => by rw [rch, rch, rch_c h h14 h20 k, rrB_c h h14 h20]
theorem ndB_g {r : rA} {i : Nat} {R S : Nat → Bool} (h : R = S) (k : Nat) : ndB r i R k = ndB r i S k := by rw [h]
theorem rpB_g {r : rA} {g h : Nat → Int32} {R : Nat → Bool} : ∀ m, (∀ k, k < m → g k = h k) → rpB r g R m = rpB r h R m
  | 0, _ => rfl
  | m + 1, e => by rw [rpB, rpB, rpB_g m (fun k hk => e k (by omega)), e m (by omega)]
theorem rrB_g {r : rA} {g h : Nat → Int32} (e : ∀ k, k < 8 → g k = h k) : ∀ m, rrB r g m = rrB r h m
  | 0 => rfl
  | m + 1 => by rw [rrB, rrB, rrB_g e m, rpB_g 8 e]
theorem rch_g' {r : rA} {g h : Nat → Int32} (e : ∀ k, k < 8 → g k = h k) : ∀ m, m ≤ 8 → rch r g m = rch r h m
  | 0, _ => rfl
  | m + 1, hm => by rw [rch, rch, rch_g' e m (by omega), e m (by omega), rrB_g e]
theorem rch_g {r : rA} {g h : Nat → Int32} (e : ∀ k, k < 8 → g k = h k) : rch r g 8 = rch r h 8 := rch_g' e 8 (Nat.le_refl _)
set_option maxHeartbeats 2000000 in
theorem l_sv {q : Nat} {qa : Nat → Nat} {d c n a v f : Nat} {b : Bool} {r : rA} {Q : rS → (Option zV ⊕ Nat) → Prop} {len : Nat → Nat} {op : Nat → Nat → Int32} (hl : ∀ k, k < 8 → r 26 k = nI (len k) ∧ len k ≤ 41) (hO : ∀ k t, k < 8 → t < len k → r 25 (41 * k + t) = op k t) (hop : ∀ k t, k < 8 → t < len k → op k t = -1 ∨ ∃ j, j < 40 ∧ op k t = nI j) (hM : ∀ j, j < 40 → ∃ m, m ≤ 5 ∧ r 14 j = nI m ∧ ∀ k, k < m → ∃ x, x < 8 ∧ r 13 (5 * j + k) = nI x) (hW : ∀ k, k < 8 → r 20 k = bI (w0 r k)) (hWn : ∀ k t, k < 8 → t < len k → ¬ r 20 k = 0 → ¬ op k t = -1) (hE1 : (∀ t, ¬ gdT r len op t) → ∀ T R : Nat → Int32, rEv q qa (d + 3) tb_138 Q 147 [some (zR (some q)), some (zI (-1)), some (zI (nI 0)), none, none] [] (c, n, a, b, v, f, rwr (rwr r 27 T) 29 R)) (hE2 : ∀ (t : Nat → Nat) (T R : Nat → Int32), (∀ k, k < 8 → T k = nI (t k)) → gdT r len op t → (∀ t', gdT r len op t' → ¬ lxl 8 t' t) → rEv q qa (d + 3) tb_138 Q 147 [some (zR (some q)), some (zI (nI 7)), some (zI (nI 1)), none, none] [] (c, n, a, b, v, f, rwr (rwr r 27 T) 29 R)) : ∀ (M p : Nat) (t : Nat → Nat) (T R : Nat → Int32), p < 8 → 9 * (42 ^ 8 - wgt t) + (8 - p) ≤ M → (∀ k, k < 8 → T k = nI (t k)) → (∀ k, k < p → t k < len k) → t p ≤ len p → (∀ k, p < k → k < 8 → t k = 0) → (∀ k, k < p → gwF r (gvO op t) k (k + 1) = true) → (∀ t', gdT r len op t' → ¬ lxl (p + 1) t' t) → rEv q qa (d + 3) tb_138 Q 27 [some (zR (some q)), some (zI (nI p)), some (zI (nI 0)), none, none] [] (c, n, a, b, v, f, rwr (rwr r 27 T) 29 R) := by
  intro M
  induction M with
  | zero =>
    intro p t T R hp hmu
    omega
  | succ M ih =>
    intro p t T R hp hmu hT h1 h2 h3 h4 h5
    have hlp := (hl p hp).2
    have ht41 : ∀ k, k < 8 → t k ≤ 41 := fun k hk => by
      by_cases e1 : k < p
      · exact Nat.le_trans (Nat.le_of_lt (h1 k e1)) (hl k hk).2
      · by_cases e2 : k = p
        · subst e2; omega
        · rw [h3 k (by omega) hk]; omega
    have hw := wgt_le ht41
    refine r_ild rfl rfl ?_
    refine r_ifN (by omega) rfl (fun h_1 => ?_) (fun h_1 => ?_)
    · replace h_1 : p < 0 := h_1
      omega
    · replace h_1 := Nat.not_lt.mp h_1
      refine r_ild rfl rfl ?_
      refine r_ifN (by omega) rfl (fun h_2 => ?_) (fun h_2 => ?_)
      · replace h_2 : ¬ 0 = 0 := h_2
        omega
      · replace h_2 : 0 = 0 := Decidable.of_not_not h_2
        refine r_ald rfl rfl ?_
        refine r_get rfl rfl ?_
        refine r_ild rfl rfl ?_
        refine r_ialdN (k0 := 27) rfl rfl (by omega) (by decide) ?_
        refine r_top (y := (nI (t p))) (hT p hp) ?_
        refine r_ald rfl rfl ?_
        refine r_get rfl rfl ?_
        refine r_ild rfl rfl ?_
        refine r_ialdN (k0 := 26) rfl rfl (by omega) (by decide) ?_
        refine r_top (y := (nI (len p))) (hl p hp).1 ?_
        refine r_cmpN (by omega) (by omega) rfl (fun h_3 => ?_) (fun h_3 => ?_)
        · replace h_3 : ¬ t p = len p := h_3
          refine r_ald rfl rfl ?_
          refine r_ild rfl rfl ?_
          have htp : t p < len p := by omega
          have hgw := c_goesWell (q := q) (qa := qa) (d := d) (c := c) (n := n) (a := a) (v := v) (f := f) (b := b) (r := rwr (rwr r 27 T) 29 R) (p := p) (t := t) (g := gvO op t) hp (fun k hk => ⟨hT k (by omega), by have := ht41 k (by omega); by_cases e1 : k < p; (have := h1 k e1; have := (hl k (by omega)).2; omega); (have e2 : k = p := by omega); subst e2; omega⟩) (fun k hk => hO k (t k) (by omega) (by by_cases e1 : k < p; exact h1 k e1; (have e2 : k = p := by omega); subst e2; exact htp)) (fun k hk => hop k (t k) (by omega) (by by_cases e1 : k < p; exact h1 k e1; (have e2 : k = p := by omega); subst e2; exact htp)) (fun j hj => by obtain ⟨m, hm, e, _⟩ := hM j hj; exact ⟨m, hm, e⟩) (fun e => hWn p (t p) hp htp e)
          rw [gwF_rr] at hgw
          refine r_call (as := [zR (some q), zI (nI p)]) (r := []) (s' := (c, n, a, b, v, f, rwr (rwr r 27 T) 29 R)) (v := some (zI (bI (gwF r (gvO op t) p (p + 1))))) rfl rfl rfl (Nat.le_of_ble_eq_true rfl) (Or.inr ⟨rfl, rfl, _, rfl⟩) hgw ?_
          refine r_ifB1 rfl (fun h_4 => ?_) (fun h_4 => ?_)
          · refine r_ild rfl rfl ?_
            refine r_ico (x := (nI 7)) rfl rfl ?_
            refine r_cmpN (by omega) (by omega) rfl (fun h_5 => ?_) (fun h_5 => ?_)
            · replace h_5 : 7 ≤ p := h_5
              have e7 : p = 7 := by omega
              have hall : ∀ k, k < 8 → t k < len k := fun k hk => by by_cases e1 : k < p; exact h1 k e1; (have e2 : k = p := by omega); subst e2; exact htp
              refine r_ald rfl rfl ?_
              refine r_callQ (as := [zR (some q)]) (r := []) rfl rfl rfl (Nat.le_of_ble_eq_true rfl) (Or.inr ⟨rfl, rfl, _, rfl⟩) (c_isReached (d := d + 1) (r := rwr (rwr r 27 T) 29 R) (t := t) (g := gvO op t) hW (fun k hk => ⟨hT k hk, by have := hall k hk; have := (hl k hk).2; omega⟩) (fun k hk => hO k (t k) hk (hall k hk)) (fun k hk => hop k (t k) hk (hall k hk)) hM) (fun s e h => by cases h.2) ?_
              rintro s2 w2 ⟨⟨R2, hs2⟩, hw2⟩
              cases hw2
              subst hs2
              rw [rwr_rwr, rch_c (r := rwr (rwr r 27 T) 29 R) (r' := r) rfl rfl rfl]
              refine r_ifB0 rfl (fun h_6 => ?_) (fun h_6 => ?_)
              · refine r_ald rfl rfl ?_
                refine r_get rfl rfl ?_
                refine r_ild rfl rfl ?_
                refine r_dup2 rfl rfl rfl ?_
                refine r_ialdN (k0 := 27) rfl rfl (by omega) (by decide) ?_
                refine r_top (y := (nI (t p))) (hT p hp) ?_
                refine r_ico (x := (nI 1)) rfl rfl ?_
                refine r_ibi (v := (nI (t p + 1))) rfl (nI_add _ _) ?_
                refine r_iastN (k0 := 27) (x' := (nI (t p + 1))) rfl rfl (by omega) (by decide) rfl ?_
                refine r_go rfl ?_
                rw [rset_rwr2 _ (by decide)]
                have hup := wgt_up t p (t p + 1) hp
                have hpw : 0 < 42 ^ (7 - p) := Nat.pow_pos (by omega)
                rw [Nat.add_mul, Nat.one_mul] at hup
                refine ih p (updN t p (t p + 1)) _ _ hp (by omega) (upd_N hT) (fun k hk => by rw [updN_n (by omega)]; exact h1 k hk) (by rw [updN_s]; omega) (fun k hk hk8 => by rw [updN_n (by omega)]; exact h3 k hk hk8) (fun k hk => ?_) (fun t' ht' => lxl_inc (h5 t' ht') ?_)
                · rw [← h4 k hk]
                  exact gwF_g (fun i hi => by unfold gvO; rw [updN_n (by omega)]) _ (Nat.le_refl _)
                · intro e
                  have h7 : rch r (gvO op t') 8 = rch r (gvO op t) 8 := rch_g (fun k hk => by unfold gvO; rw [e k (by omega)])
                  rw [ht'.2.2, h_6] at h7
                  cases h7
              · refine r_ico (x := (nI 1)) rfl rfl ?_
                refine r_ist (ls' := [some (zR (some q)), some (zI (nI p)), some (zI (nI 1)), none, none]) rfl (Nat.le_of_ble_eq_true rfl) rfl ?_
                refine r_go rfl ?_
                have e7 : p = 7 := by omega
                subst e7
                refine r_ild rfl rfl ?_
                refine r_ifN (by omega) rfl (fun h_7 => ?_) (fun h_7 => ?_)
                · replace h_7 : 7 < 0 := h_7
                  omega
                · replace h_7 := Nat.not_lt.mp h_7
                  refine r_ild rfl rfl ?_
                  refine r_ifN (by omega) rfl (fun h_8 => ?_) (fun h_8 => ?_)
                  · replace h_8 : ¬ 1 = 0 := h_8
                    exact hE2 t T R2 hT ⟨hall, fun k hk => by by_cases e : k = 7; (subst e; exact h_4); exact h4 k (by omega), h_6⟩ h5
                  · replace h_8 : 1 = 0 := Decidable.of_not_not h_8
                    omega
            · replace h_5 := Nat.not_le.mp h_5
              refine r_inc (x' := (nI (p + 1))) (ls' := [some (zR (some q)), some (zI (nI (p + 1))), some (zI (nI 0)), none, none]) rfl rfl (nI_1 _) rfl ?_
              refine r_go rfl ?_
              refine ih (p + 1) t T R (by omega) (by omega) hT (fun k hk => by by_cases e : k = p; (subst e; exact htp); exact h1 k (by omega)) (by rw [h3 (p + 1) (by omega) (by omega)]; omega) (fun k hk hk8 => h3 k (by omega) hk8) (fun k hk => by by_cases e : k = p; (subst e; exact h_4); exact h4 k (by omega)) (fun t' ht' => lxl_on (h5 t' ht') (h3 (p + 1) (by omega) (by omega)))
          · refine r_ald rfl rfl ?_
            refine r_get rfl rfl ?_
            refine r_ild rfl rfl ?_
            refine r_dup2 rfl rfl rfl ?_
            refine r_ialdN (k0 := 27) rfl rfl (by omega) (by decide) ?_
            refine r_top (y := (nI (t p))) (hT p hp) ?_
            refine r_ico (x := (nI 1)) rfl rfl ?_
            refine r_ibi (v := (nI (t p + 1))) rfl (nI_add _ _) ?_
            refine r_iastN (k0 := 27) (x' := (nI (t p + 1))) rfl rfl (by omega) (by decide) rfl ?_
            refine r_go rfl ?_
            rw [rset_rwr2 _ (by decide)]
            have hup := wgt_up t p (t p + 1) hp
            have hpw : 0 < 42 ^ (7 - p) := Nat.pow_pos (by omega)
            rw [Nat.add_mul, Nat.one_mul] at hup
            refine ih p (updN t p (t p + 1)) _ _ hp (by omega) (upd_N hT) (fun k hk => by rw [updN_n (by omega)]; exact h1 k hk) (by rw [updN_s]; omega) (fun k hk hk8 => by rw [updN_n (by omega)]; exact h3 k hk hk8) (fun k hk => ?_) (fun t' ht' => lxl_inc (h5 t' ht') ?_)
            · rw [← h4 k hk]
              exact gwF_g (fun i hi => by unfold gvO; rw [updN_n (by omega)]) _ (Nat.le_refl _)
            · intro e
              have h7 := gwF_g (r := r) (g := gvO op t') (h := gvO op t) (p := p) (fun k hk => by unfold gvO; rw [e k hk]) (p + 1) (Nat.le_refl _)
              rw [ht'.2.1 p hp, h_4] at h7
              cases h7
        · replace h_3 : t p = len p := Decidable.of_not_not h_3
          cases p with
          | zero =>
            have hno : ∀ t, ¬ gdT r len op t := fun t' ht' => h5 t' ht' ⟨0, by omega, fun i hi => absurd hi (by omega), by have := ht'.1 0 hp; omega⟩
            refine r_ald rfl rfl ?_
            refine r_get rfl rfl ?_
            refine r_ild rfl rfl ?_
            refine r_ico (x := (nI 0)) rfl rfl ?_
            refine r_iastN (k0 := 27) (x' := (nI 0)) rfl rfl (by omega) (by decide) rfl ?_
            refine r_inc (x' := (-1)) (ls' := [some (zR (some q)), some (zI (-1)), some (zI (nI 0)), none, none]) rfl rfl (by decide) rfl ?_
            refine r_ald rfl rfl ?_
            refine r_get rfl rfl ?_
            refine r_ild rfl rfl ?_
            refine r_if rfl (fun h_101 => ?_) (fun h_101 => ?_)
            · replace h_101 : 0 ≤ (-1 : Int32) := h_101
              exact absurd h_101 (by decide)
            · replace h_101 : ¬ (0 ≤ (-1 : Int32)) := h_101
              refine r_ico (x := (nI 0)) rfl rfl ?_
              refine r_go rfl ?_
              refine r_dup2 rfl rfl rfl ?_
              refine r_ialdN (k0 := 27) rfl rfl (by omega) (by decide) ?_
              refine r_top (y := (nI 0)) (by simp [rar, rset, rwr, upd]) ?_
              refine r_ild rfl rfl ?_
              refine r_if rfl (fun h_102 => ?_) (fun h_102 => ?_)
              · replace h_102 : 0 ≤ (-1 : Int32) := h_102
                exact absurd h_102 (by decide)
              · replace h_102 : ¬ (0 ≤ (-1 : Int32)) := h_102
                refine r_ico (x := (nI 0)) rfl rfl ?_
                refine r_go rfl ?_
                refine r_ibi (v := (nI 0)) rfl (nI_add 0 0) ?_
                refine r_iastN (k0 := 27) (x' := (nI 0)) rfl rfl (by omega) (by decide) rfl ?_
                refine r_go rfl ?_
                refine r_ild rfl rfl ?_
                refine r_if rfl (fun h_103 => ?_) (fun h_103 => ?_)
                · replace h_103 : (-1 : Int32) < 0 := h_103
                  rw [rset_rwr2 _ (by decide), rset_rwr2 _ (by decide)]
                  exact hE1 hno _ _
                · replace h_103 : ¬ ((-1 : Int32) < 0) := h_103
                  exact absurd (by decide) h_103
          | succ p =>
            refine r_ald rfl rfl ?_
            refine r_get rfl rfl ?_
            refine r_ild rfl rfl ?_
            refine r_ico (x := (nI 0)) rfl rfl ?_
            refine r_iastN (k0 := 27) (x' := (nI 0)) rfl rfl (by omega) (by decide) rfl ?_
            refine r_inc (x' := (nI p)) (ls' := [some (zR (some q)), some (zI (nI p)), some (zI (nI 0)), none, none]) rfl rfl (nI_dec _) rfl ?_
            refine r_ald rfl rfl ?_
            refine r_get rfl rfl ?_
            refine r_ild rfl rfl ?_
            refine r_ifN (by omega) rfl (fun h_201 => ?_) (fun h_201 => ?_)
            · replace h_201 : 0 ≤ p := h_201
              refine r_ild rfl rfl ?_
              refine r_dup2 rfl rfl rfl ?_
              refine r_ialdN (k0 := 27) rfl rfl (by omega) (by decide) ?_
              refine r_top (y := (nI (t p))) (by simp [rar, rset, rwr, upd, hT p (by omega)]) ?_
              refine r_ild rfl rfl ?_
              refine r_ifN (by omega) rfl (fun h_202 => ?_) (fun h_202 => ?_)
              · replace h_202 : 0 ≤ p := h_202
                refine r_ico (x := (nI 1)) rfl rfl ?_
                refine r_ibi (v := (nI (t p + 1))) rfl (nI_add _ _) ?_
                refine r_iastN (k0 := 27) (x' := (nI (t p + 1))) rfl rfl (by omega) (by decide) rfl ?_
                refine r_go rfl ?_
                rw [rset_rwr2 _ (by decide), rset_rwr2 _ (by decide)]
                have hu1 := wgt_up t (p + 1) 0 hp
                have hu2 := wgt_up (updN t (p + 1) 0) p (t p + 1) (by omega)
                rw [updN_n (show p ≠ p + 1 by omega), Nat.add_mul, Nat.one_mul] at hu2
                have hpw : 0 < 42 ^ (7 - (p + 1)) := Nat.pow_pos (by omega)
                have hp2 : 42 ^ (7 - p) = 42 ^ (7 - (p + 1)) * 42 := by rw [show 7 - p = 7 - (p + 1) + 1 by omega, Nat.pow_succ]
                have hp3 : t (p + 1) * 42 ^ (7 - (p + 1)) ≤ 41 * 42 ^ (7 - (p + 1)) := Nat.mul_le_mul_right _ (ht41 _ hp)
                refine ih p (updN (updN t (p + 1) 0) p (t p + 1)) _ R (by omega) (by omega) (upd_N (upd_N hT)) (fun k hk => by rw [updN_n (by omega), updN_n (by omega)]; exact h1 k (by omega)) (by rw [updN_s]; exact h1 p (by omega)) (fun k hk hk8 => ?_) (fun k hk => ?_) (fun t' ht' => lxl_back (h5 t' ht') (by have := ht'.1 (p + 1) hp; omega))
                · rw [updN_n (by omega)]
                  by_cases e : k = p + 1
                  · rw [e, updN_s]
                  · rw [updN_n e]; exact h3 k (by omega) hk8
                · rw [← h4 k (by omega)]
                  exact gwF_g (fun i hi => by unfold gvO; rw [updN_n (by omega), updN_n (by omega)]) _ (Nat.le_refl _)
              · replace h_202 := Nat.not_le.mp h_202
                omega
            · replace h_201 := Nat.not_le.mp h_201
              omega
