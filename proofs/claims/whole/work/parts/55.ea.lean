/-- nothing that may come stands there -/
def stk (n : Nat) (t : Nat → Int32) (e : Nat) : Prop := e < n ∧ (isDg (t e) = true ∨ t e = nI 46)
/-- the reference's reading is lost -/
def ded (n : Nat) (t : Nat → Int32) (a : Nat) (b : Bool) : Prop := b = true ∨ stk n t a
theorem num_ok {t : Nat → Int32} {n a : Nat} (ha : a ≤ n) (h : nmOK t n a) : numA n a false t = spn isDg t n a ∧ numB n a false t = false ∧ numV n a false t = nI (nmN t n a) := by
  have h1 := h.1
  have hs : spn isDg t n a ≤ n := spn_le ha
  have hn : a < n := by omega
  have hd : isDg (t a) = true := spn_all (n := n) (a := a) (Nat.le_refl _) h.1
  have hh : isDg (ahd n a false t) = true := by rw [ahd_in hn]; exact hd
  have h9 := h.2.1
  have hE : numE t n a = spn isDg t n a := by
    unfold numE numEnd
    by_cases h0 : t a = nI 48
    · have : ¬ 1 < spn isDg t n a - a := fun g => h.2.2 g h0
      rw [if_pos h0]
      exact spnF_is _ _ _ spn_ge (by omega) (fun j x y => spn_all (n := n) x y) (fun g => by omega)
    · rw [if_neg h0]
      exact spnF_is _ _ _ spn_ge (by omega) (fun j x y => spn_all (n := n) x y) (fun g => spn_stop ha (by omega))
  refine ⟨by rw [numA, if_pos hh, hE], by rw [numB, if_pos hh, hE]; exact decide_eq_false (by omega), by rw [numV, if_pos hh, hE, Nat.min_eq_left h9, nm_val h9]⟩
theorem num_no {t : Nat → Int32} {n a : Nat} (ha : a ≤ n) (h : ¬ nmOK t n a) : numB n a false t = true ∨ (numB n a false t = false ∧ numA n a false t < n ∧ isDg (t (numA n a false t)) = true) := by
  by_cases hd : a < n ∧ isDg (t a) = true
  · have hh : isDg (ahd n a false t) = true := by rw [ahd_in hd.1]; exact hd.2
    have hs : spn isDg t n a ≤ n := spn_le ha
    have h1 : a < spn isDg t n a := by
      rw [spn_yes hd.1 hd.2]
      have : a + 1 ≤ spn isDg t n (a + 1) := spn_ge
      omega
    by_cases h0 : t a = nI 48
    · have h2 : 1 < spn isDg t n a - a := by
        refine Nat.lt_of_not_le (fun g => h ⟨h1, by omega, fun q => by omega⟩)
      have hE : numE t n a = a + 1 := by
        unfold numE numEnd
        rw [if_pos h0]
        exact spnF_is _ _ _ (by omega) (by omega) (fun j x y => by rw [show j = a by omega]; exact hd.2) (fun g => by omega)
      refine Or.inr ⟨by rw [numB, if_pos hh, hE]; exact decide_eq_false (by omega), ?_, ?_⟩
      · rw [numA, if_pos hh, hE]; omega
      · rw [numA, if_pos hh, hE]; exact spn_all (n := n) (a := a) (by omega) (by omega)
    · have h2 : 9 < spn isDg t n a - a := by
        refine Nat.lt_of_not_le (fun g => h ⟨h1, g, fun _ => h0⟩)
      have hE : numE t n a = a + 10 := by
        unfold numE numEnd
        rw [if_neg h0]
        exact spnF_is _ _ _ (by omega) (by omega) (fun j x y => spn_all (n := n) (a := a) x (by omega)) (fun g => by omega)
      exact Or.inl (by rw [numB, if_pos hh, hE]; exact decide_eq_true (by omega))
  · exact Or.inl (by rw [numB, if_neg (fun g => hd ⟨(ahd_dg g).2.1, (ahd_dg g).2.2⟩)])
theorem at_ne {n a c c' : Nat} {t : Nat → Int32} (h : atc n t a c) (hc : c < 128) (hc' : c' < 128) (hn : c ≠ c') : ¬ atc n t a c' := fun g => hn ((nI_eq (by omega) (by omega)).mp (h.2.symm.trans g.2))
theorem dg_46 {x : Int32} (h : isDg x = true) {c : Nat} (hc : c < 48) : ¬ x = nI c := by
  obtain ⟨k, hk, e⟩ := isDg_ex h
  rw [e]
  intro g
  have := (nI_eq (by omega) (by omega)).mp g
  omega
theorem stk_at {n e c : Nat} {t : Nat → Int32} (h : stk n t e) (hc : c < 48) (h46 : c ≠ 46) : ¬ atc n t e c := fun g => by
  rcases h.2 with a | a
  · exact dg_46 a hc g.2
  · have := (nI_eq (by omega) (by omega)).mp (a.symm.trans g.2)
    omega
theorem sg_eq {n a : Nat} {t : Nat → Int32} : sgF n a false t = ((sgC n t a).2, if a < (sgC n t a).2 then nI ((sgC n t a).1 + 1) else -1) ∧ (¬ a < (sgC n t a).2 → (sgC n t a).1 = 0 ∧ (sgC n t a).2 = a) := by
  by_cases c94 : atc n t a 94
  · have e : sgC n t a = (0, a + 1) := by rw [sgC, if_neg (at_ne c94 (by omega) (by omega) (by omega)), if_neg (at_ne c94 (by omega) (by omega) (by omega)), if_neg (at_ne c94 (by omega) (by omega) (by omega)), if_neg (at_ne c94 (by omega) (by omega) (by omega)), if_pos c94]
    have f : sgF n a false t = (a + 1, nI 1) := by rw [sgF, if_pos ((at_ahd (n := n) (e := a) (c := 94) (t := t) (by omega)).mpr c94)]
    rw [e, f]
    exact ⟨by rw [if_pos (show a < a + 1 by omega)], fun g => absurd (show a < a + 1 by omega) g⟩
  · skip
    by_cases c126 : atc n t a 126
    · have e : sgC n t a = (1, a + 1) := by rw [sgC, if_pos c126]
      have f : sgF n a false t = (a + 1, nI 2) := by rw [sgF, if_neg (fun g => at_ne c126 (by omega) (by omega) (by omega) ((at_ahd (n := n) (e := a) (c := 94) (t := t) (by omega)).mp g)), if_pos ((at_ahd (n := n) (e := a) (c := 126) (t := t) (by omega)).mpr c126)]
      rw [e, f]
      exact ⟨by rw [if_pos (show a < a + 1 by omega)], fun g => absurd (show a < a + 1 by omega) g⟩
    · skip
      by_cases c61 : atc n t a 61
      · have e : sgC n t a = (2, a + 1) := by rw [sgC, if_neg (at_ne c61 (by omega) (by omega) (by omega)), if_pos c61]
        have f : sgF n a false t = (a + 1, nI 3) := by rw [sgF, if_neg (fun g => at_ne c61 (by omega) (by omega) (by omega) ((at_ahd (n := n) (e := a) (c := 94) (t := t) (by omega)).mp g)), if_neg (fun g => at_ne c61 (by omega) (by omega) (by omega) ((at_ahd (n := n) (e := a) (c := 126) (t := t) (by omega)).mp g)), if_pos ((at_ahd (n := n) (e := a) (c := 61) (t := t) (by omega)).mpr c61)]
        rw [e, f]
        exact ⟨by rw [if_pos (show a < a + 1 by omega)], fun g => absurd (show a < a + 1 by omega) g⟩
      · skip
        by_cases c60 : atc n t a 60
        · by_cases d61 : atc n t (a + 1) 61
          · have e : sgC n t a = (6, a + 1 + 1) := by rw [sgC, if_neg (at_ne c60 (by omega) (by omega) (by omega)), if_neg (at_ne c60 (by omega) (by omega) (by omega)), if_neg (at_ne c60 (by omega) (by omega) (by omega)), if_pos c60, if_pos d61]
            have f : sgF n a false t = (a + 1 + 1, nI 7) := by rw [sgF, if_neg (fun g => at_ne c60 (by omega) (by omega) (by omega) ((at_ahd (n := n) (e := a) (c := 94) (t := t) (by omega)).mp g)), if_neg (fun g => at_ne c60 (by omega) (by omega) (by omega) ((at_ahd (n := n) (e := a) (c := 126) (t := t) (by omega)).mp g)), if_neg (fun g => at_ne c60 (by omega) (by omega) (by omega) ((at_ahd (n := n) (e := a) (c := 61) (t := t) (by omega)).mp g)), if_pos ((at_ahd (n := n) (e := a) (c := 60) (t := t) (by omega)).mpr c60), if_pos ((at_ahd (n := n) (e := (a + 1)) (c := 61) (t := t) (by omega)).mpr d61)]
            rw [e, f]
            exact ⟨by rw [if_pos (show a < a + 1 + 1 by omega)], fun g => absurd (show a < a + 1 + 1 by omega) g⟩
          · have e : sgC n t a = (5, a + 1) := by rw [sgC, if_neg (at_ne c60 (by omega) (by omega) (by omega)), if_neg (at_ne c60 (by omega) (by omega) (by omega)), if_neg (at_ne c60 (by omega) (by omega) (by omega)), if_pos c60, if_neg d61]
            have f : sgF n a false t = (a + 1, nI 6) := by rw [sgF, if_neg (fun g => at_ne c60 (by omega) (by omega) (by omega) ((at_ahd (n := n) (e := a) (c := 94) (t := t) (by omega)).mp g)), if_neg (fun g => at_ne c60 (by omega) (by omega) (by omega) ((at_ahd (n := n) (e := a) (c := 126) (t := t) (by omega)).mp g)), if_neg (fun g => at_ne c60 (by omega) (by omega) (by omega) ((at_ahd (n := n) (e := a) (c := 61) (t := t) (by omega)).mp g)), if_pos ((at_ahd (n := n) (e := a) (c := 60) (t := t) (by omega)).mpr c60), if_neg (fun g => d61 ((at_ahd (n := n) (e := (a + 1)) (c := 61) (t := t) (by omega)).mp g))]
            rw [e, f]
            exact ⟨by rw [if_pos (show a < a + 1 by omega)], fun g => absurd (show a < a + 1 by omega) g⟩
        · skip
          by_cases c62 : atc n t a 62
          · by_cases d61 : atc n t (a + 1) 61
            · have e : sgC n t a = (4, a + 1 + 1) := by rw [sgC, if_neg (at_ne c62 (by omega) (by omega) (by omega)), if_neg (at_ne c62 (by omega) (by omega) (by omega)), if_pos c62, if_pos d61]
              have f : sgF n a false t = (a + 1 + 1, nI 5) := by rw [sgF, if_neg (fun g => at_ne c62 (by omega) (by omega) (by omega) ((at_ahd (n := n) (e := a) (c := 94) (t := t) (by omega)).mp g)), if_neg (fun g => at_ne c62 (by omega) (by omega) (by omega) ((at_ahd (n := n) (e := a) (c := 126) (t := t) (by omega)).mp g)), if_neg (fun g => at_ne c62 (by omega) (by omega) (by omega) ((at_ahd (n := n) (e := a) (c := 61) (t := t) (by omega)).mp g)), if_neg (fun g => at_ne c62 (by omega) (by omega) (by omega) ((at_ahd (n := n) (e := a) (c := 60) (t := t) (by omega)).mp g)), if_pos ((at_ahd (n := n) (e := a) (c := 62) (t := t) (by omega)).mpr c62), if_pos ((at_ahd (n := n) (e := (a + 1)) (c := 61) (t := t) (by omega)).mpr d61)]
              rw [e, f]
              exact ⟨by rw [if_pos (show a < a + 1 + 1 by omega)], fun g => absurd (show a < a + 1 + 1 by omega) g⟩
            · have e : sgC n t a = (3, a + 1) := by rw [sgC, if_neg (at_ne c62 (by omega) (by omega) (by omega)), if_neg (at_ne c62 (by omega) (by omega) (by omega)), if_pos c62, if_neg d61]
              have f : sgF n a false t = (a + 1, nI 4) := by rw [sgF, if_neg (fun g => at_ne c62 (by omega) (by omega) (by omega) ((at_ahd (n := n) (e := a) (c := 94) (t := t) (by omega)).mp g)), if_neg (fun g => at_ne c62 (by omega) (by omega) (by omega) ((at_ahd (n := n) (e := a) (c := 126) (t := t) (by omega)).mp g)), if_neg (fun g => at_ne c62 (by omega) (by omega) (by omega) ((at_ahd (n := n) (e := a) (c := 61) (t := t) (by omega)).mp g)), if_neg (fun g => at_ne c62 (by omega) (by omega) (by omega) ((at_ahd (n := n) (e := a) (c := 60) (t := t) (by omega)).mp g)), if_pos ((at_ahd (n := n) (e := a) (c := 62) (t := t) (by omega)).mpr c62), if_neg (fun g => d61 ((at_ahd (n := n) (e := (a + 1)) (c := 61) (t := t) (by omega)).mp g))]
              rw [e, f]
              exact ⟨by rw [if_pos (show a < a + 1 by omega)], fun g => absurd (show a < a + 1 by omega) g⟩
          · skip
            have e : sgC n t a = (0, a) := by rw [sgC, if_neg c126, if_neg c61, if_neg c62, if_neg c60, if_neg c94]
            have f : sgF n a false t = (a, -1) := by rw [sgF, if_neg (fun g => c94 ((at_ahd (n := n) (e := a) (c := 94) (t := t) (by omega)).mp g)), if_neg (fun g => c126 ((at_ahd (n := n) (e := a) (c := 126) (t := t) (by omega)).mp g)), if_neg (fun g => c61 ((at_ahd (n := n) (e := a) (c := 61) (t := t) (by omega)).mp g)), if_neg (fun g => c60 ((at_ahd (n := n) (e := a) (c := 60) (t := t) (by omega)).mp g)), if_neg (fun g => c62 ((at_ahd (n := n) (e := a) (c := 62) (t := t) (by omega)).mp g))]
            rw [e, f]
            exact ⟨by rw [if_neg (show ¬ a < a by omega)], fun _ => ⟨rfl, rfl⟩⟩
/-- two versions that are one -/
def vEq (V U : vV) : Prop := V.1 = U.1 ∧ V.2.1 = U.2.1 ∧ V.2.2.1 = U.2.2.1 ∧ V.2.2.2.1 = U.2.2.2.1 ∧ ∀ j, j < V.2.2.2.1 → V.2.2.2.2 j = U.2.2.2.2 j
theorem spnF_cg {q : Int32 → Bool} {t t' : Nat → Int32} : ∀ (k a : Nat), (∀ j, a ≤ j → j < a + k → t j = t' j) → spnF q t k a = spnF q t' k a
  | 0, _, _ => rfl
  | k + 1, a, h => by rw [spnF, spnF, h a (by omega) (by omega), spnF_cg k (a + 1) (fun j x y => h j (by omega) (by omega))]
theorem spn_cg {q : Int32 → Bool} {t t' : Nat → Int32} {n a : Nat} (h : ∀ j, j < n → t j = t' j) : spn q t n a = spn q t' n a := spnF_cg _ _ (fun j x y => h j (by omega))
theorem alld_cg {t t' : Nat → Int32} : ∀ (m : Nat), (∀ j, j < m → t j = t' j) → alld t m 0 = alld t' m 0
  | 0, _ => rfl
  | m + 1, h => by rw [alld_s, alld_s, alld_cg m (fun j hj => h j (by omega)), Nat.zero_add, h m (by omega)]
theorem dgv_cg {t t' : Nat → Int32} : ∀ (m : Nat), (∀ j, j < m → t j = t' j) → dgv t 0 m = dgv t' 0 m
  | 0, _ => rfl
  | m + 1, h => by rw [dgv, dgv, dgv_cg m (fun j hj => h j (by omega)), Nat.zero_add, h m (by omega)]
theorem wnum_cg {t t' : Nat → Int32} {m : Nat} (h : ∀ j, j < m → t j = t' j) : wnum t m = wnum t' m := by rw [wnum, wnum, alld_cg m h, dgv_cg m h]
theorem wdAt_cg {g : zH} {p m : Nat} {t t' : Nat → Int32} (h : ∀ j, j < m → t j = t' j) (k : wdAt g p t m) : wdAt g p t' m := by
  obtain ⟨pb, fb, a, b, c, d, e, f⟩ := k
  refine ⟨pb, fb, by rw [← wnum_cg h]; exact a, b, fun j hj => by rw [← h j hj]; exact c j hj, d, e, fun x => ?_⟩
  rw [← alld_cg m h] at x
  exact ⟨(f x).1, fun y z => (f x).2 y (by rw [h 0 d]; exact z)⟩
theorem wsAt_cg {g : zH} {f : Nat → Option Nat} {L m : Nat} {w w' : Nat → Int32} {pos : Nat → Nat} (h : ∀ j, j < m → w j = w' j) (k : wsAt g f L w m pos) : wsAt g f L w' m pos := by
  have hp := ws_pos k
  refine ⟨k.1, fun i hi => ?_, k.2.2⟩
  obtain ⟨q, a, b, c⟩ := k.2.1 i hi
  have hle : spn noPt w m (pos i) ≤ m := spn_le (by have := hp i hi; omega)
  refine ⟨q, a, ?_, by rw [← spn_cg h]; exact c⟩
  rw [← spn_cg h]
  exact wdAt_cg (fun j hj => h _ (by omega)) b
theorem vrAt_cg {g : zH} {p : Nat} {V U : vV} (h : vEq V U) (k : vrAt g p V) : vrAt g p U := by
  obtain ⟨x, y, z, m, w⟩ := V
  obtain ⟨x', y', z', m', w'⟩ := U
  obtain ⟨e1, e2, e3, e4, e5⟩ := h
  cases e1
  cases e2
  cases e3
  cases e4
  obtain ⟨pw, f, L, pos, a, b, c⟩ := k
  exact ⟨pw, f, L, pos, a, b, wsAt_cg e5 c⟩
theorem rsV_cg {V U : vV} (h : vEq V U) (k : Nat) : rsV V k = rsV U k := by rw [rsV, rsV, h.1, h.2.1, h.2.2.1]
theorem kcF_cg {V U : vV} (h : vEq V U) (k : Nat) : kcF V k = kcF U k := by rw [kcF, kcF, h.1, h.2.1]
def oEq (a b : Option vV) : Prop := (a = none ∧ b = none) ∨ ∃ V U, a = some V ∧ b = some U ∧ (vEq V U ∨ V = U)
theorem ovAt_cg {g : zH} {p : Option Nat} {a b : Option vV} (h : oEq a b) (k : ovAt g p a) : ovAt g p b := by
  rcases h with ⟨e1, e2⟩ | ⟨V, U, e1, e2, e3⟩
  · rw [e1] at k; rw [e2]; exact k
  · rw [e1] at k
    rw [e2]
    obtain ⟨q, x, y⟩ := k
    rcases e3 with e3 | e3
    · exact ⟨q, x, vrAt_cg e3 y⟩
    · exact ⟨q, x, e3 ▸ y⟩
def sEq (s u : sV) : Prop := oEq s.1 u.1 ∧ oEq s.2.1 u.2.1 ∧ s.2.2.1 = u.2.2.1 ∧ oEq s.2.2.2.1 u.2.2.2.1 ∧ s.2.2.2.2 = u.2.2.2.2
theorem spAt_cg {g : zH} {p : Nat} {s u : sV} (h : sEq s u) (k : spAt g p s) : spAt g p u := by
  obtain ⟨a, b, c, e, x, y, z⟩ := k
  exact ⟨a, b, c, by rw [← h.2.2.1, ← h.2.2.2.2]; exact e, ovAt_cg h.1 x, ovAt_cg h.2.1 y, ovAt_cg h.2.2.2.1 z⟩
theorem oEq_v {V U : vV} (h : vEq V U) : oEq (some V) (some U) := Or.inr ⟨V, U, rfl, rfl, Or.inl h⟩
theorem oEq_s {V U : vV} (h : V = U) : oEq (some V) (some U) := Or.inr ⟨V, U, rfl, rfl, Or.inr h⟩
theorem oEq_n : oEq none none := Or.inl ⟨rfl, rfl⟩
theorem oEq_la {V U : vV} (h : vEq V U) (k : Nat) : oEq (some (laV V k)) (some (laV U k)) := by
  unfold laV
  split
  · exact oEq_v h
  · exact oEq_s (rsV_cg h k)
theorem spC_cg {V U : vV} (h : vEq V U) (s k : Nat) : sEq (spC s V k) (spC s U k) := by
  match s with
  | 0 => exact ⟨oEq_v h, oEq_v h, rfl, oEq_s (by rw [kcF_cg h, rsV_cg h]), rfl⟩
  | 1 => exact ⟨oEq_v h, oEq_v h, rfl, oEq_s (by rw [rsV_cg h]), rfl⟩
  | 2 => exact ⟨oEq_v h, oEq_v h, rfl, oEq_la h k, rfl⟩
  | 3 => exact ⟨oEq_v h, oEq_la h k, rfl, oEq_n, rfl⟩
  | 4 => exact ⟨oEq_v h, oEq_v h, rfl, oEq_n, rfl⟩
  | 5 => exact ⟨oEq_v h, oEq_n, rfl, oEq_v h, rfl⟩
  | s + 6 => exact ⟨oEq_v h, oEq_n, rfl, oEq_la h k, rfl⟩
/-- "1.*" is just "=1" -/
theorem spC_til (V : vV) {k : Nat} (h : k = 1 ∨ k = 2) : spC 1 V k = spC 2 V k := by
  rcases h with e | e <;> subst e <;> rfl
theorem vEq_refl (V : vV) : vEq V V := ⟨rfl, rfl, rfl, rfl, fun _ _ => rfl⟩
