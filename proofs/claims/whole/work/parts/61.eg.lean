def pkS (r : rA) (D : List (Nat × List sV)) : Prop := ∀ j d, D[j]? = some d → d.1 < 8 ∧ r 13 (200 + j) = nI d.1
/-- a requirement's rows are sound -/
def rqK (r : rA) (y : Nat) : Prop := r 12 y = nI (cnt r y) ∧ cnt r y ≤ 4 ∧ ∀ m, m < cnt r y → cmOK r (41 + 4 * y + m)
def rqS (r : rA) (D : List (Nat × List sV)) : Prop := ∀ x d, D[x]? = some d → (∀ g p, rqAt g p (qOf d.2) → rqAt g p (qR r (208 + x))) ∧ rqK r (208 + x)
theorem rqK_sam {r r' : rA} {y : Nat} (h12 : r' 12 y = r 12 y) (hK : rqK r y) (hs : ∀ m, m < 4 → (∀ j, (5 ≤ j ∧ j ≤ 11 ∧ j ≠ 9) → r' j (41 + 4 * y + m) = r j (41 + 4 * y + m)) ∧ ∀ c, c < 24 → r' 9 (24 * (41 + 4 * y + m) + c) = r 9 (24 * (41 + 4 * y + m) + c)) : (∀ g p, rqAt g p (qR r y) → rqAt g p (qR r' y)) ∧ rqK r' y := by
  have ec : cnt r' y = cnt r y := by rw [cnt, cnt, h12]
  obtain ⟨k1, k2, k3⟩ := hK
  refine ⟨fun g p hq => ?_, by rw [h12, ec]; exact k1, by rw [ec]; exact k2, fun m hm => ?_⟩
  · obtain ⟨pa, f, a1, a2, a3, a4⟩ := hq
    have e0 : (qR r' y).1 = (qR r y).1 := ec
    refine ⟨pa, f, by rw [e0]; exact a1, a2, by rw [e0]; exact a3, fun j hj => ?_⟩
    rw [e0] at hj
    obtain ⟨b, b1, b2⟩ := a4 j hj
    have hj' : j < cnt r y := hj
    exact ⟨b, b1, spAt_cg (spR_sam (hs j (by omega)) (k3 j hj').1.1.2) b2⟩
  · rw [ec] at hm
    exact cmOK_sam (hs m (by omega)) (k3 m hm)
theorem pk_no {r : rA} {q : Nat} : ∀ (D : List (Nat × List sV)) (i : Nat), i ≤ D.length → pkS r D → D.lookup q = none → q < 8 → anyP r (nI q) i = false
  | D, 0, _, _, _, _ => rfl
  | D, i + 1, hi, hp, hl, hq => by
    rw [anyP, pk_no D i (by omega) hp hl hq]
    obtain ⟨h8, h13⟩ := hp i D[i] (List.getElem?_eq_getElem (by omega))
    rw [h13]
    refine (Bool.false_or _).trans (decide_eq_false (fun e => ?_))
    have e := (nI_eq (by omega) (by omega)).mp e
    have hm : D[i] ∈ D := List.getElem_mem _
    have := List.lookup_eq_none_iff.mp hl _ hm
    rw [e] at this
    simp at this
theorem pk_yes {r : rA} {q : Nat} {D : List (Nat × List sV)} (hp : pkS r D) (hl : ¬ D.lookup q = none) : anyP r (nI q) D.length = true := by
  have g : ∃ d ∈ D, q = d.1 := by
    refine Classical.byContradiction (fun g => hl (List.lookup_eq_none_iff.mpr (fun d hd => ?_)))
    have : ¬ q = d.1 := fun e => g ⟨d, hd, e⟩
    simpa using this
  obtain ⟨d, hd, e⟩ := g
  obtain ⟨j, hj, ej⟩ := List.getElem_of_mem hd
  obtain ⟨_, h13⟩ := hp j d (by rw [List.getElem?_eq_getElem hj, ej])
  have k : ∀ i, j < i → anyP r (nI q) i = true := by
    intro i
    induction i with
    | zero => intro h; omega
    | succ i ih =>
      intro h
      rw [anyP]
      by_cases e2 : j = i
      · rw [← e2, h13, ← e, decide_eq_true rfl]; exact Bool.or_true _
      · rw [ih (by omega)]; rfl
  exact k _ hj
theorem dp_p {n a q : Nat} {t : Nat → Int32} (h : dpk n t a q) : ahd n a false t - nI 48 = nI q := by
  rw [ahd_in h.1, h.2.2, pk_sub (by omega), Nat.add_sub_cancel_left]
theorem dp_no {n a : Nat} {t : Nat → Int32} (h : ∀ q, ¬ dpk n t a q) : isIn (ahd n a false t - nI 48) (nI 0) (nI 7) = false := by
  refine Bool.eq_false_iff.mpr (fun g => ?_)
  by_cases ha : a < n
  · rw [ahd_in ha] at g
    have g2 : ¬ t a - nI 48 < nI 0 ∧ ¬ nI 7 < t a - nI 48 := by simpa [isIn] using g
    obtain ⟨q, hq, e⟩ := nI_of (i_le_n.mpr (i_le_n.mp g2.1))
    have hq7 : q ≤ 7 := Nat.not_lt.mp (fun z => g2.2 (by rw [e]; exact (nI_ltI (by omega) hq).mpr z))
    refine h q ⟨ha, by omega, ?_⟩
    rw [← i_sub_add (t a) (nI 48), e, nI_add, Nat.add_comm]
  · rw [ahd_out (by omega)] at g
    exact absurd g (by decide +kernel)
theorem isIn_q {q : Nat} (h : q < 8) : isIn (nI q) (nI 0) (nI 7) = true := by
  have a : ¬ nI q < nI 0 := fun g => by have := (nI_ltI (by omega) (by omega)).mp g; omega
  have b : ¬ nI 7 < nI q := fun g => by have := (nI_ltI (by omega) (by omega)).mp g; omega
  simp [isIn, a, b]
theorem stk_59 {n e : Nat} {t : Nat → Int32} (h : stk n t e) : ¬ atc n t e 59 := fun g => by
  rcases h.2 with a | a
  · obtain ⟨k, hk, e2⟩ := isDg_ex a
    have := (nI_eq (by omega) (by omega)).mp (e2.symm.trans g.2)
    omega
  · have := (nI_eq (by omega) (by omega)).mp (a.symm.trans g.2)
    omega
/-- one more requirement is read -/
theorem pu_go {n k i a q : Nat} {r : rA} (h1 : atc n (r 2) a 59) (hi : i < 5) (hq : dpk n (r 2) (a + 1) q) (hs : atc n (r 2) (a + 1 + 1) 32) (hp : anyP r (nI q) i = false) : puF n (k + 1) i a r = if (rqR (208 + i) n (a + 1 + 1 + 1) (rset r 13 (200 + i) (nI q))).2.1 = true then ((rqR (208 + i) n (a + 1 + 1 + 1) (rset r 13 (200 + i) (nI q))).1, true, rset (rqR (208 + i) n (a + 1 + 1 + 1) (rset r 13 (200 + i) (nI q))).2.2 14 40 (nI (i + 1))) else puF n k (i + 1) (rqR (208 + i) n (a + 1 + 1 + 1) (rset r 13 (200 + i) (nI q))).1 (rset (rqR (208 + i) n (a + 1 + 1 + 1) (rset r 13 (200 + i) (nI q))).2.2 14 40 (nI (i + 1))) := by
  rw [puF, if_pos ((at_ahd (by omega)).mpr h1)]
  dsimp only
  obtain ⟨e1, e2⟩ := tk_yes (by omega) hs
  rw [dp_p hq, isIn_q hq.2.1, decide_eq_false (show ¬ i = 5 by omega)]
  rw [show (false || !true) = false from rfl, e1, e2, hp, if_neg (show ¬ (false || false) = true by decide)]
theorem pu_en {n k i a : Nat} {r : rA} (h1 : ¬ atc n (r 2) a 59) : puF n (k + 1) i a r = (a, false, r) := by
  rw [puF, if_neg (fun g => h1 ((at_ahd (by omega)).mp g))]
theorem pu_bad {n k i a : Nat} {r : rA} (h1 : atc n (r 2) a 59) (h : i = 5 ∨ (∀ q, ¬ dpk n (r 2) (a + 1) q) ∨ ¬ atc n (r 2) (a + 1 + 1) 32 ∨ ∃ q, dpk n (r 2) (a + 1) q ∧ anyP r (nI q) i = true) : (puF n (k + 1) i a r).2.1 = true := by
  rw [puF, if_pos ((at_ahd (by omega)).mpr h1)]
  dsimp only
  have e : (tkB n (a + 1 + 1) (decide (i = 5) || !isIn (ahd n (a + 1) false (r 2) - nI 48) (nI 0) (nI 7)) (r 2) (nI 32) || anyP r (ahd n (a + 1) false (r 2) - nI 48) i) = true := by
    rcases h with h | h | h | ⟨q, h, h'⟩
    · rw [decide_eq_true h]
      show (tkB n (a + 1 + 1) true (r 2) (nI 32) || _) = true
      rw [tkB_bad]; rfl
    · rw [dp_no h]
      have : (decide (i = 5) || !false) = true := Bool.or_true _
      rw [this, tkB_bad]; rfl
    · have : ∀ b, tkB n (a + 1 + 1) b (r 2) (nI 32) = true := fun b => by
        cases b with
        | true => exact tkB_bad
        | false => exact tk_no (fun g => h ((at_ahd (by omega)).mp g))
      rw [this]; rfl
    · rw [dp_p h, h']; exact Bool.or_true _
  rw [if_pos e]
theorem pd_no {n : Nat} : ∀ (f i k a : Nat) (D : List (Nat × List sV)) (r : rA), f + i = 5 → k + i = 6 → a ≤ n → D.length = i → pkS r D → pdN (r 2) n f a D → (puF n k i a r).2.1 = true ∨ ¬ (puF n k i a r).1 = n
  | 0, i, k, a, D, r, h1, h2, ha, hD, hp, h => by
    obtain ⟨k', e⟩ : ∃ k', k = k' + 1 := ⟨k - 1, by omega⟩
    subst e
    by_cases g : atc n (r 2) a 59
    · exact Or.inl (pu_bad g (Or.inl (by omega)))
    · rw [pu_en g]; exact Or.inr h
  | f + 1, i, k, a, D, r, h1, h2, ha, hD, hp, h => by
    obtain ⟨k', e⟩ : ∃ k', k = k' + 1 := ⟨k - 1, by omega⟩
    subst e
    rcases h with ⟨g, h⟩ | ⟨g, h⟩
    · rw [pu_en g]; exact Or.inr h
    · rcases h with h | ⟨q, hq, h⟩
      · exact Or.inl (pu_bad g (Or.inr (Or.inl h)))
      · rcases h with h | ⟨hs, h⟩
        · exact Or.inl (pu_bad g (Or.inr (Or.inr (Or.inl h))))
        · by_cases hl : D.lookup q = none
          · have e2 : (rset r 13 (200 + i) (nI q)) 2 = r 2 := rset_n _ _ _ (by decide)
            have ha3 : a + 1 + 1 + 1 ≤ n := hs.1
            rw [pu_go g (by omega) hq hs (pk_no D i (by omega) hp hl hq.2.1)]
            have key : ded n (r 2) (rqR (208 + i) n (a + 1 + 1 + 1) (rset r 13 (200 + i) (nI q))).1 (rqR (208 + i) n (a + 1 + 1 + 1) (rset r 13 (200 + i) (nI q))).2.1 → (if (rqR (208 + i) n (a + 1 + 1 + 1) (rset r 13 (200 + i) (nI q))).2.1 = true then ((rqR (208 + i) n (a + 1 + 1 + 1) (rset r 13 (200 + i) (nI q))).1, true, rset (rqR (208 + i) n (a + 1 + 1 + 1) (rset r 13 (200 + i) (nI q))).2.2 14 40 (nI (i + 1))) else puF n k' (i + 1) (rqR (208 + i) n (a + 1 + 1 + 1) (rset r 13 (200 + i) (nI q))).1 (rset (rqR (208 + i) n (a + 1 + 1 + 1) (rset r 13 (200 + i) (nI q))).2.2 14 40 (nI (i + 1)))).2.1 = true ∨ ¬ (if (rqR (208 + i) n (a + 1 + 1 + 1) (rset r 13 (200 + i) (nI q))).2.1 = true then ((rqR (208 + i) n (a + 1 + 1 + 1) (rset r 13 (200 + i) (nI q))).1, true, rset (rqR (208 + i) n (a + 1 + 1 + 1) (rset r 13 (200 + i) (nI q))).2.2 14 40 (nI (i + 1))) else puF n k' (i + 1) (rqR (208 + i) n (a + 1 + 1 + 1) (rset r 13 (200 + i) (nI q))).1 (rset (rqR (208 + i) n (a + 1 + 1 + 1) (rset r 13 (200 + i) (nI q))).2.2 14 40 (nI (i + 1)))).1 = n := by
              have pf := rqR_pF (r0 := 208 + i) (n := n) (a := a + 1 + 1 + 1) (r := rset r 13 (200 + i) (nI q)) ha3 (by omega)
              generalize rqR (208 + i) n (a + 1 + 1 + 1) (rset r 13 (200 + i) (nI q)) = w at *
              intro hd
              by_cases gb : w.2.1 = true
              · rw [if_pos gb]; exact Or.inl rfl
              · rw [if_neg gb]
                have st : stk n (r 2) w.1 := hd.elim (fun z => absurd z gb) id
                obtain ⟨k2, e⟩ : ∃ k2, k' = k2 + 1 := ⟨k' - 1, by omega⟩
                subst e
                have t2 : (rset w.2.2 14 40 (nI (i + 1))) 2 = r 2 := by rw [rset_n _ _ _ (by decide), pF_2 pf, e2]
                rw [pu_en (by rw [t2]; exact stk_59 st)]
                exact Or.inr (Nat.ne_of_lt st.1)
            rcases h with h | ⟨l, e, hr, h⟩
            · refine key ?_
              have := rqR_no2 (r0 := 208 + i) (n := n) (a := a + 1 + 1 + 1) (r := rset r 13 (200 + i) (nI q)) ha3 (by rw [e2]; exact h)
              rw [e2] at this
              exact this
            · rcases h with h | h
              · exact absurd hl h
              · rcases rqR_ok2 (r0 := 208 + i) (n := n) (a := a + 1 + 1 + 1) (e := e) (l := l) (r := rset r 13 (200 + i) (nI q)) ha3 (by rw [e2]; exact hr) with ⟨r', q1, q2, q3, q4, q5, q6, q7, q8, q9⟩ | ⟨q1, q2⟩
                · have hl2 := (rqR_ok (r0 := 208 + i) (n := n) (a := a + 1 + 1 + 1) (r := rset r 13 (200 + i) (nI q)) ha3).1.2
                  rw [q1] at hl2 ⊢
                  rw [if_neg (show ¬ (false = true) by nofun)]
                  have t2 : (rset r' 14 40 (nI (i + 1))) 2 = r 2 := by rw [rset_n _ _ _ (by decide), q8 2 (by omega), e2]
                  refine pd_no f (i + 1) k' e (D ++ [(q, l)]) (rset r' 14 40 (nI (i + 1))) (by omega) (by omega) hl2 (by rw [List.length_append, hD]; rfl) ?_ (by rw [t2]; exact h)
                  intro j d hd
                  rw [rset_n _ _ _ (by decide), q8 13 (by omega)]
                  by_cases ej : j = i
                  · rw [ej, ← hD, List.getElem?_append_right (Nat.le_refl _), Nat.sub_self] at hd
                    cases hd
                    exact ⟨hq.2.1, by rw [ej]; simp [rset, upd]⟩
                  · have hj : j < D.length := by
                      have := (List.getElem?_eq_some_iff.mp hd).1
                      rw [List.length_append] at this
                      have : j < D.length + 1 := this
                      omega
                    rw [List.getElem?_append_left hj] at hd
                    rw [rset_i (by omega)]
                    exact hp j d hd
                · refine key ?_
                  rw [e2] at q2
                  exact q2
          · exact Or.inl (pu_bad g (Or.inr (Or.inr (Or.inr ⟨q, hq, by rw [← hD]; exact pk_yes hp hl⟩))))
theorem snoc_at {α : Type} {D : List α} {y d : α} {j i : Nat} (hD : D.length = i) (h : (D ++ [y])[j]? = some d) : (j = i ∧ d = y) ∨ (j < i ∧ D[j]? = some d) := by
  by_cases ej : j = i
  · rw [ej, ← hD, List.getElem?_append_right (Nat.le_refl _), Nat.sub_self] at h
    cases h
    exact Or.inl ⟨ej, rfl⟩
  · have hj : j < D.length := by
      have := (List.getElem?_eq_some_iff.mp h).1
      rw [List.length_append] at this
      have : j < D.length + 1 := this
      omega
    rw [List.getElem?_append_left hj] at h
    exact Or.inr ⟨by omega, h⟩
theorem pd_ok {n : Nat} : ∀ (f i k a : Nat) (D L : List (Nat × List sV)) (r : rA), f + i = 5 → k + i = 6 → a ≤ n → D.length = i → pkS r D → rqS r D → r 14 40 = nI i → pdC (r 2) n f a D L → ∃ r', puF n k i a r = (n, false, r') ∧ pkS r' L ∧ rqS r' L ∧ r' 14 40 = nI L.length ∧ L.length ≤ 5 ∧ samS (fun y => 873 ≤ y ∧ y < 893) r r' ∧ r' 18 = r 18 ∧ r' 19 = r 19
  | 0, i, k, a, D, L, r, h1, h2, ha, hD, hp, hq, h14, h => by
    obtain ⟨k', e⟩ : ∃ k', k = k' + 1 := ⟨k - 1, by omega⟩
    subst e
    obtain ⟨e1, e2⟩ := h
    subst e1 e2
    exact ⟨r, pu_en (not_at (Nat.le_refl _)), hp, hq, by rw [hD]; exact h14, by omega, sam_refl r, rfl, rfl⟩
  | f + 1, i, k, a, D, L, r, h1, h2, ha, hD, hp, hq, h14, h => by
    obtain ⟨k', e⟩ : ∃ k', k = k' + 1 := ⟨k - 1, by omega⟩
    subst e
    rcases h with ⟨g, e1, e2⟩ | ⟨g, q, l, e, hdp, hs, hr, hl, h⟩
    · subst e1 e2
      exact ⟨r, pu_en g, hp, hq, by rw [hD]; exact h14, by omega, sam_refl r, rfl, rfl⟩
    · have e2 : (rset r 13 (200 + i) (nI q)) 2 = r 2 := rset_n _ _ _ (by decide)
      have ha3 : a + 1 + 1 + 1 ≤ n := hs.1
      rw [pu_go g (by omega) hdp hs (pk_no D i (by omega) hp hl hdp.2.1)]
      have hl2 := (rqR_ok (r0 := 208 + i) (n := n) (a := a + 1 + 1 + 1) (r := rset r 13 (200 + i) (nI q)) ha3).1.2
      rcases rqR_ok2 (r0 := 208 + i) (n := n) (a := a + 1 + 1 + 1) (e := e) (l := l) (r := rset r 13 (200 + i) (nI q)) ha3 (by rw [e2]; exact hr) with ⟨r', q1, q2, q3, q4, q5, q6, q7, q8, q9⟩ | ⟨q1, q2⟩
      · rw [q1] at hl2 ⊢
        rw [if_neg (show ¬ (false = true) by nofun)]
        have t2 : (rset r' 14 40 (nI (i + 1))) 2 = r 2 := by rw [rset_n _ _ _ (by decide), q8 2 (by omega), e2]
        have c4 : cnt (rset r' 14 40 (nI (i + 1))) (208 + i) = l.length := by rw [cnt, rset_n _ _ _ (by decide), q4, nI_clamp (by omega)]
        have s14 : samS (fun _ => False) r' (rset r' 14 40 (nI (i + 1))) := fun row _ => ⟨fun j hj => by rw [rset_n _ _ _ (by omega)], fun c _ => by rw [rset_n _ _ _ (by decide)]⟩
        have s13 : samS (fun _ => False) r (rset r 13 (200 + i) (nI q)) := fun row _ => ⟨fun j hj => by rw [rset_n _ _ _ (by omega)], fun c _ => by rw [rset_n _ _ _ (by decide)]⟩
        have sAll : samS (fun y => 41 + 4 * (208 + i) ≤ y ∧ y < 41 + 4 * (208 + i) + 4) r (rset r' 14 40 (nI (i + 1))) := sam_trans (sam_trans (sam_mono s13 (fun _ z => z.elim)) q7) (sam_mono s14 (fun _ z => z.elim))
        obtain ⟨r2, p1, p2, p3, p4, p5, p6, p7, p8⟩ := pd_ok f (i + 1) k' e (D ++ [(q, l)]) L (rset r' 14 40 (nI (i + 1))) (by omega) (by omega) hl2 (by rw [List.length_append, hD]; rfl) (by
            intro j d hd
            rw [rset_n _ _ _ (by decide), q8 13 (by omega)]
            rcases snoc_at hD hd with ⟨ej, ed⟩ | ⟨ej, ed⟩
            · subst ed
              exact ⟨hdp.2.1, by rw [ej]; simp [rset, upd]⟩
            · rw [rset_i (by omega)]
              exact hp j d ed) (by
            intro x d hd
            rcases snoc_at hD hd with ⟨ej, ed⟩ | ⟨ej, ed⟩
            · subst ed
              rw [ej]
              have kK : rqK r' (208 + i) := by
                have c5 : cnt r' (208 + i) = l.length := by rw [cnt, q4, nI_clamp (by omega)]
                exact ⟨by rw [c5]; exact q4, by rw [c5]; omega, fun m hm => q6 m (by omega)⟩
              obtain ⟨z1, z2⟩ := rqK_sam (r' := rset r' 14 40 (nI (i + 1))) (y := 208 + i) (by rw [rset_n _ _ _ (by decide)]) kK (fun m _ => s14 _ (fun z => z))
              exact ⟨fun g p hh => z1 g p (q5 g p hh), z2⟩
            · obtain ⟨y1, y2⟩ := hq x d ed
              obtain ⟨z1, z2⟩ := rqK_sam (r := r) (r' := rset r' 14 40 (nI (i + 1))) (y := 208 + x) (by rw [rset_n _ _ _ (by decide), q9 _ (by omega), rset_n _ _ _ (by decide)]) y2 (fun m _ => sAll _ (fun z => by omega))
              exact ⟨fun g p hh => z1 g p (y1 g p hh), z2⟩) (by simp [rset, upd]) (by rw [t2]; exact h)
        refine ⟨r2, p1, p2, p3, p4, p5, sam_trans (sam_mono sAll (fun y hy => by omega)) p6, ?_, ?_⟩
        · rw [p7, rset_n _ _ _ (by decide), q8 18 (by omega), rset_n _ _ _ (by decide)]
        · rw [p8, rset_n _ _ _ (by decide), q8 19 (by omega), rset_n _ _ _ (by decide)]
      · rw [e2] at q1
        exfalso
        cases f with
        | zero => exact absurd h.1 (Nat.ne_of_lt q1.1)
        | succ f =>
          rcases h with ⟨_, h, _⟩ | ⟨h, _⟩
          · exact absurd h (Nat.ne_of_lt q1.1)
          · exact stk_59 q1 h
theorem pub_ok {n : Nat} {L : List (Nat × List sV)} {r : rA} (h : veR (r 2) n 0) (h2 : pdC (r 2) n 5 (veE (r 2) n 0) [] L) : ∃ r', pubF n r = (n, false, r') ∧ vEq (veV (r 2) n 0) (rowV r' 40) ∧ (r' 8 40 = nI (wsz r' 40) ∧ wsz r' 40 ≤ 24) ∧ r' 18 40 = nI (veE (r 2) n 0) ∧ veE (r 2) n 0 ≤ 24 ∧ (∀ j, j < veE (r 2) n 0 → r' 19 (960 + j) = r 2 j) ∧ pkS r' L ∧ rqS r' L ∧ r' 14 40 = nI L.length ∧ L.length ≤ 5 ∧ r' 10 40 = r 10 40 := by
  obtain ⟨r1, e, a1, a2, a3, a4, a5⟩ := ver_ok (Nat.zero_le _) h
  have pf := ver_pF (n := n) (a := 0) (b := false) (r := r)
  have h10 := verF_ok (n := n) (a := 0) (b := false) (r := r) (Nat.zero_le _)
  rw [e] at pf h10
  have t2 : (rset r1 14 40 (nI 0)) 2 = r 2 := by rw [rset_n _ _ _ (by decide)]; exact pF_2 pf
  obtain ⟨r', b1, b2, b3, b4, b5, b6, b7, b8⟩ := pd_ok 5 0 6 (veE (r 2) n 0) [] L (rset r1 14 40 (nI 0)) rfl rfl a5.2.1 rfl (fun j d hd => by cases hd) (fun j d hd => by cases hd) (by simp [rset, upd]) (by rw [t2]; exact h2)
  have k40 := b6 40 (fun z => by omega)
  have s1 : ∀ j, j ≠ 14 → (rset r1 14 40 (nI 0)) j = r1 j := fun j hj => rset_n _ _ _ hj
  have w40 : wsz r' 40 = wsz r1 40 := by rw [wsz, wsz, k40.1 8 (by decide), s1 8 (by decide)]
  refine ⟨r', ?_, ?_, ?_, ?_, by omega, fun j hj => ?_, b2, b3, b4, b5, ?_⟩
  · unfold pubF
    dsimp only
    rw [e]
    dsimp only
    rw [if_neg (show ¬ (false = true) by nofun), b1]
  · refine vEq_trans a1 (rowV_sam ⟨fun j hj => ?_, fun c hc => ?_⟩ a2.2)
    · rw [k40.1 j hj, s1 j (by omega)]
    · rw [k40.2 c hc, s1 9 (by decide)]
  · rw [w40, k40.1 8 (by decide), s1 8 (by decide)]; exact a2
  · rw [b7, s1 18 (by decide), a3, Nat.sub_zero]
  · rw [b8, s1 19 (by decide), a4 j (by omega), Nat.zero_add]
  · rw [k40.1 10 (by decide), s1 10 (by decide)]
    exact congrFun (h10.2 10 (by decide) (by decide) (by decide) (by decide) (by decide) (by decide) (by decide)) 40
theorem pub_no {n : Nat} {r : rA} (h : veN (r 2) n 0 ∨ (veR (r 2) n 0 ∧ pdN (r 2) n 5 (veE (r 2) n 0) [])) : (pubF n r).2.1 = true ∨ ¬ (pubF n r).1 = n := by
  have pf := ver_pF (n := n) (a := 0) (b := false) (r := r)
  rcases h with h | ⟨h, h2⟩
  · have hd := ver_no (Nat.zero_le _) h
    unfold pubF
    dsimp only
    generalize verF n 0 false r = w at *
    by_cases gb : w.2.1 = true
    · rw [if_pos gb]; exact Or.inl rfl
    · rw [if_neg gb]
      have st : stk n (r 2) w.1 := hd.elim (fun z => absurd z gb) id
      rw [pu_en (by rw [rset_n _ _ _ (by decide), pF_2 pf]; exact stk_59 st)]
      exact Or.inr (Nat.ne_of_lt st.1)
  · obtain ⟨r1, e, a1, a2, a3, a4, a5⟩ := ver_ok (Nat.zero_le _) h
    rw [e] at pf
    have t2 : (rset r1 14 40 (nI 0)) 2 = r 2 := by rw [rset_n _ _ _ (by decide)]; exact pF_2 pf
    unfold pubF
    dsimp only
    rw [e]
    dsimp only
    rw [if_neg (show ¬ (false = true) by nofun)]
    exact pd_no 5 0 6 (veE (r 2) n 0) [] (rset r1 14 40 (nI 0)) rfl rfl a5.2.1 rfl (fun j d hd => by cases hd) (by rw [t2]; exact h2)
