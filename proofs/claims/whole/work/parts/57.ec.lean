section
variable {row n b : Nat} {neg : Bool} {R : rA}
theorem cm1_no (hb : b ≤ n) (h : nb0 (R 2) n b) : ded n (R 2) (cm1 row n b false neg R).1 (cm1 row n b false neg R).2.1 := by
  by_cases h1 : nmOK (R 2) n b
  · rcases h with h | ⟨hp, h⟩
    · exact absurd h1 h
    · rw [cm1_go hb h1 hp.1]
      have e2 : (rset (rset R 5 row (nI (nmN (R 2) n b))) 11 row (nI 1)) 2 = R 2 := r2_5 _ _ _ _
      have hl : spn isDg (R 2) n b + 1 ≤ n := hp.1.1
      have base : ¬ nmOK (R 2) n (spn isDg (R 2) n b + 1) → ded n (R 2) (cm2 row n (spn isDg (R 2) n b + 1) false neg b (rset (rset R 5 row (nI (nmN (R 2) n b))) 11 row (nI 1))).1 (cm2 row n (spn isDg (R 2) n b + 1) false neg b (rset (rset R 5 row (nI (nmN (R 2) n b))) 11 row (nI 1))).2.1 := by
        intro h3
        have k := cm2_dd (row := row) (neg := neg) (p := b) (r := rset (rset R 5 row (nI (nmN (R 2) n b))) 11 row (nI 1)) hl (by rw [e2]; exact hp.2) (by rw [e2]; exact h3)
        rw [e2] at k
        exact k
      rcases h with h | ⟨hp2, h⟩
      · exact base h
      · by_cases h3 : nmOK (R 2) n (spn isDg (R 2) n b + 1)
        · have k := cm2_go (row := row) (neg := neg) (p := b) (r := rset (rset R 5 row (nI (nmN (R 2) n b))) 11 row (nI 1)) hl (by rw [e2]; exact hp.2) (by rw [e2]; exact h3) (by rw [e2]; exact hp2.1)
          rw [e2] at k
          rw [k]
          have e3 := r2_6 (rset (rset R 5 row (nI (nmN (R 2) n b))) 11 row (nI 1)) row (nI (nmN (R 2) n (spn isDg (R 2) n b + 1))) (nI 0) (nI 2)
          rw [e2] at e3
          have k2 := cm3_dd (row := row) (neg := neg) (p := b) (r := rset (rset (rset (rset (rset R 5 row (nI (nmN (R 2) n b))) 11 row (nI 1)) 6 row (nI (nmN (R 2) n (spn isDg (R 2) n b + 1)))) 7 row (nI 0)) 11 row (nI 2)) (a := spn isDg (R 2) n (spn isDg (R 2) n b + 1) + 1) hp2.1.1 (by rw [e3]; exact hp2.2) (by rw [e3]; exact h)
          rw [e3] at k2
          exact k2
        · exact base h3
  · exact cm1_dd hb h1
/-- three numbers -/
theorem cm1_3 (hb : b ≤ n) (h : nb3 (R 2) n b) : ∃ r1, r1 2 = R 2 ∧ r1 5 row = nI (nmN (R 2) n b) ∧ r1 6 row = nI (nmN (R 2) n (spn isDg (R 2) n b + 1)) ∧ r1 7 row = nI (nmN (R 2) n (spn isDg (R 2) n (spn isDg (R 2) n b + 1) + 1)) ∧ r1 11 row = nI 3 ∧ r1 10 row = R 10 row ∧ cm1 row n b false neg R = ((bwF row n (e3F (R 2) n b) false r1).1, (bwF row n (e3F (R 2) n b) false r1).2.1 || decide (24 < (bwF row n (e3F (R 2) n b) false r1).1 - b), (bwF row n (e3F (R 2) n b) false r1).2.2) := by
  obtain ⟨h1, hp, h2, hp2, h3⟩ := h
  have hl : spn isDg (R 2) n b + 1 ≤ n := hp.1.1
  have hl2 : spn isDg (R 2) n (spn isDg (R 2) n b + 1) + 1 ≤ n := hp2.1.1
  have e2 : (rset (rset R 5 row (nI (nmN (R 2) n b))) 11 row (nI 1)) 2 = R 2 := r2_5 _ _ _ _
  have k := cm2_go (row := row) (neg := neg) (p := b) (r := rset (rset R 5 row (nI (nmN (R 2) n b))) 11 row (nI 1)) hl (by rw [e2]; exact hp.2) (by rw [e2]; exact h2) (by rw [e2]; exact hp2.1)
  rw [e2] at k
  have e3 := r2_6 (rset (rset R 5 row (nI (nmN (R 2) n b))) 11 row (nI 1)) row (nI (nmN (R 2) n (spn isDg (R 2) n b + 1))) (nI 0) (nI 2)
  rw [e2] at e3
  obtain ⟨r1, er, k2⟩ := cm3_en (row := row) (neg := neg) (p := b) (r := rset (rset (rset (rset (rset R 5 row (nI (nmN (R 2) n b))) 11 row (nI 1)) 6 row (nI (nmN (R 2) n (spn isDg (R 2) n b + 1)))) 7 row (nI 0)) 11 row (nI 2)) (a := spn isDg (R 2) n (spn isDg (R 2) n b + 1) + 1) hl2 (by rw [e3]; exact hp2.2) (by rw [e3]; exact h3)
  rw [e3] at k2 er
  refine ⟨r1, ?_, ?_, ?_, ?_, ?_, ?_, by rw [cm1_go hb h1 hp.1, k, k2]⟩
  · rw [er, r2_6, e3]
  all_goals rw [er]
  all_goals simp [rset, upd]
theorem cm1_3no (hb : b ≤ n) (h : nb3 (R 2) n b) (hw : bwB (R 2) n (e3F (R 2) n b) ∨ 24 < bwE (R 2) n (e3F (R 2) n b) - b) : (cm1 row n b false neg R).2.1 = true := by
  obtain ⟨r1, e2, -, -, -, -, -, e⟩ := cm1_3 (row := row) (neg := neg) hb h
  rw [e]
  rcases hw with hw | hw
  · rw [bw_no (by rw [e2]; exact hw)]; rfl
  · rw [bw_fst, e2, decide_eq_true hw]; exact Bool.or_true _
theorem cm1_3ok (hb : b ≤ n) (h : nb3 (R 2) n b) (h1 : ¬ bwB (R 2) n (e3F (R 2) n b)) (h2 : bwE (R 2) n (e3F (R 2) n b) - b ≤ 24) : ∃ r', cm1 row n b false neg R = (bwE (R 2) n (e3F (R 2) n b), false, r') ∧ r' 11 row = nI 3 ∧ r' 10 row = R 10 row ∧ (r' 8 row = nI (bwE (R 2) n (e3F (R 2) n b) - (e3F (R 2) n b + 1)) ∧ bwE (R 2) n (e3F (R 2) n b) - (e3F (R 2) n b + 1) ≤ 24) ∧ vEq (nI (nmN (R 2) n b), nI (nmN (R 2) n (spn isDg (R 2) n b + 1)), nI (nmN (R 2) n (spn isDg (R 2) n (spn isDg (R 2) n b + 1) + 1)), bwE (R 2) n (e3F (R 2) n b) - (e3F (R 2) n b + 1), fun j => R 2 (e3F (R 2) n b + 1 + j)) (rowV r' row) ∧ r' 5 row = nI (nmN (R 2) n b) := by
  obtain ⟨r1, e2, a5, a6, a7, a11, a10, e⟩ := cm1_3 (row := row) (neg := neg) hb h
  have hl := nb_le3 hb h
  have h24 : bwE (R 2) n (e3F (R 2) n b) - (e3F (R 2) n b + 1) ≤ 24 := by
    have : e3F (R 2) n b = spn isDg (R 2) n (spn isDg (R 2) n (spn isDg (R 2) n b + 1) + 1) := rfl
    omega
  obtain ⟨r', f1, f2, f3, f4⟩ := bw_ok (row := row) (r := r1) (n := n) (a := e3F (R 2) n b) (by rw [e2]; exact h1) (by rw [e2]; exact h24)
  rw [e2] at f1 f3 f4
  have c8 : (r' 8 row).toNatClampNeg = bwE (R 2) n (e3F (R 2) n b) - (e3F (R 2) n b + 1) := by rw [f3, nI_clamp (by omega)]
  refine ⟨r', by rw [e, f1]; dsimp only; rw [decide_eq_false (by omega)]; rfl, by rw [f2 _ (by decide) (by decide)]; exact a11, by rw [f2 _ (by decide) (by decide)]; exact a10, ⟨f3, h24⟩, ⟨?_, ?_, ?_, c8.symm, fun j hj => (f4 j hj).symm⟩, by rw [f2 _ (by decide) (by decide)]; exact a5⟩
  · show _ = r' 5 row
    rw [f2 _ (by decide) (by decide), a5]
  · show _ = r' 6 row
    rw [f2 _ (by decide) (by decide), a6]
  · show _ = r' 7 row
    rw [f2 _ (by decide) (by decide), a7]
end
theorem cm_no {row n a : Nat} {r : rA} (ha : a ≤ n) (h : cmN (r 2) n a) : ded n (r 2) (cmpF row n a false r).1 (cmpF row n a false r).2.1 := by
  obtain ⟨hs, h⟩ := h
  obtain ⟨R, hR, -, -, -, -, -, -, e⟩ := cmp_in (row := row) hs
  have h2 : r 2 = R 2 := (hR 2 (by decide) (by decide) (by decide) (by decide) (by decide) (by decide)).symm
  have hb := (sgC_le (t := r 2) ha).2.2
  rw [e]
  have tl : ∀ E, (tlA n (r 2) a E).2 ≤ E + 2 := fun E => by unfold tlA; split <;> (dsimp only; omega)
  rcases h with h | ⟨h, g⟩ | ⟨h, g⟩ | ⟨h, g⟩
  · rw [h2] at h hb ⊢
    exact cm1_no hb h
  · have := tl (spn isDg (r 2) n (sgC n (r 2) a).2)
    have := h.1.2.1
    omega
  · have := tl (spn isDg (r 2) n (spn isDg (r 2) n (sgC n (r 2) a).2 + 1))
    have := h.1.2.1
    have := h.2.2.1.2.1
    omega
  · rw [h2] at h hb g ⊢
    exact Or.inl (cm1_3no hb h g)
theorem sEq_refl0 : sEq (none, none, false, none, false) (none, none, false, none, false) := ⟨oEq_n, oEq_n, rfl, oEq_n, rfl⟩
set_option maxHeartbeats 1000000 in
theorem cm_ok {row n a e : Nat} {sp : sV} {r : rA} (ha : a ≤ n) (h : cmR (r 2) n a sp e) : (∃ r', cmpF row n a false r = (e, false, r') ∧ sEq sp (spR r' row) ∧ cmOK r' row) ∨ (stk n (r 2) e ∧ ded n (r 2) (cmpF row n a false r).1 (cmpF row n a false r).2.1) := by
  rcases h with ⟨h1, h2, h3⟩ | ⟨hs, h24, hen, h⟩
  · left
    refine ⟨cm0 row r, ?_, ?_, ?_⟩
    · unfold cmpF
      rw [if_pos ((at_ahd (by omega)).mpr h1), h3]
    · rw [h2, spR, if_pos (by simp [cm0, rset, upd])]
      exact sEq_refl0
    · exact cmOK_0 (by simp [cm0, rset, upd]) (by simp [cm0, rset, upd]) (by simp [cm0, rset, upd]) (by simp [cm0, rset, upd])
  · obtain ⟨R, hR, R5, R6, R7, R8, R10, -, ec⟩ := cmp_in (row := row) hs
    have h2 : r 2 = R 2 := (hR 2 (by decide) (by decide) (by decide) (by decide) (by decide) (by decide)).symm
    obtain ⟨hs7, -, hb⟩ := (sgC_le (t := r 2) ha)
    rw [ec]
    rw [h2] at R10 hb hs7 h h24 ec ⊢
    have m0 : (nI 0).toNatClampNeg = 0 := by decide +kernel
    rcases h with ⟨h, E, hE, he, hsp⟩ | ⟨h, E, hE, he, hsp⟩ | ⟨h, E, hE, hw, he, hsp⟩
    · by_cases hp : atc n (R 2) E 46
      · have hst : atc n (R 2) (E + 1) 42 := by rw [hE]; exact nb1_st h (hE ▸ hp)
        have hgo := cm1_go (row := row) (neg := decide (¬ a < (sgC n (R 2) a).2)) hb h.1 (hE ▸ hp)
        have e2 : (rset (rset R 5 row (nI (nmN (R 2) n (sgC n (R 2) a).2))) 11 row (nI 1)) 2 = R 2 := r2_5 _ _ _ _
        rw [← hE] at hgo
        by_cases hg : a < (sgC n (R 2) a).2
        · right
          rw [tl_keep (Or.inl hg)] at he
          rw [he]
          refine ⟨⟨hp.1, Or.inr hp.2⟩, ?_⟩
          rw [hgo]
          have k := cm2_sd (row := row) (neg := decide (¬ a < (sgC n (R 2) a).2)) (p := (sgC n (R 2) a).2) (r := rset (rset R 5 row (nI (nmN (R 2) n (sgC n (R 2) a).2))) 11 row (nI 1)) (a := E + 1) hp.1 (by rw [e2]; exact hst) (decide_eq_false (fun q => q hg))
          rw [e2] at k
          exact k
        · left
          rw [tl_star (by omega) hp] at he hsp
          rw [hgo, cm2_st (by rw [e2]; exact hst) (decide_eq_true hg), he]
          refine ⟨_, rfl, ?_, ?_⟩
          · rw [hsp, spC_til _ (Or.inl rfl), spR_mk (s := 2) (k := 1) (by omega) (by omega) (by simp [rset, upd]) (by simp [rset, upd])]
            refine spC_cg ⟨?_, ?_, ?_, ?_, fun j hj => absurd hj (Nat.not_lt_zero _)⟩ _ _
            · show _ = _
              simp [rowV, rset, upd]
            · show _ = _
              simp [rowV, rset, upd, R6]
            · show _ = _
              simp [rowV, rset, upd, R7]
            · show _ = _
              simp [rowV, rset, upd, R8, m0]
          · exact cmOK_mk (m := 0) (s := 3) (k := 1) (v := nmN (R 2) n (sgC n (R 2) a).2) (by simp [rset, upd, R8]) (by omega) (by simp [rset, upd]) (by omega) (by simp [rset, upd]) (by omega) (by simp [rset, upd]) (nm_lt h.1)
      · left
        rw [tl_keep (Or.inr hp)] at he hsp
        rw [cm1_en hb h.1 (hE ▸ hp), ← hE, he]
        refine ⟨_, rfl, ?_, ?_⟩
        · rw [hsp, spR_mk (s := (sgC n (R 2) a).1) (k := 1) (by omega) hs7 (by simp [rset, upd]) (by simp [rset, upd, R10])]
          refine spC_cg ⟨?_, ?_, ?_, ?_, fun j hj => absurd hj (Nat.not_lt_zero _)⟩ _ _
          · show _ = _
            simp [rowV, rset, upd]
          · show _ = _
            simp [rowV, rset, upd, R6]
          · show _ = _
            simp [rowV, rset, upd, R7]
          · show _ = _
            simp [rowV, rset, upd, R8, m0]
        · exact cmOK_mk (m := 0) (s := (sgC n (R 2) a).1 + 1) (k := 1) (v := nmN (R 2) n (sgC n (R 2) a).2) (by simp [rset, upd, R8]) (by omega) (by simp [rset, upd, R10]) (by omega) (by simp [rset, upd]) (by omega) (by simp [rset, upd]) (nm_lt h.1)
    · obtain ⟨h1, hp1, h3⟩ := h
      have hl : spn isDg (R 2) n (sgC n (R 2) a).2 + 1 ≤ n := hp1.1.1
      have e2 : (rset (rset R 5 row (nI (nmN (R 2) n (sgC n (R 2) a).2))) 11 row (nI 1)) 2 = R 2 := r2_5 _ _ _ _
      rw [cm1_go hb h1 hp1.1]
      by_cases hp : atc n (R 2) E 46
      · have hst : atc n (R 2) (E + 1) 42 := by rw [hE]; exact nb1_st h3 (hE ▸ hp)
        have hgo := cm2_go (row := row) (neg := decide (¬ a < (sgC n (R 2) a).2)) (p := (sgC n (R 2) a).2) (r := rset (rset R 5 row (nI (nmN (R 2) n (sgC n (R 2) a).2))) 11 row (nI 1)) hl (by rw [e2]; exact hp1.2) (by rw [e2]; exact h3.1) (by rw [e2, ← hE]; exact hp)
        rw [e2, ← hE] at hgo
        have e3 := r2_6 (rset (rset R 5 row (nI (nmN (R 2) n (sgC n (R 2) a).2))) 11 row (nI 1)) row (nI (nmN (R 2) n (spn isDg (R 2) n (sgC n (R 2) a).2 + 1))) (nI 0) (nI 2)
        rw [e2] at e3
        rw [hgo]
        by_cases hg : a < (sgC n (R 2) a).2
        · right
          rw [tl_keep (Or.inl hg)] at he
          rw [he]
          refine ⟨⟨hp.1, Or.inr hp.2⟩, ?_⟩
          have k := cm3_sd (row := row) (neg := decide (¬ a < (sgC n (R 2) a).2)) (p := (sgC n (R 2) a).2) (r := rset (rset (rset (rset (rset R 5 row (nI (nmN (R 2) n (sgC n (R 2) a).2))) 11 row (nI 1)) 6 row (nI (nmN (R 2) n (spn isDg (R 2) n (sgC n (R 2) a).2 + 1)))) 7 row (nI 0)) 11 row (nI 2)) (a := E + 1) hp.1 (by rw [e3]; exact hst) (decide_eq_false (fun q => q hg))
          rw [e3] at k
          exact k
        · left
          rw [tl_star (by omega) hp] at he hsp
          rw [cm3_st (by rw [e3]; exact hst) (decide_eq_true hg), he]
          refine ⟨_, rfl, ?_, ?_⟩
          · rw [hsp, spC_til _ (Or.inr rfl), spR_mk (s := 2) (k := 2) (by omega) (by omega) (by simp [rset, upd]) (by simp [rset, upd])]
            refine spC_cg ⟨?_, ?_, ?_, ?_, fun j hj => absurd hj (Nat.not_lt_zero _)⟩ _ _
            · show _ = _
              simp [rowV, rset, upd]
            · show _ = _
              simp [rowV, rset, upd]
            · show _ = _
              simp [rowV, rset, upd]
            · show _ = _
              simp [rowV, rset, upd, R8, m0]
          · exact cmOK_mk (m := 0) (s := 3) (k := 2) (v := nmN (R 2) n (sgC n (R 2) a).2) (by simp [rset, upd, R8]) (by omega) (by simp [rset, upd]) (by omega) (by simp [rset, upd]) (by omega) (by simp [rset, upd]) (nm_lt h1)
      · left
        rw [tl_keep (Or.inr hp)] at he hsp
        have hen2 := cm2_en (row := row) (neg := decide (¬ a < (sgC n (R 2) a).2)) (p := (sgC n (R 2) a).2) (r := rset (rset R 5 row (nI (nmN (R 2) n (sgC n (R 2) a).2))) 11 row (nI 1)) hl (by rw [e2]; exact hp1.2) (by rw [e2]; exact h3.1) (by rw [e2, ← hE]; exact hp)
        rw [e2, ← hE] at hen2
        rw [hen2, he]
        refine ⟨_, rfl, ?_, ?_⟩
        · rw [hsp, spR_mk (s := (sgC n (R 2) a).1) (k := 2) (by omega) hs7 (by simp [rset, upd]) (by simp [rset, upd, R10])]
          refine spC_cg ⟨?_, ?_, ?_, ?_, fun j hj => absurd hj (Nat.not_lt_zero _)⟩ _ _
          · show _ = _
            simp [rowV, rset, upd]
          · show _ = _
            simp [rowV, rset, upd]
          · show _ = _
            simp [rowV, rset, upd]
          · show _ = _
            simp [rowV, rset, upd, R8, m0]
        · exact cmOK_mk (m := 0) (s := (sgC n (R 2) a).1 + 1) (k := 2) (v := nmN (R 2) n (sgC n (R 2) a).2) (by simp [rset, upd, R8]) (by omega) (by simp [rset, upd, R10]) (by omega) (by simp [rset, upd]) (by omega) (by simp [rset, upd]) (nm_lt h1)
    · left
      subst hE
      obtain ⟨r', f1, f2, f3, f4, f5, f6⟩ := cm1_3ok (row := row) (neg := decide (¬ a < (sgC n (R 2) a).2)) hb h hw (by rw [he] at h24; exact h24)
      rw [f1, he]
      refine ⟨r', rfl, ?_, cmOK_mk f4.1 f4.2 (by rw [f3, R10]) (by omega) f2 (by omega) f6 (nm_lt h.1)⟩
      rw [hsp, spR_mk (s := (sgC n (R 2) a).1) (k := 3) (by omega) hs7 f2 (by rw [f3, R10])]
      exact spC_cg f5 _ _
