theorem numB_bad {n a : Nat} {t : Nat → Int32} : numB n a true t = true := by
  rw [numB, if_neg (by rw [ahd_bad, wd_m1.2]; nofun)]
theorem tkB_bad {n a : Nat} {t : Nat → Int32} {x : Int32} : tkB n a true t x = true := by
  unfold tkB
  split <;> rfl
theorem tk_no {n a : Nat} {b : Bool} {t : Nat → Int32} {x : Int32} (h : ¬ ahd n a b t = x) : tkB n a b t x = true := if_neg h
theorem tk_yes {n a c : Nat} {t : Nat → Int32} (hc : c < 128) (h : atc n t a c) : tkA n a false t (nI c) = a + 1 ∧ tkB n a false t (nI c) = false := ⟨if_pos ((at_ahd hc).mpr h), if_pos ((at_ahd hc).mpr h)⟩
section
variable {n a : Nat} {t : Nat → Int32}
theorem vn_1 (h : tkB n (numA n a false t) (numB n a false t) t (nI 46) = true) : (vnF n a false t).2.1 = true := by
  unfold vnF
  dsimp only
  rw [h, numB_bad, tkB_bad, numB_bad]
theorem vn_go (ha : a ≤ n) (h : nmOK t n a) (hp : atc n t (spn isDg t n a) 46) : vnF n a false t = (numA n (tkA n (numA n (spn isDg t n a + 1) false t) (numB n (spn isDg t n a + 1) false t) t (nI 46)) (tkB n (numA n (spn isDg t n a + 1) false t) (numB n (spn isDg t n a + 1) false t) t (nI 46)) t, numB n (tkA n (numA n (spn isDg t n a + 1) false t) (numB n (spn isDg t n a + 1) false t) t (nI 46)) (tkB n (numA n (spn isDg t n a + 1) false t) (numB n (spn isDg t n a + 1) false t) t (nI 46)) t, nI (nmN t n a), numV n (spn isDg t n a + 1) false t, numV n (tkA n (numA n (spn isDg t n a + 1) false t) (numB n (spn isDg t n a + 1) false t) t (nI 46)) (tkB n (numA n (spn isDg t n a + 1) false t) (numB n (spn isDg t n a + 1) false t) t (nI 46)) t) := by
  obtain ⟨e1, e2, e3⟩ := num_ok ha h
  obtain ⟨k1, k2⟩ := tk_yes (by omega) hp
  unfold vnF
  dsimp only
  rw [e1, e2, e3, k1, k2]
theorem vn_2 (ha : a ≤ n) (h : nmOK t n a) (hp : atc n t (spn isDg t n a) 46) (h2 : tkB n (numA n (spn isDg t n a + 1) false t) (numB n (spn isDg t n a + 1) false t) t (nI 46) = true) : (vnF n a false t).2.1 = true := by
  rw [vn_go ha h hp]
  dsimp only
  rw [h2, numB_bad]
theorem vn_go2 (ha : a ≤ n) (h : nmOK t n a) (hp : atc n t (spn isDg t n a) 46) (h2 : nmOK t n (spn isDg t n a + 1)) (hp2 : atc n t (spn isDg t n (spn isDg t n a + 1)) 46) : vnF n a false t = (numA n (spn isDg t n (spn isDg t n a + 1) + 1) false t, numB n (spn isDg t n (spn isDg t n a + 1) + 1) false t, nI (nmN t n a), nI (nmN t n (spn isDg t n a + 1)), numV n (spn isDg t n (spn isDg t n a + 1) + 1) false t) := by
  obtain ⟨e1, e2, e3⟩ := num_ok (show spn isDg t n a + 1 ≤ n from hp.1) h2
  obtain ⟨k1, k2⟩ := tk_yes (by omega) hp2
  rw [vn_go ha h hp, e1, e2, e3, k1, k2]
theorem vn_ok (ha : a ≤ n) (h : nb3 t n a) : vnF n a false t = (e3F t n a, false, nI (nmN t n a), nI (nmN t n (spn isDg t n a + 1)), nI (nmN t n (spn isDg t n (spn isDg t n a + 1) + 1))) := by
  obtain ⟨h1, hp, h2, hp2, h3⟩ := h
  obtain ⟨e1, e2, e3⟩ := num_ok (show spn isDg t n (spn isDg t n a + 1) + 1 ≤ n from hp2.1.1) h3
  rw [vn_go2 ha h1 hp.1 h2 hp2.1, e1, e2, e3]
/-- what is not three numbers: bad, or before a digit -/
theorem vn_no (ha : a ≤ n) (h : nb0 t n a ∨ nb1 t n a ∨ nb2 t n a) : ddg n t (vnF n a false t).1 (vnF n a false t).2.1 := by
  by_cases h1 : nmOK t n a
  · by_cases hp : atc n t (spn isDg t n a) 46
    · have hl : spn isDg t n a + 1 ≤ n := hp.1
      by_cases h2 : nmOK t n (spn isDg t n a + 1)
      · have hst : ¬ atc n t (spn isDg t n a + 1) 42 := fun g => st_nm g h2
        by_cases hp2 : atc n t (spn isDg t n (spn isDg t n a + 1)) 46
        · have h3 : ¬ nmOK t n (spn isDg t n (spn isDg t n a + 1) + 1) := by
            rcases h with h | h | h
            · rcases h with h | ⟨_, h | ⟨_, h⟩⟩
              · exact absurd h1 h
              · exact absurd h2 h
              · exact h
            · exact absurd ⟨hp, hst⟩ h.2
            · exact st_nm (nb1_st h.2.2 hp2)
          rw [vn_go2 ha h1 hp h2 hp2]
          exact num_dd hp2.1 h3
        · obtain ⟨e1, e2, _⟩ := num_ok hl h2
          exact Or.inl (vn_2 ha h1 hp (by rw [e1, e2]; exact tk_no (fun g => hp2 ((at_ahd (by omega)).mp g))))
      · exact Or.inl (vn_2 ha h1 hp (tk_no (ahd_ddg (num_dd hl h2) (by omega))))
    · obtain ⟨e1, e2, _⟩ := num_ok ha h1
      exact Or.inl (vn_1 (by rw [e1, e2]; exact tk_no (fun g => hp ((at_ahd (by omega)).mp g))))
  · exact Or.inl (vn_1 (tk_no (ahd_ddg (num_dd ha h1) (by omega))))
theorem pb_ok (h : ¬ pbB t n a) : pbF n a false t = (pbE t n a, false) := by
  unfold pbF pbE
  by_cases g : atc n t a 43
  · rw [if_pos ((at_ahd (by omega)).mpr g), if_pos g]
    cases e : (wr false t n (a + 1)).2 with
    | true => exact absurd ⟨g, e⟩ h
    | false => exact Prod.ext rfl e
  · rw [if_neg (fun q => g ((at_ahd (by omega)).mp q)), if_neg g]
theorem pb_no (h : pbB t n a) : (pbF n a false t).2 = true := by
  unfold pbF
  rw [if_pos ((at_ahd (by omega)).mpr h.1)]
  exact h.2
theorem pb_ded {b : Bool} (h : ded n t a b) : pbF n a b t = (a, b) := if_neg (ahd_ded h (by omega) (by omega))
end
theorem r2_3 (r : rA) (x y z : Int32) : (rset (rset (rset r 5 40 x) 6 40 y) 7 40 z) 2 = r 2 := by rw [rset_n _ _ _ (by decide), rset_n _ _ _ (by decide), rset_n _ _ _ (by decide)]
theorem ver_mk {n a a1 a2 a3 : Nat} {b b1 b2 b3 : Bool} {v1 v2 v3 : Int32} {r r2 : rA} (hu : vnF n a b (r 2) = (a1, b1, v1, v2, v3)) (hw : bwF 40 n a1 b1 (rset (rset (rset r 5 40 v1) 6 40 v2) 7 40 v3) = (a2, b2, r2)) (hx : pbF n a2 b2 (r 2) = (a3, b3)) : verF n a b r = if (b3 || decide (24 < a3 - a)) = true then (a3, true, rset r2 18 40 (nI (a3 - a))) else (a3, false, rset (cpR r2 19 960 a (a3 - a)) 18 40 (nI (a3 - a))) := by
  unfold verF
  dsimp only
  rw [hu]
  dsimp only
  rw [hw]
  dsimp only
  rw [hx]
theorem ver_no {n a : Nat} {r : rA} (ha : a ≤ n) (h : veN (r 2) n a) : ded n (r 2) (verF n a false r).1 (verF n a false r).2.1 := by
  rcases hu : vnF n a false (r 2) with ⟨a1, b1, v1, v2, v3⟩
  rcases hw : bwF 40 n a1 b1 (rset (rset (rset r 5 40 v1) 6 40 v2) 7 40 v3) with ⟨a2, b2, r2⟩
  rcases hx : pbF n a2 b2 (r 2) with ⟨a3, b3⟩
  rw [ver_mk hu hw hx]
  have fin : ded n (r 2) a3 b3 ∨ 24 < a3 - a → ded n (r 2) (if (b3 || decide (24 < a3 - a)) = true then (a3, true, rset r2 18 40 (nI (a3 - a))) else (a3, false, rset (cpR r2 19 960 a (a3 - a)) 18 40 (nI (a3 - a)))).1 (if (b3 || decide (24 < a3 - a)) = true then (a3, true, rset r2 18 40 (nI (a3 - a))) else (a3, false, rset (cpR r2 19 960 a (a3 - a)) 18 40 (nI (a3 - a)))).2.1 := by
    intro hd
    by_cases g : (b3 || decide (24 < a3 - a)) = true
    · rw [if_pos g]; exact Or.inl rfl
    · rw [if_neg g]
      rcases hd with (hd | hd) | hd
      · rw [hd] at g; exact absurd rfl g
      · exact Or.inr hd
      · rw [decide_eq_true hd] at g; exact absurd (Bool.or_true _) g
  refine fin ?_
  have h' : (nb0 (r 2) n a ∨ nb1 (r 2) n a ∨ nb2 (r 2) n a) ∨ (nb3 (r 2) n a ∧ (bwB (r 2) n (e3F (r 2) n a) ∨ pbB (r 2) n (bwE (r 2) n (e3F (r 2) n a)) ∨ 24 < veE (r 2) n a - a)) := by
    rcases h with h | h | h | h
    · exact Or.inl (Or.inl h)
    · exact Or.inl (Or.inr (Or.inl h))
    · exact Or.inl (Or.inr (Or.inr h))
    · exact Or.inr h
  rcases h' with h | ⟨h3, h⟩
  · have hd := vn_no ha h
    rw [hu] at hd
    rw [bwF_no (by rw [r2_3]; exact ahd_ddg hd (by omega))] at hw
    cases hw
    rw [pb_ded (ddg_ded hd)] at hx
    cases hx
    exact Or.inl (ddg_ded hd)
  · rw [vn_ok ha h3] at hu
    cases hu
    cases b2 with
    | true =>
      rw [pb_ded (Or.inl rfl)] at hx
      cases hx
      exact Or.inl (Or.inl rfl)
    | false =>
      have e2 := bw_fst (row := 40) (n := n) (a := e3F (r 2) n a) (r := rset (rset (rset r 5 40 (nI (nmN (r 2) n a))) 6 40 (nI (nmN (r 2) n (spn isDg (r 2) n a + 1)))) 7 40 (nI (nmN (r 2) n (spn isDg (r 2) n (spn isDg (r 2) n a + 1) + 1))))
      rw [hw, r2_3] at e2
      have e2 : a2 = bwE (r 2) n (e3F (r 2) n a) := e2
      by_cases hp : pbB (r 2) n a2
      · have := pb_no hp
        rw [hx] at this
        exact Or.inl (Or.inl this)
      · rw [pb_ok hp] at hx
        cases hx
        rcases h with h | h | h
        · have := bw_no (row := 40) (n := n) (a := e3F (r 2) n a) (r := rset (rset (rset r 5 40 (nI (nmN (r 2) n a))) 6 40 (nI (nmN (r 2) n (spn isDg (r 2) n a + 1)))) 7 40 (nI (nmN (r 2) n (spn isDg (r 2) n (spn isDg (r 2) n a + 1) + 1)))) (by rw [r2_3]; exact h)
          rw [hw] at this
          cases this
        · rw [← e2] at h
          exact absurd h hp
        · right
          rw [veE, ← e2] at h
          exact h
theorem ver_ok {n a : Nat} {r : rA} (ha : a ≤ n) (h : veR (r 2) n a) : ∃ r', verF n a false r = (veE (r 2) n a, false, r') ∧ vEq (veV (r 2) n a) (rowV r' 40) ∧ (r' 8 40 = nI (wsz r' 40) ∧ wsz r' 40 ≤ 24) ∧ r' 18 40 = nI (veE (r 2) n a - a) ∧ (∀ j, j < veE (r 2) n a - a → r' 19 (960 + j) = r 2 (a + j)) ∧ (a ≤ veE (r 2) n a ∧ veE (r 2) n a ≤ n ∧ veE (r 2) n a - a ≤ 24) := by
  obtain ⟨h3, hw, hp, h24⟩ := h
  have l3 := nb_le3 ha h3
  have lb := bwE_le (t := r 2) (n := n) (a := e3F (r 2) n a) l3.2
  have lp := pbE_le (t := r 2) (n := n) (a := bwE (r 2) n (e3F (r 2) n a)) lb.2
  have e0 : veE (r 2) n a = pbE (r 2) n (bwE (r 2) n (e3F (r 2) n a)) := rfl
  have e3 : e3F (r 2) n a = spn isDg (r 2) n (spn isDg (r 2) n (spn isDg (r 2) n a + 1) + 1) := rfl
  obtain ⟨r2, f1, f2, f3, f4⟩ := bw_ok (row := 40) (r := rset (rset (rset r 5 40 (nI (nmN (r 2) n a))) 6 40 (nI (nmN (r 2) n (spn isDg (r 2) n a + 1)))) 7 40 (nI (nmN (r 2) n (spn isDg (r 2) n (spn isDg (r 2) n a + 1) + 1)))) (n := n) (a := e3F (r 2) n a) (by rw [r2_3]; exact hw) (by rw [r2_3]; omega)
  rw [r2_3] at f1 f3 f4
  rw [ver_mk (vn_ok ha h3) f1 (pb_ok hp), if_neg (by rw [← e0, decide_eq_false (by omega)]; nofun), ← e0]
  have g2 : r2 2 = r 2 := (f2 2 (by decide) (by decide)).trans (r2_3 _ _ _ _)
  have s8 : (rset (cpR r2 19 960 a (veE (r 2) n a - a)) 18 40 (nI (veE (r 2) n a - a))) 8 = r2 8 := by rw [rset_n _ _ _ (by decide), cpR_n (by decide)]
  have w8 : wsz (rset (cpR r2 19 960 a (veE (r 2) n a - a)) 18 40 (nI (veE (r 2) n a - a))) 40 = bwE (r 2) n (e3F (r 2) n a) - (e3F (r 2) n a + 1) := by
    rw [wsz, s8, f3, nI_clamp (by omega)]
  refine ⟨_, rfl, ⟨?_, ?_, ?_, ?_, fun j hj => ?_⟩, ⟨by rw [w8, s8, f3], by omega⟩, ?_, fun j hj => ?_, by omega, by omega, h24⟩
  · show _ = (rset (cpR r2 19 960 a (veE (r 2) n a - a)) 18 40 (nI (veE (r 2) n a - a))) 5 40
    rw [rset_n _ _ _ (by decide), cpR_n (by decide), f2 _ (by decide) (by decide)]
    simp [rset, upd, veV]
  · show _ = (rset (cpR r2 19 960 a (veE (r 2) n a - a)) 18 40 (nI (veE (r 2) n a - a))) 6 40
    rw [rset_n _ _ _ (by decide), cpR_n (by decide), f2 _ (by decide) (by decide)]
    simp [rset, upd, veV]
  · show _ = (rset (cpR r2 19 960 a (veE (r 2) n a - a)) 18 40 (nI (veE (r 2) n a - a))) 7 40
    rw [rset_n _ _ _ (by decide), cpR_n (by decide), f2 _ (by decide) (by decide)]
    simp [rset, upd, veV]
  · exact w8.symm
  · show _ = (rset (cpR r2 19 960 a (veE (r 2) n a - a)) 18 40 (nI (veE (r 2) n a - a))) 9 (24 * 40 + j)
    rw [rset_n _ _ _ (by decide), cpR_n (by decide)]
    exact (f4 j hj).symm
  · simp [rset, upd]
  · rw [rset_n _ _ _ (by decide)]
    unfold cpR
    rw [if_pos rfl, if_pos ⟨by omega, by omega⟩, g2, show a + (960 + j - 960) = a + j by omega]
