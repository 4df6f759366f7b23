theorem rqF_sam {r0 n : Nat} : ∀ (k i a : Nat) (r : rA), samS (fun y => 41 + 4 * r0 ≤ y ∧ y < 41 + 4 * r0 + 4) r (rqF r0 n k i a r).2.2.2
  | 0, i, a, r => sam_refl r
  | k + 1, i, a, r => by
    have hr : 41 + 4 * r0 ≤ 41 + 4 * r0 + (if i < 4 then i else 3) ∧ 41 + 4 * r0 + (if i < 4 then i else 3) < 41 + 4 * r0 + 4 := by
      split <;> omega
    rw [rqF]
    generalize 41 + 4 * r0 + (if i < 4 then i else 3) = row at *
    generalize (if decide (i = 4) = true then a else spn isBl (r 2) n a) = a1
    have c : samS (fun y => 41 + 4 * r0 ≤ y ∧ y < 41 + 4 * r0 + 4) r (cmpF row n a1 (decide (i = 4)) r).2.2 := sam_mono cmp_sam (fun y hy => by have : y = row := hy; omega)
    generalize cmpF row n a1 (decide (i = 4)) r = w at *
    generalize (if w.2.1 = true then w.1 else spn isBl (r 2) n w.1) = a2
    by_cases g : ahd n a2 w.2.1 (r 2) = nI 44
    · rw [if_pos g]
      exact sam_trans c (rqF_sam k _ _ _)
    · rw [if_neg g]
      exact c
/-- reading a text touches nothing that lasts -/
def pF (r r' : rA) : Prop := samS (fun y => y = 40 ∨ (873 ≤ y ∧ y < 897)) r r' ∧ (∀ j, (j < 5 ∨ j = 15 ∨ j = 16 ∨ j = 17 ∨ 19 < j) → r' j = r j) ∧ (∀ i, i < 208 → r' 12 i = r 12 i) ∧ (∀ i, i < 200 → r' 13 i = r 13 i) ∧ (∀ i, i ≠ 40 → r' 14 i = r 14 i) ∧ (∀ i, i ≠ 40 → r' 18 i = r 18 i) ∧ (∀ i, i < 960 → r' 19 i = r 19 i)
theorem pF_refl (r : rA) : pF r r := ⟨sam_refl r, fun _ _ => rfl, fun _ _ => rfl, fun _ _ => rfl, fun _ _ => rfl, fun _ _ => rfl, fun _ _ => rfl⟩
theorem pF_trans {r r' r2 : rA} (a : pF r r') (b : pF r' r2) : pF r r2 :=
  ⟨sam_trans a.1 b.1, fun j hj => (b.2.1 j hj).trans (a.2.1 j hj), fun i hi => (b.2.2.1 i hi).trans (a.2.2.1 i hi), fun i hi => (b.2.2.2.1 i hi).trans (a.2.2.2.1 i hi), fun i hi => (b.2.2.2.2.1 i hi).trans (a.2.2.2.2.1 i hi), fun i hi => (b.2.2.2.2.2.1 i hi).trans (a.2.2.2.2.2.1 i hi), fun i hi => (b.2.2.2.2.2.2 i hi).trans (a.2.2.2.2.2.2 i hi)⟩
theorem pF_2 {r r' : rA} (a : pF r r') : r' 2 = r 2 := a.2.1 2 (by omega)
theorem rqR_pF {r0 n a : Nat} {r : rA} (ha : a ≤ n) (h0 : 208 ≤ r0 ∧ r0 ≤ 213) : pF r (rqR r0 n a r).2.2 := by
  have k := (rqF_ok (r0 := r0) (n := n) 5 0 a r ha).2
  have s := rqF_sam (r0 := r0) (n := n) 5 0 a r
  unfold rqR
  dsimp only
  have k2 : ∀ j, (j < 5 ∨ 11 < j) → j ≠ 12 → (rset (rqF r0 n 5 0 a r).2.2.2 12 r0 (nI (rqF r0 n 5 0 a r).2.2.1)) j = r j := fun j hj h12 => by
    rw [rset_n _ _ _ h12]
    exact k j (by omega) (by omega) (by omega) (by omega) (by omega) (by omega) (by omega)
  refine ⟨?_, fun j hj => k2 j (by omega) (by omega), fun i hi => ?_, fun i _ => congrFun (k2 13 (by omega) (by omega)) i, fun i _ => congrFun (k2 14 (by omega) (by omega)) i, fun i _ => congrFun (k2 18 (by omega) (by omega)) i, fun i _ => congrFun (k2 19 (by omega) (by omega)) i⟩
  · refine sam_trans (sam_mono s (fun y hy => by omega)) (fun row _ => ⟨fun j hj => ?_, fun c _ => ?_⟩)
    · rw [rset_n _ _ _ (by omega)]
    · rw [rset_n _ _ _ (by decide)]
  · show (rset (rqF r0 n 5 0 a r).2.2.2 12 r0 _) 12 i = r 12 i
    rw [rset_i (by omega)]
    exact congrFun (k 12 (by omega) (by omega) (by omega) (by omega) (by omega) (by omega) (by omega)) i
theorem pF_rset {r : rA} {k i : Nat} {x : Int32} (h : (k = 13 ∧ 200 ≤ i) ∨ (k = 14 ∧ i = 40) ∨ (k = 18 ∧ i = 40) ∨ (i = 40 ∧ (5 ≤ k ∧ k ≤ 8))) : pF r (rset r k i x) := by
  refine ⟨fun row hrow => ⟨fun j hj => ?_, fun c _ => ?_⟩, fun j hj => ?_, fun i' hi => ?_, fun i' hi => ?_, fun i' hi => ?_, fun i' hi => ?_, fun i' hi => ?_⟩
  · by_cases e : j = k
    · rw [rset_i (by omega)]
    · rw [rset_n _ _ _ e]
  · rw [rset_n _ _ _ (by omega)]
  · rw [rset_n _ _ _ (by omega)]
  · rw [rset_n _ _ _ (by omega)]
  all_goals
    by_cases e : i' = i
    · rw [rset_n _ _ _ (by omega)]
    · rw [rset_i e]
theorem bwF_pF {n a : Nat} {b : Bool} {r : rA} : pF r (bwF 40 n a b r).2.2 := by
  refine ⟨sam_mono bwF_sam (fun y hy => Or.inl hy), fun j hj => bwF_arr (by omega) (by omega), fun i _ => ?_, fun i _ => ?_, fun i _ => ?_, fun i _ => ?_, fun i _ => ?_⟩
  all_goals rw [bwF_arr (by omega) (by omega)]
theorem cp19_pF {r : rA} {p m : Nat} : pF r (cpR r 19 960 p m) := by
  refine ⟨fun row hrow => ⟨fun j hj => by rw [cpR_n (show j ≠ 19 by omega)], fun c _ => by rw [cpR_n (by decide)]⟩, fun j hj => cpR_n (by omega), fun i _ => by rw [cpR_n (by decide)], fun i _ => by rw [cpR_n (by decide)], fun i _ => by rw [cpR_n (by decide)], fun i _ => by rw [cpR_n (by decide)], fun i hi => ?_⟩
  unfold cpR
  rw [if_pos rfl, if_neg (by omega)]
theorem ver_pF {n a : Nat} {b : Bool} {r : rA} : pF r (verF n a b r).2.2 := by
  unfold verF
  dsimp only
  have k := pF_trans (pF_trans (pF_trans (pF_rset (r := r) (k := 5) (i := 40) (x := (vnF n a b (r 2)).2.2.1) (by omega)) (pF_rset (k := 6) (i := 40) (x := (vnF n a b (r 2)).2.2.2.1) (by omega))) (pF_rset (k := 7) (i := 40) (x := (vnF n a b (r 2)).2.2.2.2) (by omega))) (bwF_pF (n := n) (a := (vnF n a b (r 2)).1) (b := (vnF n a b (r 2)).2.1))
  split
  · exact pF_trans k (pF_rset (by omega))
  · exact pF_trans k (pF_trans cp19_pF (pF_rset (by omega)))
theorem pu_pF {n : Nat} : ∀ (k i a : Nat) (r : rA), k + i = 6 → a ≤ n → pF r (puF n k i a r).2.2
  | 0, _, _, r, _, _ => pF_refl r
  | k + 1, i, a, r, h6, ha => by
    rw [puF]
    split
    · rename_i h59
      have hlt := (ahd_eq h59 (nI_ne1 (by omega))).2.1
      dsimp only
      generalize hp : ahd n (a + 1) false (r 2) - nI 48 = p
      by_cases h5 : i = 5
      · subst h5
        have e : (tkB n (a + 1 + 1) (decide (5 = 5) || !isIn p (nI 0) (nI 7)) (r 2) (nI 32) || anyP r p 5) = true := by
          have : tkB n (a + 1 + 1) (decide (5 = 5) || !isIn p (nI 0) (nI 7)) (r 2) (nI 32) = true := by
            unfold tkB
            split <;> rfl
          rw [this]; rfl
        rw [if_pos e]
        exact pF_refl r
      · split
        · exact pF_refl r
        · rename_i hb
          have ha2 : tkA n (a + 1 + 1) (decide (i = 5) || !isIn p (nI 0) (nI 7)) (r 2) (nI 32) ≤ n := by
            unfold tkA
            unfold tkB at hb
            split
            · rename_i g
              have := (ahd_eq g (nI_ne1 (by omega))).2.1
              omega
            · rename_i g
              rw [if_neg g] at hb
              exact absurd rfl hb
          generalize tkA n (a + 1 + 1) (decide (i = 5) || !isIn p (nI 0) (nI 7)) (r 2) (nI 32) = a2 at *
          have q1 := pF_rset (r := r) (k := 13) (i := 200 + i) (x := p) (by omega)
          have q2 := rqR_pF (r0 := 208 + i) (n := n) (a := a2) (r := rset r 13 (200 + i) p) ha2 (by omega)
          have q3 := (rqR_ok (r0 := 208 + i) (n := n) (a := a2) (r := rset r 13 (200 + i) p) ha2).1.2
          have q4 := pF_trans (pF_trans q1 q2) (pF_rset (k := 14) (i := 40) (x := nI (i + 1)) (by omega))
          split
          · exact q4
          · exact pF_trans q4 (pu_pF k (i + 1) _ _ (by omega) q3)
    · exact pF_refl r
theorem pub_pF {n : Nat} {r : rA} : pF r (pubF n r).2.2 := by
  unfold pubF
  dsimp only
  have k := pF_trans (ver_pF (n := n) (a := 0) (b := false) (r := r)) (pF_rset (k := 14) (i := 40) (x := nI 0) (by omega))
  split
  · exact k
  · exact pF_trans k (pu_pF 6 0 _ _ rfl (verF_ok (Nat.zero_le _)).1)
