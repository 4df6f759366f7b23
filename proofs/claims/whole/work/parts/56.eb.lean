def rowV (r : rA) (row : Nat) : vV := (r 5 row, r 6 row, r 7 row, (r 8 row).toNatClampNeg, rw9 r row)
/-- the span of a comparator's row -/
def spR (r : rA) (row : Nat) : sV := if r 11 row = nI 0 then (none, none, false, none, false) else spC ((r 10 row).toNatClampNeg - 1) (rowV r row) (r 11 row).toNatClampNeg
theorem spR_mk {r : rA} {row s k : Nat} (hk : 1 ≤ k ∧ k ≤ 3) (hs : s < 7) (h11 : r 11 row = nI k) (h10 : r 10 row = nI (s + 1)) : spR r row = spC s (rowV r row) k := by
  rw [spR, if_neg (by rw [h11]; intro g; have := (nI_eq (by omega) (by omega)).mp g; omega), h11, h10, nI_clamp (by omega), nI_clamp (by omega), Nat.add_sub_cancel]
/-- a comparator's row is sound -/
def cmOK (r : rA) (row : Nat) : Prop := rowOK r row ∧ ((sgn r row = 0 ∧ r 11 row = nI 0 ∧ wsz r row = 0) ∨ (1 ≤ sgn r row ∧ ∃ k, 1 ≤ k ∧ k ≤ 3 ∧ r 11 row = nI k)) ∧ ¬ r 5 row < 0
theorem cmOK_0 {r : rA} {row : Nat} (h8 : r 8 row = nI 0) (h10 : r 10 row = nI 0) (h11 : r 11 row = nI 0) (h5 : r 5 row = nI 0) : cmOK r row := by
  have a : wsz r row = 0 := by rw [wsz, h8]; decide +kernel
  have b : sgn r row = 0 := by rw [sgn, h10]; decide +kernel
  exact ⟨⟨⟨by rw [a, h8], by omega⟩, by rw [b, h10], by omega⟩, Or.inl ⟨b, h11, a⟩, by rw [h5]; decide +kernel⟩
theorem cmOK_mk {r : rA} {row m s k v : Nat} (h8 : r 8 row = nI m) (hm : m ≤ 24) (h10 : r 10 row = nI s) (hs : 1 ≤ s ∧ s ≤ 7) (h11 : r 11 row = nI k) (hk : 1 ≤ k ∧ k ≤ 3) (h5 : r 5 row = nI v) (hv : v < 2 ^ 31) : cmOK r row := by
  have a : wsz r row = m := by rw [wsz, h8, nI_clamp (by omega)]
  have b : sgn r row = s := by rw [sgn, h10, nI_clamp (by omega)]
  refine ⟨⟨⟨by rw [a, h8], by omega⟩, by rw [b, h10], by omega⟩, Or.inr ⟨by omega, k, hk.1, hk.2, h11⟩, ?_⟩
  rw [h5]
  intro g
  have := (nI_ltI (a := v) (b := 0) hv (by omega)).mp g
  omega
theorem rset_i {r : rA} {k i j i' : Nat} {x : Int32} (h : i' ≠ i) : rset r k i x j i' = r j i' := by
  unfold rset
  split
  · rename_i e
    rw [e]
    simp [upd, h]
  · rfl
/-- bad, or before a digit -/
def ddg (n : Nat) (t : Nat → Int32) (a : Nat) (b : Bool) : Prop := b = true ∨ (a < n ∧ isDg (t a) = true)
theorem ddg_ded {n a : Nat} {t : Nat → Int32} {b : Bool} (h : ddg n t a b) : ded n t a b := h.elim Or.inl (fun g => Or.inr ⟨g.1, Or.inl g.2⟩)
theorem num_dd {t : Nat → Int32} {n a : Nat} (ha : a ≤ n) (h : ¬ nmOK t n a) : ddg n t (numA n a false t) (numB n a false t) := (num_no ha h).elim Or.inl (fun g => Or.inr g.2)
theorem ahd_ddg {n a c : Nat} {t : Nat → Int32} {b : Bool} (h : ddg n t a b) (hc : c < 48) : ¬ ahd n a b t = nI c := fun e => by
  obtain ⟨b0, a0, t0⟩ := ahd_eq e (nI_ne1 (by omega))
  rcases h with h | h
  · rw [h] at b0; cases b0
  · exact dg_46 h.2 hc t0
theorem ahd_ded {n a c : Nat} {t : Nat → Int32} {b : Bool} (h : ded n t a b) (hc : c < 48) (h46 : c ≠ 46) : ¬ ahd n a b t = nI c := fun e => by
  obtain ⟨b0, a0, t0⟩ := ahd_eq e (nI_ne1 (by omega))
  rcases h with h | h
  · rw [h] at b0; cases b0
  · exact stk_at h hc h46 ⟨a0, t0⟩
theorem ded_or {n a : Nat} {t : Nat → Int32} {b c : Bool} (h : ded n t a b) : ded n t a (b || c) := by
  rcases h with h | h
  · rw [h]; exact Or.inl rfl
  · exact Or.inr h
theorem bwF_no {row n a : Nat} {b : Bool} {r : rA} (h : ¬ ahd n a b (r 2) = nI 45) : bwF row n a b r = (a, b, rset r 8 row (nI 0)) := if_neg h
theorem bw_fst {row n a : Nat} {r : rA} : (bwF row n a false r).1 = bwE (r 2) n a := by
  unfold bwF bwE
  by_cases h : atc n (r 2) a 45
  · rw [if_pos ((at_ahd (by omega)).mpr h), if_pos h]
    split <;> rfl
  · rw [if_neg (fun g => h ((at_ahd (by omega)).mp g)), if_neg h]
theorem bw_no {row n a : Nat} {r : rA} (h : bwB (r 2) n a) : (bwF row n a false r).2.1 = true := by
  unfold bwF
  rw [if_pos ((at_ahd (by omega)).mpr h.1), if_pos (by rw [h.2]; rfl)]
theorem bw_ok {row n a : Nat} {r : rA} (hb : ¬ bwB (r 2) n a) (h24 : bwE (r 2) n a - (a + 1) ≤ 24) : ∃ r', bwF row n a false r = (bwE (r 2) n a, false, r') ∧ (∀ j, j ≠ 8 → j ≠ 9 → r' j = r j) ∧ r' 8 row = nI (bwE (r 2) n a - (a + 1)) ∧ ∀ j, j < bwE (r 2) n a - (a + 1) → r' 9 (24 * row + j) = r 2 (a + 1 + j) := by
  unfold bwF bwE at *
  by_cases h : atc n (r 2) a 45
  · have h2 : (wr true (r 2) n (a + 1)).2 = false := by
      cases e : (wr true (r 2) n (a + 1)).2 with
      | false => rfl
      | true => exact absurd ⟨h, e⟩ hb
    rw [if_pos h] at h24
    rw [if_pos ((at_ahd (by omega)).mpr h), if_pos h, if_neg (by rw [h2, decide_eq_false (by omega)]; nofun)]
    refine ⟨_, rfl, fun j h8 h9 => ?_, ?_, fun j hj => ?_⟩
    · rw [rset_n _ _ _ h8, cpR_n h9, rset_n _ _ _ h8]
    · rw [rset_s]; simp [upd]
    · rw [rset_n _ _ _ (by decide)]
      unfold cpR
      rw [if_pos rfl, if_pos ⟨by omega, by omega⟩, rset_n _ _ _ (by decide), show a + 1 + (24 * row + j - 24 * row) = a + 1 + j by omega]
  · rw [if_neg (fun g => h ((at_ahd (by omega)).mp g)), if_neg h]
    refine ⟨_, rfl, fun j h8 h9 => rset_n _ _ _ h8, ?_, fun j hj => ?_⟩
    · rw [rset_s, show a - (a + 1) = 0 by omega]; simp [upd]
    · omega
theorem r2_5 (r : rA) (row : Nat) (x y : Int32) : (rset (rset r 5 row x) 11 row y) 2 = r 2 := by rw [rset_n _ _ _ (by decide), rset_n _ _ _ (by decide)]
theorem r2_6 (r : rA) (row : Nat) (x y z : Int32) : (rset (rset (rset r 6 row x) 7 row y) 11 row z) 2 = r 2 := by rw [rset_n _ _ _ (by decide), rset_n _ _ _ (by decide), rset_n _ _ _ (by decide)]
section
variable {row n a p : Nat} {neg : Bool} {r : rA}
theorem cm3_dd (ha : a ≤ n) (hs : ¬ atc n (r 2) a 42) (h : ¬ nmOK (r 2) n a) : ded n (r 2) (cm3 row n a false neg p r).1 (cm3 row n a false neg p r).2.1 := by
  have hd := num_dd ha h
  unfold cm3
  rw [if_neg (fun g => hs ((at_ahd (by omega)).mp g.1))]
  dsimp only
  rw [bwF_no (by rw [r2_6]; exact ahd_ddg hd (by omega))]
  exact ded_or (ddg_ded hd)
theorem cm2_dd (ha : a ≤ n) (hs : ¬ atc n (r 2) a 42) (h : ¬ nmOK (r 2) n a) : ded n (r 2) (cm2 row n a false neg p r).1 (cm2 row n a false neg p r).2.1 := by
  have hd := num_dd ha h
  unfold cm2
  rw [if_neg (fun g => hs ((at_ahd (by omega)).mp g.1))]
  dsimp only
  rw [if_neg (ahd_ddg hd (by omega))]
  exact ddg_ded hd
theorem cm1_dd (ha : a ≤ n) (h : ¬ nmOK (r 2) n a) : ded n (r 2) (cm1 row n a false neg r).1 (cm1 row n a false neg r).2.1 := by
  have hd := num_dd ha h
  unfold cm1
  dsimp only
  rw [if_neg (ahd_ddg hd (by omega))]
  exact ddg_ded hd
theorem cm1_go (ha : a ≤ n) (h : nmOK (r 2) n a) (hp : atc n (r 2) (spn isDg (r 2) n a) 46) : cm1 row n a false neg r = cm2 row n (spn isDg (r 2) n a + 1) false neg a (rset (rset r 5 row (nI (nmN (r 2) n a))) 11 row (nI 1)) := by
  obtain ⟨e1, e2, e3⟩ := num_ok ha h
  unfold cm1
  dsimp only
  rw [e1, e2, e3, if_pos ((at_ahd (by omega)).mpr hp)]
theorem cm1_en (ha : a ≤ n) (h : nmOK (r 2) n a) (hp : ¬ atc n (r 2) (spn isDg (r 2) n a) 46) : cm1 row n a false neg r = (spn isDg (r 2) n a, false, rset (rset r 5 row (nI (nmN (r 2) n a))) 11 row (nI 1)) := by
  obtain ⟨e1, e2, e3⟩ := num_ok ha h
  unfold cm1
  dsimp only
  rw [e1, e2, e3, if_neg (fun g => hp ((at_ahd (by omega)).mp g))]
theorem cm2_st (hs : atc n (r 2) a 42) (hn : neg = true) : cm2 row n a false neg p r = (a + 1, false, rset r 10 row (nI 3)) := by
  unfold cm2
  rw [if_pos ⟨(at_ahd (by omega)).mpr hs, hn⟩]
theorem cm3_st (hs : atc n (r 2) a 42) (hn : neg = true) : cm3 row n a false neg p r = (a + 1, false, rset r 10 row (nI 3)) := by
  unfold cm3
  rw [if_pos ⟨(at_ahd (by omega)).mpr hs, hn⟩]
theorem st_nm {t : Nat → Int32} (hs : atc n t a 42) : ¬ nmOK t n a := fun g => by
  have := spn_all (n := n) (Nat.le_refl a) g.1
  exact dg_46 this (by omega) hs.2
theorem cm2_sd (ha : a ≤ n) (hs : atc n (r 2) a 42) (hn : neg = false) : ded n (r 2) (cm2 row n a false neg p r).1 (cm2 row n a false neg p r).2.1 := by
  have hd := num_dd ha (st_nm hs)
  unfold cm2
  rw [if_neg (fun g => by rw [hn] at g; cases g.2)]
  dsimp only
  rw [if_neg (ahd_ddg hd (by omega))]
  exact ddg_ded hd
theorem cm3_sd (ha : a ≤ n) (hs : atc n (r 2) a 42) (hn : neg = false) : ded n (r 2) (cm3 row n a false neg p r).1 (cm3 row n a false neg p r).2.1 := by
  have hd := num_dd ha (st_nm hs)
  unfold cm3
  rw [if_neg (fun g => by rw [hn] at g; cases g.2)]
  dsimp only
  rw [bwF_no (by rw [r2_6]; exact ahd_ddg hd (by omega))]
  exact ded_or (ddg_ded hd)
theorem cm2_go (ha : a ≤ n) (hs : ¬ atc n (r 2) a 42) (h : nmOK (r 2) n a) (hp : atc n (r 2) (spn isDg (r 2) n a) 46) : cm2 row n a false neg p r = cm3 row n (spn isDg (r 2) n a + 1) false neg p (rset (rset (rset r 6 row (nI (nmN (r 2) n a))) 7 row (nI 0)) 11 row (nI 2)) := by
  obtain ⟨e1, e2, e3⟩ := num_ok ha h
  unfold cm2
  rw [if_neg (fun g => hs ((at_ahd (by omega)).mp g.1))]
  dsimp only
  rw [e1, e2, e3, if_pos ((at_ahd (by omega)).mpr hp)]
theorem cm2_en (ha : a ≤ n) (hs : ¬ atc n (r 2) a 42) (h : nmOK (r 2) n a) (hp : ¬ atc n (r 2) (spn isDg (r 2) n a) 46) : cm2 row n a false neg p r = (spn isDg (r 2) n a, false, rset (rset (rset r 6 row (nI (nmN (r 2) n a))) 7 row (nI 0)) 11 row (nI 2)) := by
  obtain ⟨e1, e2, e3⟩ := num_ok ha h
  unfold cm2
  rw [if_neg (fun g => hs ((at_ahd (by omega)).mp g.1))]
  dsimp only
  rw [e1, e2, e3, if_neg (fun g => hp ((at_ahd (by omega)).mp g))]
theorem cm3_en (ha : a ≤ n) (hs : ¬ atc n (r 2) a 42) (h : nmOK (r 2) n a) : ∃ r1, r1 = rset (rset (rset r 6 row (r 6 row)) 7 row (nI (nmN (r 2) n a))) 11 row (nI 3) ∧ cm3 row n a false neg p r = ((bwF row n (spn isDg (r 2) n a) false r1).1, (bwF row n (spn isDg (r 2) n a) false r1).2.1 || decide (24 < (bwF row n (spn isDg (r 2) n a) false r1).1 - p), (bwF row n (spn isDg (r 2) n a) false r1).2.2) := by
  obtain ⟨e1, e2, e3⟩ := num_ok ha h
  refine ⟨_, rfl, ?_⟩
  unfold cm3
  rw [if_neg (fun g => hs ((at_ahd (by omega)).mp g.1))]
  dsimp only
  rw [e1, e2, e3]
end
theorem m1_neg : ((-1 : Int32) < 0) := by decide +kernel
theorem nI_nn {k : Nat} (h : k < 2 ^ 31) : ¬ nI k < 0 := fun g => by
  have := (nI_ltI (a := k) (b := 0) h (by omega)).mp g
  omega
/-- what comparator does behind its sign -/
theorem cmp_in {row n a : Nat} {r : rA} (hs : ¬ atc n (r 2) a 42) : ∃ R, (∀ j, j ≠ 5 → j ≠ 6 → j ≠ 7 → j ≠ 8 → j ≠ 10 → j ≠ 11 → R j = r j) ∧ R 5 row = nI 0 ∧ R 6 row = nI 0 ∧ R 7 row = nI 0 ∧ R 8 row = nI 0 ∧ R 10 row = nI ((sgC n (r 2) a).1 + 1) ∧ (∀ j i, i ≠ row → R j i = r j i) ∧ cmpF row n a false r = cm1 row n (sgC n (r 2) a).2 false (decide (¬ a < (sgC n (r 2) a).2)) R := by
  obtain ⟨e1, e2⟩ := sg_eq (n := n) (a := a) (t := r 2)
  by_cases g : a < (sgC n (r 2) a).2
  · rw [if_pos g] at e1
    have hl : (sgC n (r 2) a).1 < 7 := by
      unfold sgC
      repeat' split
      all_goals (dsimp only; omega)
    have hn : ¬ nI ((sgC n (r 2) a).1 + 1) < 0 := nI_nn (by omega)
    refine ⟨rset (cm0 row r) 10 row (nI ((sgC n (r 2) a).1 + 1)), fun j h5 h6 h7 h8 h10 h11 => ?_, ?_, ?_, ?_, ?_, ?_, fun j i hi => ?_, ?_⟩
    · rw [rset_n _ _ _ h10, cm0_n h5 h6 h7 h8 h10 h11]
    · simp [rset, cm0, upd]
    · simp [rset, cm0, upd]
    · simp [rset, cm0, upd]
    · simp [rset, cm0, upd]
    · simp [rset, cm0, upd]
    · rw [rset_i hi, cm0, rset_i hi, rset_i hi, rset_i hi, rset_i hi, rset_i hi, rset_i hi]
    · unfold cmpF
      rw [if_neg (fun q => hs ((at_ahd (by omega)).mp q)), e1]
      dsimp only
      rw [if_pos (i_le_n.mp hn), decide_eq_false hn, decide_eq_false (fun q => q g)]
  · obtain ⟨e3, e4⟩ := e2 g
    rw [if_neg g] at e1
    refine ⟨rset (cm0 row r) 10 row (nI 1), fun j h5 h6 h7 h8 h10 h11 => ?_, ?_, ?_, ?_, ?_, ?_, fun j i hi => ?_, ?_⟩
    · rw [rset_n _ _ _ h10, cm0_n h5 h6 h7 h8 h10 h11]
    · simp [rset, cm0, upd]
    · simp [rset, cm0, upd]
    · simp [rset, cm0, upd]
    · simp [rset, cm0, upd]
    · simp [rset, cm0, upd, e3]
    · rw [rset_i hi, cm0, rset_i hi, rset_i hi, rset_i hi, rset_i hi, rset_i hi, rset_i hi]
    · unfold cmpF
      rw [if_neg (fun q => hs ((at_ahd (by omega)).mp q)), e1]
      dsimp only
      rw [if_neg (fun q => i_nlt m1_neg q), decide_eq_true m1_neg, decide_eq_true g]
