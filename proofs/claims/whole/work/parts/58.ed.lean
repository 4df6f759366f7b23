/-- rows outside S are as they were -/
def samS (S : Nat → Prop) (r r' : rA) : Prop := ∀ row, ¬ S row → (∀ j, (5 ≤ j ∧ j ≤ 11 ∧ j ≠ 9) → r' j row = r j row) ∧ ∀ c, c < 24 → r' 9 (24 * row + c) = r 9 (24 * row + c)
theorem sam_refl {S : Nat → Prop} (r : rA) : samS S r r := fun _ _ => ⟨fun _ _ => rfl, fun _ _ => rfl⟩
theorem sam_trans {S : Nat → Prop} {r r' r2 : rA} (a : samS S r r') (b : samS S r' r2) : samS S r r2 := fun row h => ⟨fun j hj => ((b row h).1 j hj).trans ((a row h).1 j hj), fun c hc => ((b row h).2 c hc).trans ((a row h).2 c hc)⟩
theorem sam_mono {S S' : Nat → Prop} {r r' : rA} (a : samS S r r') (h : ∀ x, S x → S' x) : samS S' r r' := fun row g => a row (fun q => g (h row q))
theorem sam_rset {r : rA} {row k : Nat} {x : Int32} (hk : k ≠ 9) : samS (fun y => y = row) r (rset r k row x) := fun y hy => ⟨fun j _ => rset_i hy, fun c _ => by rw [rset_n _ _ _ hk.symm]⟩
theorem sam_cpR {r : rA} {row p m : Nat} (hm : m ≤ 24) : samS (fun y => y = row) r (cpR r 9 (24 * row) p m) := fun y hy => ⟨fun j hj => by rw [cpR_n hj.2.2], fun c hc => by
  unfold cpR
  have hy : ¬ y = row := hy
  rw [if_pos rfl, if_neg (by omega)]⟩
theorem bwF_sam {row n a : Nat} {b : Bool} {r : rA} : samS (fun y => y = row) r (bwF row n a b r).2.2 := by
  unfold bwF
  split
  · split
    · exact sam_trans (sam_rset (by decide)) (sam_rset (by decide))
    · rename_i h
      have h24 : (wr true (r 2) n (a + 1)).1 - (a + 1) ≤ 24 := by
        refine Nat.le_of_not_lt (fun g => h ?_)
        rw [decide_eq_true g]; exact Bool.or_true _
      exact sam_trans (sam_trans (sam_rset (by decide)) (sam_cpR h24)) (sam_rset (by decide))
  · exact sam_rset (by decide)
theorem cm3_sam {row n a p : Nat} {b neg : Bool} {r : rA} : samS (fun y => y = row) r (cm3 row n a b neg p r).2.2 := by
  unfold cm3
  split
  · exact sam_rset (by decide)
  · dsimp only
    exact sam_trans (sam_trans (sam_trans (sam_rset (by decide)) (sam_rset (by decide))) (sam_rset (by decide))) bwF_sam
theorem cm2_sam {row n a p : Nat} {b neg : Bool} {r : rA} : samS (fun y => y = row) r (cm2 row n a b neg p r).2.2 := by
  unfold cm2
  split
  · exact sam_rset (by decide)
  · dsimp only
    have k := sam_trans (sam_trans (sam_rset (r := r) (row := row) (k := 6) (x := numV n a b (r 2)) (by decide)) (sam_rset (k := 7) (x := nI 0) (by decide))) (sam_rset (k := 11) (x := nI 2) (by decide))
    split
    · exact sam_trans k cm3_sam
    · exact k
theorem cm1_sam {row n a : Nat} {b neg : Bool} {r : rA} : samS (fun y => y = row) r (cm1 row n a b neg r).2.2 := by
  unfold cm1
  dsimp only
  have k := sam_trans (sam_rset (r := r) (row := row) (k := 5) (x := numV n a b (r 2)) (by decide)) (sam_rset (k := 11) (x := nI 1) (by decide))
  split
  · exact sam_trans k cm2_sam
  · exact k
theorem cmp_sam {row n a : Nat} {b : Bool} {r : rA} : samS (fun y => y = row) r (cmpF row n a b r).2.2 := by
  have k0 : samS (fun y => y = row) r (cm0 row r) := by
    unfold cm0
    exact sam_trans (sam_trans (sam_trans (sam_trans (sam_trans (sam_rset (by decide)) (sam_rset (by decide))) (sam_rset (by decide))) (sam_rset (by decide))) (sam_rset (by decide))) (sam_rset (by decide))
  unfold cmpF
  split
  · exact k0
  · exact sam_trans k0 (sam_trans (sam_rset (by decide)) cm1_sam)
theorem vEq_trans {V U W : vV} (a : vEq V U) (b : vEq U W) : vEq V W := ⟨a.1.trans b.1, a.2.1.trans b.2.1, a.2.2.1.trans b.2.2.1, a.2.2.2.1.trans b.2.2.2.1, fun j hj => (a.2.2.2.2 j hj).trans (b.2.2.2.2 j (a.2.2.2.1 ▸ hj))⟩
theorem oEq_trans {a b c : Option vV} (h : oEq a b) (k : oEq b c) : oEq a c := by
  rcases h with ⟨e1, e2⟩ | ⟨V, U, e1, e2, e3⟩
  · rcases k with ⟨f1, f2⟩ | ⟨V', U', f1, f2, f3⟩
    · exact Or.inl ⟨e1, f2⟩
    · rw [e2] at f1; cases f1
  · rcases k with ⟨f1, f2⟩ | ⟨V', U', f1, f2, f3⟩
    · rw [e2] at f1; cases f1
    · rw [e2] at f1
      cases f1
      refine Or.inr ⟨V, U', e1, f2, ?_⟩
      rcases e3 with e3 | e3
      · rcases f3 with f3 | f3
        · exact Or.inl (vEq_trans e3 f3)
        · exact Or.inl (f3 ▸ e3)
      · rcases f3 with f3 | f3
        · exact Or.inl (e3 ▸ f3)
        · exact Or.inr (e3.trans f3)
theorem sEq_trans {a b c : sV} (h : sEq a b) (k : sEq b c) : sEq a c := ⟨oEq_trans h.1 k.1, oEq_trans h.2.1 k.2.1, h.2.2.1.trans k.2.2.1, oEq_trans h.2.2.2.1 k.2.2.2.1, h.2.2.2.2.trans k.2.2.2.2⟩
theorem rowV_sam {r r' : rA} {row : Nat} (h : (∀ j, (5 ≤ j ∧ j ≤ 11 ∧ j ≠ 9) → r' j row = r j row) ∧ ∀ c, c < 24 → r' 9 (24 * row + c) = r 9 (24 * row + c)) (h24 : (r 8 row).toNatClampNeg ≤ 24) : vEq (rowV r row) (rowV r' row) :=
  ⟨(h.1 5 (by decide)).symm, (h.1 6 (by decide)).symm, (h.1 7 (by decide)).symm, (by show _ = (r' 8 row).toNatClampNeg; rw [h.1 8 (by decide)]; rfl), fun j hj => (h.2 j (Nat.lt_of_lt_of_le hj h24)).symm⟩
theorem spR_sam {r r' : rA} {row : Nat} (h : (∀ j, (5 ≤ j ∧ j ≤ 11 ∧ j ≠ 9) → r' j row = r j row) ∧ ∀ c, c < 24 → r' 9 (24 * row + c) = r 9 (24 * row + c)) (h24 : (r 8 row).toNatClampNeg ≤ 24) : sEq (spR r row) (spR r' row) := by
  unfold spR
  rw [h.1 11 (by decide), h.1 10 (by decide)]
  split
  · exact sEq_refl0
  · exact spC_cg (rowV_sam h h24) _ _
theorem cmOK_sam {r r' : rA} {row : Nat} (h : (∀ j, (5 ≤ j ∧ j ≤ 11 ∧ j ≠ 9) → r' j row = r j row) ∧ ∀ c, c < 24 → r' 9 (24 * row + c) = r 9 (24 * row + c)) (k : cmOK r row) : cmOK r' row := by
  have a : wsz r' row = wsz r row := by rw [wsz, wsz, h.1 8 (by decide)]
  have b : sgn r' row = sgn r row := by rw [sgn, sgn, h.1 10 (by decide)]
  refine ⟨?_, ?_, ?_⟩
  · rw [rowOK, a, b, h.1 8 (by decide), h.1 10 (by decide)]; exact k.1
  · rw [a, b, h.1 11 (by decide)]; exact k.2.1
  · rw [h.1 5 (by decide)]; exact k.2.2
theorem bl_stk {n e : Nat} {t : Nat → Int32} (h : stk n t e) : spn isBl t n e = e := by
  refine spn_no (decide_eq_false (fun g => ?_))
  exact stk_at h (c := 32) (by omega) (by omega) ⟨h.1, g⟩
theorem rqF_s {r0 n k i a : Nat} {r : rA} (hi : i < 4) : rqF r0 n (k + 1) i a r = (if ahd n (if (cmpF (41 + 4 * r0 + i) n (spn isBl (r 2) n a) false r).2.1 = true then (cmpF (41 + 4 * r0 + i) n (spn isBl (r 2) n a) false r).1 else spn isBl (r 2) n (cmpF (41 + 4 * r0 + i) n (spn isBl (r 2) n a) false r).1) (cmpF (41 + 4 * r0 + i) n (spn isBl (r 2) n a) false r).2.1 (r 2) = nI 44 then rqF r0 n k (i + 1) ((if (cmpF (41 + 4 * r0 + i) n (spn isBl (r 2) n a) false r).2.1 = true then (cmpF (41 + 4 * r0 + i) n (spn isBl (r 2) n a) false r).1 else spn isBl (r 2) n (cmpF (41 + 4 * r0 + i) n (spn isBl (r 2) n a) false r).1) + 1) (cmpF (41 + 4 * r0 + i) n (spn isBl (r 2) n a) false r).2.2 else ((if (cmpF (41 + 4 * r0 + i) n (spn isBl (r 2) n a) false r).2.1 = true then (cmpF (41 + 4 * r0 + i) n (spn isBl (r 2) n a) false r).1 else spn isBl (r 2) n (cmpF (41 + 4 * r0 + i) n (spn isBl (r 2) n a) false r).1), (cmpF (41 + 4 * r0 + i) n (spn isBl (r 2) n a) false r).2.1, i + 1, (cmpF (41 + 4 * r0 + i) n (spn isBl (r 2) n a) false r).2.2)) := by
  rw [rqF]
  rw [show decide (i = 4) = false from decide_eq_false (by omega), if_neg (show ¬ (false = true) by nofun), if_pos hi]
theorem rq_ded {r0 n k i a : Nat} {r : rA} (hi : i < 4) (h : ded n (r 2) (cmpF (41 + 4 * r0 + i) n (spn isBl (r 2) n a) false r).1 (cmpF (41 + 4 * r0 + i) n (spn isBl (r 2) n a) false r).2.1) : ded n (r 2) (rqF r0 n (k + 1) i a r).1 (rqF r0 n (k + 1) i a r).2.1 := by
  rw [rqF_s hi]
  have e : (if (cmpF (41 + 4 * r0 + i) n (spn isBl (r 2) n a) false r).2.1 = true then (cmpF (41 + 4 * r0 + i) n (spn isBl (r 2) n a) false r).1 else spn isBl (r 2) n (cmpF (41 + 4 * r0 + i) n (spn isBl (r 2) n a) false r).1) = (cmpF (41 + 4 * r0 + i) n (spn isBl (r 2) n a) false r).1 := by
    split
    · rfl
    · rename_i g
      rcases h with h | h
      · exact absurd h g
      · exact bl_stk h
  rw [e, if_neg (ahd_ded h (by omega) (by omega))]
  exact h
theorem rqF_go {r0 n k i a e1 : Nat} {r r' : rA} (hi : i < 4) (h : cmpF (41 + 4 * r0 + i) n (spn isBl (r 2) n a) false r = (e1, false, r')) (hc : atc n (r 2) (spn isBl (r 2) n e1) 44) : rqF r0 n (k + 1) i a r = rqF r0 n k (i + 1) (spn isBl (r 2) n e1 + 1) r' := by
  rw [rqF_s hi, h]
  dsimp only
  rw [if_neg (show ¬ (false = true) by nofun), if_pos ((at_ahd (by omega)).mpr hc)]
theorem rqF_en {r0 n k i a e1 : Nat} {r r' : rA} (hi : i < 4) (h : cmpF (41 + 4 * r0 + i) n (spn isBl (r 2) n a) false r = (e1, false, r')) (hc : ¬ atc n (r 2) (spn isBl (r 2) n e1) 44) : rqF r0 n (k + 1) i a r = (spn isBl (r 2) n e1, false, i + 1, r') := by
  rw [rqF_s hi, h]
  dsimp only
  rw [if_neg (show ¬ (false = true) by nofun), if_neg (fun g => hc ((at_ahd (by omega)).mp g))]
theorem cmp_t {row n a e1 : Nat} {r r' : rA} (ha : a ≤ n) (h : cmpF row n a false r = (e1, false, r')) : (e1 ≤ n ∧ r' 2 = r 2) ∧ samS (fun y => y = row) r r' := by
  have k := cmpF_ok (row := row) (b := false) (r := r) ha
  have k2 := cmp_sam (row := row) (n := n) (a := a) (b := false) (r := r)
  rw [h] at k k2
  exact ⟨⟨k.1.2, k.2 2 (by decide) (by decide) (by decide) (by decide) (by decide) (by decide) (by decide)⟩, k2⟩
theorem rq_no {r0 n : Nat} : ∀ (f i k a : Nat) (r : rA), f + i = 4 → k + i = 5 → a ≤ n → rqN (r 2) n f a → ded n (r 2) (rqF r0 n k i a r).1 (rqF r0 n k i a r).2.1
  | 0, i, k, a, r, h1, h2, ha, _ => by
    have e1 : i = 4 := by omega
    have e2 : k = 0 + 1 := by omega
    subst e1 e2
    have hb : ∀ row a, (cmpF row n a true r).2.1 = true := fun row a => cmpF_bad
    rw [rqF]
    rw [show decide (4 = 4) = true from rfl, hb, ahd_bad, if_neg (fun g => nI_ne1 (j := 44) (by omega) g.symm)]
    exact Or.inl rfl
  | f + 1, i, k, a, r, h1, h2, ha, h => by
    obtain ⟨k', e2⟩ : ∃ k', k = k' + 1 := ⟨k - 1, by omega⟩
    subst e2
    have hi : i < 4 := by omega
    have hbl : spn isBl (r 2) n a ≤ n := spn_le ha
    rcases h with h | ⟨s, e1, h, hc, hn⟩
    · exact rq_ded hi (cm_no hbl h)
    · rcases cm_ok (row := 41 + 4 * r0 + i) hbl h with ⟨r', e, _, _⟩ | ⟨g1, g2⟩
      · obtain ⟨⟨c1, c2⟩, _⟩ := cmp_t hbl e
        rw [rqF_go hi e hc, ← c2]
        rw [← c2] at hn hc
        exact rq_no f (i + 1) k' _ r' (by omega) (by omega) hc.1 hn
      · rw [bl_stk g1] at hc
        exact absurd hc (stk_at g1 (by omega) (by omega))
theorem rq_ok {r0 n : Nat} : ∀ (f i k a e : Nat) (l : List sV) (r : rA), f + i = 4 → k + i = 5 → a ≤ n → rqC (r 2) n f a l e → (∃ r', rqF r0 n k i a r = (e, false, i + l.length, r') ∧ 1 ≤ l.length ∧ i + l.length ≤ 4 ∧ (∀ x s, l[x]? = some s → sEq s (spR r' (41 + 4 * r0 + i + x)) ∧ cmOK r' (41 + 4 * r0 + i + x)) ∧ samS (fun y => 41 + 4 * r0 + i ≤ y ∧ y < 41 + 4 * r0 + 4) r r') ∨ (stk n (r 2) e ∧ ded n (r 2) (rqF r0 n k i a r).1 (rqF r0 n k i a r).2.1)
  | 0, i, k, a, e, l, r, h1, h2, ha, h => h.elim
  | f + 1, i, k, a, e, l, r, h1, h2, ha, h => by
    obtain ⟨k', e2⟩ : ∃ k', k = k' + 1 := ⟨k - 1, by omega⟩
    subst e2
    have hi : i < 4 := by omega
    have hbl : spn isBl (r 2) n a ≤ n := spn_le ha
    obtain ⟨s, e1, h, hr⟩ := h
    rcases cm_ok (row := 41 + 4 * r0 + i) hbl h with ⟨r', ec, hs, h8⟩ | ⟨g1, g2⟩
    · obtain ⟨⟨c1, c2⟩, c3⟩ := cmp_t hbl ec
      rcases hr with ⟨hc, hl, he⟩ | ⟨hc, l', hl, hr⟩
      · left
        subst hl he
        refine ⟨r', rqF_en hi ec hc, Nat.le_refl _, by show i + 1 ≤ 4; omega, fun x s' hx => ?_, sam_mono c3 (fun y hy => by have : y = _ := hy; omega)⟩
        cases x with
        | zero => cases hx; exact ⟨hs, h8⟩
        | succ x => cases hx
      · subst hl
        rw [rqF_go hi ec hc]
        rw [← c2] at hr hc
        rw [← c2]
        rcases rq_ok f (i + 1) k' _ e l' r' (by omega) (by omega) hc.1 hr with ⟨r2, q1, q2, q3, q4, q5⟩ | q
        · left
          refine ⟨r2, by rw [q1]; show (e, false, i + 1 + l'.length, r2) = (e, false, i + (l'.length + 1), r2); rw [show i + 1 + l'.length = i + (l'.length + 1) by omega], by show 1 ≤ l'.length + 1; omega, by show i + (l'.length + 1) ≤ 4; omega, fun x s' hx => ?_, sam_trans (sam_mono c3 (fun y hy => by have : y = _ := hy; omega)) (sam_mono q5 (fun y hy => by omega))⟩
          cases x with
          | zero =>
            cases hx
            have g := q5 (41 + 4 * r0 + i) (fun q => by omega)
            exact ⟨sEq_trans hs (spR_sam g h8.1.1.2), cmOK_sam g h8⟩
          | succ x =>
            have := q4 x s' hx
            rw [show 41 + 4 * r0 + (i + 1) + x = 41 + 4 * r0 + i + (x + 1) by omega] at this
            exact this
        · exact Or.inr q
    · right
      refine ⟨?_, rq_ded hi g2⟩
      rcases hr with ⟨hc, hl, he⟩ | ⟨hc, l', hl, hr⟩
      · rw [he, bl_stk g1]; exact g1
      · rw [bl_stk g1] at hc
        exact absurd hc (stk_at g1 (by omega) (by omega))
/-- the requirement that the reference keeps as its number r0 -/
def qR (r : rA) (r0 : Nat) : qV := ((r 12 r0).toNatClampNeg, fun i => spR r (41 + 4 * r0 + i))
theorem spR_12 {r : rA} {i row : Nat} {x : Int32} : spR (rset r 12 i x) row = spR r row := by
  have e : rw9 (rset r 12 i x) row = rw9 r row := by funext j; simp [rw9, rset]
  simp [spR, rowV, e, rset]
theorem rqR_ok2 {r0 n a e : Nat} {l : List sV} {r : rA} (ha : a ≤ n) (h : rqC (r 2) n 4 a l e) : (∃ r', rqR r0 n a r = (e, false, r') ∧ 1 ≤ l.length ∧ l.length ≤ 4 ∧ r' 12 r0 = nI l.length ∧ (∀ g q, rqAt g q (qOf l) → rqAt g q (qR r' r0)) ∧ (∀ x, x < l.length → cmOK r' (41 + 4 * r0 + x)) ∧ samS (fun y => 41 + 4 * r0 ≤ y ∧ y < 41 + 4 * r0 + 4) r r' ∧ (∀ j, j < 5 ∨ 12 < j → r' j = r j) ∧ (∀ i, i ≠ r0 → r' 12 i = r 12 i)) ∨ (stk n (r 2) e ∧ ded n (r 2) (rqR r0 n a r).1 (rqR r0 n a r).2.1) := by
  rcases rq_ok (r0 := r0) 4 0 5 a e l r rfl rfl ha h with ⟨r', q1, q2, q3, q4, q5⟩ | q
  · left
    rw [Nat.zero_add] at q3
    have c12 : (rset r' 12 r0 (nI l.length)) 12 r0 = nI l.length := by simp [rset, upd]
    refine ⟨rset r' 12 r0 (nI l.length), by rw [rqR, q1]; dsimp only; rw [Nat.zero_add], q2, q3, c12, fun g q hq => ?_, fun x hx => ?_, ?_, fun j hj => ?_, fun i hi => ?_⟩
    · obtain ⟨pa, f, a1, a2, a3, a4⟩ := hq
      have e0 : (qR (rset r' 12 r0 (nI l.length)) r0).1 = l.length := by
        show ((rset r' 12 r0 (nI l.length)) 12 r0).toNatClampNeg = l.length
        rw [c12, nI_clamp (by omega)]
      refine ⟨pa, f, by rw [e0]; exact a1, a2, by rw [e0]; exact q3, fun j hj => ?_⟩
      rw [e0] at hj
      obtain ⟨b, b1, b2⟩ := a4 j hj
      refine ⟨b, b1, ?_⟩
      show spAt g b (spR (rset r' 12 r0 (nI l.length)) (41 + 4 * r0 + j))
      rw [spR_12]
      have b3 : spAt g b l[j] := by
        have : (qOf l).2 j = l[j] := by show (l[j]?).getD _ = _; rw [List.getElem?_eq_getElem hj]; rfl
        rw [← this]; exact b2
      have := (q4 j l[j] (List.getElem?_eq_getElem hj)).1
      rw [Nat.add_zero] at this
      exact spAt_cg this b3
    · have := (q4 x l[x] (List.getElem?_eq_getElem hx)).2
      rw [Nat.add_zero] at this
      exact cmOK_sam ⟨fun j hj => by rw [rset_n _ _ _ (by omega)], fun c _ => by rw [rset_n _ _ _ (by decide)]⟩ this
    · refine sam_trans (sam_mono q5 (fun y hy => by omega)) (fun row _ => ⟨fun j hj => ?_, fun c _ => ?_⟩)
      · rw [rset_n _ _ _ (by omega)]
      · rw [rset_n _ _ _ (by decide)]
    · have k := (rqF_ok (r0 := r0) (n := n) 5 0 a r ha).2
      rw [q1] at k
      rw [rset_n _ _ _ (by omega)]
      exact k j (by omega) (by omega) (by omega) (by omega) (by omega) (by omega) (by omega)
    · have k := (rqF_ok (r0 := r0) (n := n) 5 0 a r ha).2
      rw [q1] at k
      rw [rset_i hi]
      have k := k 12 (by omega) (by omega) (by omega) (by omega) (by omega) (by omega) (by omega)
      exact congrFun k i
  · exact Or.inr q
theorem rqR_no2 {r0 n a : Nat} {r : rA} (ha : a ≤ n) (h : rqN (r 2) n 4 a) : ded n (r 2) (rqR r0 n a r).1 (rqR r0 n a r).2.1 := rq_no 4 0 5 a r rfl rfl ha h
