theorem i_eq_le {x y : Int32} (h1 : x ≤ y) (h2 : y ≤ x) : x = y := by
  rw [Int32.le_iff_toInt_le] at h1 h2
  exact Int32.toInt_inj.mp (by omega)
theorem ow_eq {r : rA} {ra ma rb mb : Nat} : ∀ j p s, owF r ra ma rb mb j p s = owV (rw9 r ra) ma (rw9 r rb) mb j p s
  | 0, _, _ => rfl
  | j + 1, p, s => by
    have e : cwR r ra ma p rb mb s = cwG (rw9 r ra) ma p (rw9 r rb) mb s := rfl
    rw [owF, owV, e, ow_eq j]
theorem cmp3_ne {x y : Int32} (h : ¬ x = y) : cmp3 x y = if y ≤ x then nI 1 else -1 := by
  unfold cmp3
  by_cases g : x < y
  · rw [if_pos g, if_neg (i_nlt g)]
  · rw [if_neg g, if_neg h, if_pos (i_le_n.mp g)]
theorem on_0 {V U : vV} (h : V.1 = U.1 ∧ V.2.1 = U.2.1 ∧ V.2.2.1 = U.2.2.1) : onV V U = 0 := by
  rw [onV, if_pos h.1, if_pos h.2.1, h.2.2, cmp3_eq]; rfl
theorem one_n0 : ¬ (nI 1 : Int32) = 0 := by decide +kernel
theorem m1_n0 : ¬ (-1 : Int32) = 0 := by decide +kernel
theorem ite_n0 {p : Prop} [Decidable p] : ¬ (if p then nI 1 else (-1 : Int32)) = 0 := by
  split
  · exact one_n0
  · exact m1_n0
theorem on_n {V U : vV} (h : ¬ (V.1 = U.1 ∧ V.2.1 = U.2.1 ∧ V.2.2.1 = U.2.2.1)) : ¬ onV V U = 0 := by
  rw [onV]
  by_cases h1 : V.1 = U.1
  · rw [if_pos h1]
    by_cases h2 : V.2.1 = U.2.1
    · rw [if_pos h2, cmp3_ne (fun h3 => h ⟨h1, h2, h3⟩)]
      exact ite_n0
    · rw [if_neg h2]; exact ite_n0
  · rw [if_neg h1]; exact ite_n0
theorem on_iff {V U : vV} : onV V U = 0 ↔ (V.1 = U.1 ∧ V.2.1 = U.2.1 ∧ V.2.2.1 = U.2.2.1) := ⟨fun h => Classical.byContradiction (fun g => on_n g h), on_0⟩
theorem oT_n {r : rA} {i : Nat} {x y z : Int32} {m : Nat} {w : Nat → Int32} (h : ¬ (r 5 i = x ∧ r 6 i = y ∧ r 7 i = z)) : oT r i x y z = onV (rowV r i) (x, y, z, m, w) := by
  rw [oT, onV]
  show _ = if r 5 i = x then (if r 6 i = y then cmp3 (r 7 i) z else if y ≤ r 6 i then nI 1 else -1) else if x ≤ r 5 i then nI 1 else -1
  by_cases h1 : r 5 i = x
  · rw [if_pos h1, if_pos h1]
    by_cases h2 : r 6 i = y
    · have h3 : ¬ r 7 i = z := fun h3 => h ⟨h1, h2, h3⟩
      rw [if_pos h2, if_pos h2, if_neg h3, cmp3_ne h3]
    · rw [if_neg h2, if_neg h2]
  · rw [if_neg h1, if_neg h1]
theorem ord_eq {r : rA} {i k : Nat} : ordF r i (wsz r i) k (wsz r k) = ordV (rowV r i) (rowV r k) := by
  rw [ordF, ordV]
  by_cases h : r 5 i = r 5 k ∧ r 6 i = r 6 k ∧ r 7 i = r 7 k
  · rw [if_pos h, if_pos (on_0 (V := rowV r i) (U := rowV r k) h), ow_eq]
    rfl
  · rw [if_neg h, if_neg (on_n (V := rowV r i) (U := rowV r k) h)]
    exact oT_n h
theorem oT_eq {r : rA} {i : Nat} {x y z : Int32} {w : Nat → Int32} (hr : r 8 i = nI (wsz r i) ∧ wsz r i ≤ 24) : oT r i x y z = ordV (rowV r i) (x, y, z, 0, w) := by
  rw [ordV]
  by_cases h : r 5 i = x ∧ r 6 i = y ∧ r 7 i = z
  · rw [if_pos (on_0 (V := rowV r i) (U := (x, y, z, 0, w)) h), if_pos (Or.inr rfl), oT, if_pos h.1, if_pos h.2.1, if_pos h.2.2]
    show _ = if wsz r i = 0 then nI 0 else if wsz r i = 0 then nI 1 else -1
    by_cases h0 : wsz r i = 0
    · rw [if_pos h0, if_pos (by rw [hr.1, h0]; decide +kernel)]
    · rw [if_neg h0, if_neg h0, if_neg (fun g => by
        rw [hr.1] at g
        have := (nI_leI (a := wsz r i) (b := 0) (by omega) (by omega)).mp g
        omega)]
  · rw [if_neg (on_n (V := rowV r i) (U := (x, y, z, 0, w)) h)]
    exact oT_n h
/-- below the next -/
theorem bn_eq {r : rA} {i k kk : Nat} {ct : Bool} (hi : r 8 i = nI (wsz r i) ∧ wsz r i ≤ 24) (h5 : ¬ r 5 k < 0) (hk : 1 ≤ kk ∧ kk ≤ 3) (h11 : r 11 k = nI kk) : bnF r i k ct = decide (ordV (rowV r i) (rsV (rowV r k) (if ct = true then kcF (rowV r k) kk else min kk 2)) < 0) := by
  have e1 : r 11 k = nI 1 ↔ kk = 1 := by rw [h11]; exact nI_eq (by omega) (by omega)
  have e3 : r 11 k = nI 3 ↔ kk = 3 := by rw [h11]; exact nI_eq (by omega) (by omega)
  have e5 : ¬ r 5 k ≤ 0 ↔ ¬ r 5 k = 0 := ⟨fun g z => g (by rw [z]; decide +kernel), fun g z => g (i_eq_le z (i_le_n.mp h5))⟩
  have nd : ∀ x : Int32, (!decide (0 ≤ x)) = decide (x < 0) := fun x => by
    by_cases g : x < 0
    · rw [decide_eq_true g, decide_eq_false (i_nlt g)]; rfl
    · rw [decide_eq_false g, decide_eq_true (i_le_n.mp g)]; rfl
  unfold bnF
  rw [nd, nd, nd, oT_eq (w := fun _ => 0) hi, oT_eq (w := fun _ => 0) hi, oT_eq (w := fun _ => 0) hi]
  cases ct with
  | true =>
    rw [if_pos rfl]
    by_cases c1 : ¬ r 5 k = 0 ∨ kk = 1
    · rw [show kcF (rowV r k) kk = 1 from if_pos c1, if_pos (c1.elim (fun g => Or.inr ⟨rfl, e5.mpr g⟩) (fun g => Or.inl (e1.mpr g)))]
      rfl
    · have n1 : ¬ (r 11 k = nI 1 ∨ (true = true ∧ ¬ r 5 k ≤ 0)) := fun g => c1 (g.elim (fun g => Or.inr (e1.mp g)) (fun g => Or.inl (e5.mp g.2)))
      have z5 : r 5 k = 0 := Classical.byContradiction (fun g => c1 (Or.inl g))
      rw [if_neg n1]
      by_cases c2 : ¬ r 6 k = 0 ∨ kk = 2
      · have n2 : ¬ (true = true ∧ r 11 k = nI 3 ∧ r 6 k = 0) := fun g => c2.elim (fun z => z g.2.2) (fun z => by have := e3.mp g.2.1; omega)
        rw [show kcF (rowV r k) kk = 2 from (if_neg c1).trans (if_pos c2), if_neg n2]
        rfl
      · have z6 : r 6 k = 0 := Classical.byContradiction (fun g => c2 (Or.inl g))
        have k3 : kk = 3 := by
          have a : ¬ kk = 1 := fun g => c1 (Or.inr g)
          have b : ¬ kk = 2 := fun g => c2 (Or.inr g)
          omega
        rw [show kcF (rowV r k) kk = 3 from (if_neg c1).trans (if_neg c2), if_pos ⟨rfl, e3.mpr k3, z6⟩]
        show _ = decide (ordV (rowV r i) (r 5 k, r 6 k, r 7 k + nI 1, 0, fun _ => 0) < 0)
        rw [z5, z6]
        rfl
  | false =>
    have n0 : (false = true) ↔ False := by simp
    rw [if_neg (show ¬ (false = true) by nofun)]
    unfold rsV
    show _ = decide (ordV (rowV r i) (if min kk 2 = 1 then (r 5 k + nI 1, nI 0, nI 0, 0, fun _ => 0) else if min kk 2 = 2 then (r 5 k, r 6 k + nI 1, nI 0, 0, fun _ => 0) else (r 5 k, r 6 k, r 7 k + nI 1, 0, fun _ => 0)) < 0)
    by_cases c1 : kk = 1
    · rw [if_pos (Or.inl (e1.mpr c1)), if_pos (by omega)]
    · rw [if_neg (fun g => g.elim (fun g => c1 (e1.mp g)) (fun g => by cases g.1)), if_neg (fun g => by cases g.1), if_neg (by omega), if_pos (by omega)]
theorem lt_ab {x : Int32} : (!decide (0 < x) && (!decide (x = 0) || false)) = decide (x < 0) := by
  by_cases g : x < 0
  · have a : ¬ 0 < x := fun q => by rw [Int32.lt_iff_toInt_lt] at *; omega
    have b : ¬ x = 0 := fun q => by rw [q] at g; exact absurd g (by decide +kernel)
    rw [decide_eq_true g, decide_eq_false a, decide_eq_false b]; rfl
  · rw [decide_eq_false g]
    by_cases b : x = 0
    · rw [decide_eq_true b]; simp
    · have a : 0 < x := i_lt_of (fun q => b (i_eq_le q (i_le_n.mp g)))
      rw [decide_eq_true a]; rfl
theorem gt_ab {x : Int32} : (!decide (x < 0) && (!decide (x = 0) || false)) = !decide (x ≤ 0) := by
  by_cases g : x ≤ 0
  · rw [decide_eq_true g]
    by_cases b : x = 0
    · rw [decide_eq_true b]; simp
    · have a : x < 0 := i_lt_of (fun q => b (i_eq_le g q))
      rw [decide_eq_true a]; rfl
  · have a : ¬ x < 0 := fun q => g (by rw [Int32.lt_iff_toInt_lt] at q; rw [Int32.le_iff_toInt_le]; omega)
    have b : ¬ x = 0 := fun q => g (by rw [q]; decide +kernel)
    rw [decide_eq_false g, decide_eq_false a, decide_eq_false b]; rfl
theorem eq_ab {x : Int32} : (!decide (x < 0) && !decide (0 < x)) = decide (x = 0) := by
  by_cases b : x = 0
  · rw [b]; decide +kernel
  · rw [decide_eq_false b]
    by_cases g : x < 0
    · rw [decide_eq_true g]; rfl
    · have a : 0 < x := i_lt_of (fun q => b (i_eq_le q (i_le_n.mp g)))
      rw [decide_eq_true a]; simp
theorem nle_ab {x : Int32} : (!decide (0 ≤ x)) = decide (x < 0) := by
  by_cases g : x < 0
  · rw [decide_eq_true g, decide_eq_false (i_nlt g)]; rfl
  · rw [decide_eq_false g, decide_eq_true (i_le_n.mp g)]; rfl
theorem met_eq {r : rA} {i k : Nat} (hi : r 8 i = nI (wsz r i) ∧ wsz r i ≤ 24) (hk : cmOK r k) : metF r (sgn r k) k (wsz r k) i (wsz r i) = cvF (spR r k) (rowV r i) := by
  obtain ⟨hrow, hc, h5⟩ := hk
  rcases hc with ⟨s0, e11, _⟩ | ⟨s1, kk, k1, k3, e11⟩
  · rw [s0, spR, if_pos e11]; rfl
  · have hs7 := hrow.2.2
    have esp := spR_mk (r := r) (row := k) (s := sgn r k - 1) (k := kk) ⟨k1, k3⟩ (by omega) e11 (by rw [show sgn r k - 1 + 1 = sgn r k by omega]; exact hrow.2.1)
    have bt := bn_eq (ct := true) hi h5 ⟨k1, k3⟩ e11
    have bf := bn_eq (ct := false) hi h5 ⟨k1, k3⟩ e11
    rw [if_pos rfl] at bt
    rw [if_neg (show ¬ (false = true) by nofun)] at bf
    have e3 : r 11 k = nI 3 ↔ kk = 3 := by rw [e11]; exact nI_eq (by omega) (by omega)
    rw [esp]
    unfold metF
    rw [ord_eq]
    generalize hs : sgn r k = s at *
    match s, s1, hs7 with
    | 1, _, _ =>
      show (_ && bnF r i k true) = ((!decide _ && (!decide _ || true)) && (!decide _ && (!decide _ || false)))
      rw [bt, lt_ab, Bool.or_true, Bool.and_true]
    | 2, _, _ =>
      show (_ && bnF r i k false) = ((!decide _ && (!decide _ || true)) && (!decide _ && (!decide _ || false)))
      rw [bf, lt_ab, Bool.or_true, Bool.and_true]
    | 3, _, _ =>
      show (if r 11 k = nI 3 then _ else _ && bnF r i k false) = ((!decide _ && (!decide _ || true)) && (!decide (0 < ordV (rowV r i) (laV (rowV r k) kk)) && (!decide (ordV (rowV r i) (laV (rowV r k) kk) = 0) || decide (kk = 3))))
      by_cases c : kk = 3
      · rw [if_pos (e3.mpr c), laV, if_pos c, decide_eq_true c, Bool.or_true, Bool.and_true, Bool.and_true, eq_ab]
      · rw [if_neg (fun g => c (e3.mp g)), laV, if_neg c, decide_eq_false c, lt_ab, bf, Bool.or_true, Bool.and_true, show min kk 2 = kk by omega]
    | 4, _, _ =>
      show (if r 11 k = nI 3 then _ else !bnF r i k false) = ((!decide (ordV (rowV r i) (laV (rowV r k) kk) < 0) && (!decide (ordV (rowV r i) (laV (rowV r k) kk) = 0) || !decide (kk = 3))) && true)
      by_cases c : kk = 3
      · rw [if_pos (e3.mpr c), laV, if_pos c, decide_eq_true c, Bool.not_true, gt_ab, Bool.and_true]
      · rw [if_neg (fun g => c (e3.mp g)), laV, if_neg c, decide_eq_false c, Bool.not_false, Bool.or_true, Bool.and_true, Bool.and_true, bf, show min kk 2 = kk by omega]
    | 5, _, _ =>
      show _ = ((!decide _ && (!decide _ || true)) && true)
      rw [Bool.or_true, Bool.and_true, Bool.and_true]
      rfl
    | 6, _, _ =>
      show _ = (true && (!decide _ && (!decide _ || false)))
      rw [lt_ab, Bool.true_and]
      exact nle_ab
    | 7, _, _ =>
      show (if r 11 k = nI 3 then _ else bnF r i k false) = (true && (!decide (0 < ordV (rowV r i) (laV (rowV r k) kk)) && (!decide (ordV (rowV r i) (laV (rowV r k) kk) = 0) || decide (kk = 3))))
      by_cases c : kk = 3
      · rw [if_pos (e3.mpr c), laV, if_pos c, decide_eq_true c, Bool.or_true, Bool.and_true, Bool.true_and]
      · rw [if_neg (fun g => c (e3.mp g)), laV, if_neg c, decide_eq_false c, lt_ab, bf, Bool.true_and, show min kk 2 = kk by omega]
    | s + 8, _, h => exact absurd h (by omega)
theorem spC_1 (s : Nat) (V : vV) (k : Nat) : (spC s V k).1 = some V := by
  match s with
  | 0 => rfl
  | 1 => rfl
  | 2 => rfl
  | 3 => rfl
  | 4 => rfl
  | 5 => rfl
  | s + 6 => rfl
theorem nmd_eq {r : rA} {i k : Nat} (hk : cmOK r k) : nmd r k i = nwF (spR r k) (rowV r i) := by
  obtain ⟨hrow, hc, h5⟩ := hk
  have e8 : decide (r 8 k ≤ 0) = decide (wsz r k = 0) := by
    rw [decide_eq_decide, hrow.1.1]
    have := nI_leI (a := wsz r k) (b := 0) (by have := hrow.1.2; omega) (by omega)
    have w : wsz r k ≤ 0 ↔ wsz r k = 0 := by omega
    have c : (nI (wsz r k)).toNatClampNeg = wsz r k := nI_clamp (by have := hrow.1.2; omega)
    exact this.trans w
  rcases hc with ⟨s0, e11, w0⟩ | ⟨s1, kk, k1, k3, e11⟩
  · rw [nmd, e8, w0, spR, if_pos e11]; rfl
  · have esp := spR_mk (r := r) (row := k) (s := sgn r k - 1) (k := kk) ⟨k1, k3⟩ (by have := hrow.2.2; omega) e11 (by rw [show sgn r k - 1 + 1 = sgn r k by omega]; exact hrow.2.1)
    rw [esp, nwF, spC_1]
    show nmd r k i = (!decide (wsz r k = 0) && decide (onV (rowV r k) (rowV r i) = 0))
    rw [nmd, e8]
    congr 1
    by_cases g : r 5 k = r 5 i ∧ r 6 k = r 6 i ∧ r 7 k = r 7 i
    · rw [decide_eq_true (on_0 (V := rowV r k) (U := rowV r i) g), decide_eq_true g.1, decide_eq_true g.2.1, decide_eq_true g.2.2]; rfl
    · rw [decide_eq_false (on_n (V := rowV r k) (U := rowV r i) g)]
      refine Bool.eq_false_iff.mpr (fun q => g ?_)
      simpa using q
theorem ma_eq {r : rA} {q i : Nat} (hi : r 8 i = nI (wsz r i) ∧ wsz r i ≤ 24) (hq : rqK r q) : maF r q i = imF (qR r q) (rowV r i) := by
  have a : ∀ m, m ≤ cnt r q → alF r i (41 + 4 * q) m = alC (qR r q).2 (rowV r i) m := by
    intro m
    induction m with
    | zero => intro _; rfl
    | succ m ih =>
      intro hm
      rw [alF, alC, ih (by omega), met_eq hi (hq.2.2 m (by omega))]
      rfl
  have b : ∀ m, m ≤ cnt r q → nmF r i (41 + 4 * q) m = nmC (qR r q).2 (rowV r i) m := by
    intro m
    induction m with
    | zero => intro _; rfl
    | succ m ih =>
      intro hm
      rw [nmF, nmC, ih (by omega), nmd_eq (hq.2.2 m (by omega))]
      rfl
  rw [maF, a _ (Nat.le_refl _), b _ (Nat.le_refl _)]
  rfl
