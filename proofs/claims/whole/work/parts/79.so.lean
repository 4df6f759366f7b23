/-! The order of a package's options. -/
def srt (r : rA) (p : Nat) (L : List Nat) : Prop := L.Pairwise (fun x y => y ≠ x ∧ gbF r p y x = true)
theorem ord_irr {V : vV} : ¬ ordV V V < 0 := fun h => by
  have h2 := ord_pos.mpr h
  rw [Int32.lt_iff_toInt_lt] at h h2
  omega
theorem gb_tot {r : rA} {p i j : Nat} (hi : i < 40) (hj : j < 40) (hn : ¬ ordV (rowV r i) (rowV r j) = 0) (h : ¬ gbF r p i j = true) : gbF r p j i = true := by
  rw [gbF, ord_eq] at h ⊢
  by_cases a : r 21 p = nI i
  · exact absurd (by rw [if_pos a]) h
  · rw [if_neg a] at h
    by_cases b : r 21 p = nI j
    · rw [if_pos b]
    · rw [if_neg b] at h
      rw [if_neg b, if_neg a]
      have h : ordV (rowV r i) (rowV r j) ≤ 0 := by
        cases e : decide (ordV (rowV r i) (rowV r j) ≤ 0) with
        | true => exact of_decide_eq_true e
        | false => rw [e] at h; exact absurd rfl h
      have h2 : ordV (rowV r i) (rowV r j) < 0 := by
        rcases ord_tri (V := rowV r i) (U := rowV r j) with z | z | z
        · exact z
        · exact absurd z hn
        · rw [Int32.lt_iff_toInt_lt] at z
          rw [Int32.le_iff_toInt_le] at h
          omega
      have h3 := ord_pos.mpr h2
      have : ¬ ordV (rowV r j) (rowV r i) ≤ 0 := fun q => by
        rw [Int32.lt_iff_toInt_lt] at h3
        rw [Int32.le_iff_toInt_le] at q
        omega
      rw [decide_eq_false this]
      rfl
theorem nle_pos {x : Int32} (h : (!decide (x ≤ 0)) = true) : 0 < x := by
  have h : ¬ x ≤ 0 := by simpa using h
  rw [Int32.lt_iff_toInt_lt]
  rw [Int32.le_iff_toInt_le] at h
  omega
theorem pos_nle {x : Int32} (h : 0 < x) : (!decide (x ≤ 0)) = true := by
  have : ¬ x ≤ 0 := fun q => by
    rw [Int32.lt_iff_toInt_lt] at h
    rw [Int32.le_iff_toInt_le] at q
    omega
  rw [decide_eq_false this]
  rfl
theorem gb_tr {r : rA} {p i j k : Nat} (hi : i < 40) (hj : j < 40) (hk : k < 40) (hij : i ≠ j) (hjk : j ≠ k) (h : gbF r p i j = true) (g : gbF r p j k = true) : gbF r p i k = true := by
  rw [gbF, ord_eq] at h g ⊢
  by_cases a : r 21 p = nI i
  · rw [if_pos a]
  · rw [if_neg a] at h ⊢
    by_cases b : r 21 p = nI j
    · rw [if_pos b] at h; cases h
    · rw [if_neg b] at h g
      by_cases c : r 21 p = nI k
      · rw [if_pos c] at g; cases g
      · rw [if_neg c] at g ⊢
        exact pos_nle (ord_pos.mpr (ord_tr (ord_pos.mp (nle_pos g)) (ord_pos.mp (nle_pos h))))
theorem ins_srt {r : rA} {p i : Nat} (hi : i < 40) : ∀ L : List Nat, srt r p L → (∀ x, x ∈ L → x < 40 ∧ x ≠ i ∧ ¬ ordV (rowV r i) (rowV r x) = 0) → srt r p (insL r p i L)
  | [], _, _ => List.pairwise_singleton _ _
  | x :: R, h, hx => by
    have h' := List.pairwise_cons.mp h
    obtain ⟨x1, x2, x3⟩ := hx x List.mem_cons_self
    have ih := ins_srt hi R h'.2 (fun y hy => hx y (List.mem_cons_of_mem _ hy))
    unfold insL
    by_cases g : gbF r p i x = true
    · rw [if_pos g]
      refine List.pairwise_cons.mpr ⟨fun y hy => ?_, ih⟩
      rcases (insL_mem r p i R y).mp hy with e | e
      · subst e; exact ⟨x2.symm, g⟩
      · exact h'.1 y e
    · rw [if_neg g]
      have gx := gb_tot hi x1 x3 g
      refine List.pairwise_cons.mpr ⟨fun y hy => ?_, h⟩
      rcases List.mem_cons.mp hy with e | e
      · subst e; exact ⟨x2, gx⟩
      · obtain ⟨y1, y2, y3⟩ := hx y (List.mem_cons_of_mem _ e)
        obtain ⟨z1, z2⟩ := h'.1 y e
        exact ⟨y2, gb_tr y1 x1 hi z1 x2 z2 gx⟩
theorem ly_srt {r : rA} {p v : Nat} (hv : v ≤ 40) (hd : ∀ i, i < v → ∀ j, j < v → i ≠ j → r 16 i = r 16 j → ¬ ordV (rowV r i) (rowV r j) = 0) : ∀ k, k ≤ v → srt r p (lyL r p k)
  | 0, _ => List.Pairwise.nil
  | k + 1, hk => by
    have ih := ly_srt (p := p) hv hd k (by omega)
    unfold lyL
    by_cases e : elg r p k = true
    · rw [if_pos e]
      refine ins_srt (by omega) _ ih (fun x hx => ?_)
      obtain ⟨a, b⟩ := (lyL_mem r p k x).mp hx
      exact ⟨by omega, by omega, hd k (by omega) x (by omega) (by omega) ((elg_iff.mp e).1.trans (elg_iff.mp b).1.symm)⟩
    · rw [if_neg e]
      exact ih
theorem srt_at {r : rA} {p : Nat} : ∀ (L : List Nat) (a b : Nat), srt r p L → a < b → b < L.length → L.getD b 0 ≠ L.getD a 0 ∧ gbF r p (L.getD b 0) (L.getD a 0) = true
  | [], a, b, _, _, h => absurd h (Nat.not_lt_zero _)
  | x :: R, a, b, hs, hab, h => by
    have h' := List.pairwise_cons.mp hs
    obtain ⟨b', e⟩ : ∃ b', b = b' + 1 := ⟨b - 1, by omega⟩
    subst e
    have hb : b' < R.length := by simpa using h
    cases a with
    | zero => exact h'.1 _ (getD_mem hb)
    | succ a => exact srt_at R a b' h'.2 (by omega) hb
/-- what lies before what -/
def bfO (r : rA) (p : Nat) (x y : Int32) : Prop := (x = -1 ∧ ¬ y = -1) ∨ ∃ i j, i < 40 ∧ j < 40 ∧ x = nI i ∧ y = nI j ∧ i ≠ j ∧ gbF r p i j = true
theorem opt_lt {r : rA} {v p t u : Nat} (hv : v ≤ 40) (hs : srt r p (lyL r p v)) (h : t < u) (hu : u < oln r v p) : bfO r p (opt r v p t) (opt r v p u) := by
  have mem : ∀ a, a < (lyL r p v).length → (lyL r p v).getD a 0 < 40 := fun a ha => by
    have := (lyL_mem r p v _).mp (getD_mem ha)
    omega
  unfold oln at hu
  rw [opt, opt]
  by_cases e : r 20 p = 0
  · rw [if_pos e] at hu
    rw [if_pos e, if_pos e, if_neg (show ¬ u = 0 by omega)]
    have m2 := mem ((lyL r p v).length - u) (by omega)
    by_cases e2 : t = 0
    · rw [if_pos e2]
      exact Or.inl ⟨rfl, nI_ne1 (by omega)⟩
    · rw [if_neg e2]
      have m1 := mem ((lyL r p v).length - t) (by omega)
      have := srt_at _ ((lyL r p v).length - u) ((lyL r p v).length - t) hs (by omega) (by omega)
      exact Or.inr ⟨_, _, m1, m2, rfl, rfl, this.1, this.2⟩
  · rw [if_neg e] at hu
    rw [if_neg e, if_neg e]
    have m1 := mem ((lyL r p v).length - 1 - t) (by omega)
    have m2 := mem ((lyL r p v).length - 1 - u) (by omega)
    have := srt_at _ ((lyL r p v).length - 1 - u) ((lyL r p v).length - 1 - t) hs (by omega) (by omega)
    exact Or.inr ⟨_, _, m1, m2, rfl, rfl, this.1, this.2⟩
theorem mem_idx {L : List Nat} {y : Nat} (h : y ∈ L) : ∃ t, t < L.length ∧ L.getD t 0 = y := by
  obtain ⟨t, ht, e⟩ := List.getElem_of_mem h
  exact ⟨t, ht, by simp [List.getD_eq_getElem?_getD, List.getElem?_eq_getElem ht, e]⟩
/-- each option has its place -/
theorem opt_ex {r : rA} {v p o : Nat} (hv : v ≤ 40) (h : eoK r v p o) : ∃ t, t < oln r v p ∧ opt r v p t = vlO p o := by
  rcases h with ⟨a, b⟩ | ⟨a, b⟩
  · refine ⟨0, by rw [oln, if_pos b]; omega, ?_⟩
    rw [opt, if_pos b, if_pos rfl, vlO, if_pos a]
  · obtain ⟨t, ht, e⟩ := mem_idx ((lyL_mem r p v o).mpr ⟨a, b⟩)
    have ev : vlO p o = nI o := by rw [vlO, if_neg (by omega)]
    by_cases c : r 20 p = 0
    · refine ⟨(lyL r p v).length - t, by rw [oln, if_pos c]; omega, ?_⟩
      rw [opt, if_pos c, if_neg (by omega), show (lyL r p v).length - ((lyL r p v).length - t) = t by omega, e, ev]
    · refine ⟨(lyL r p v).length - 1 - t, by rw [oln, if_neg c]; omega, ?_⟩
      rw [opt, if_neg c, show (lyL r p v).length - 1 - ((lyL r p v).length - 1 - t) = t by omega, e, ev]
theorem opt_eo {r : rA} {v p t : Nat} (hv : v ≤ 40) (h : t < oln r v p) : ∃ o, eoK r v p o ∧ opt r v p t = vlO p o := by
  rcases opt_ok h with ⟨a, b, _⟩ | ⟨j, a, b, e⟩
  · exact ⟨40 + p, Or.inl ⟨rfl, b⟩, by rw [a, vlO, if_pos rfl]⟩
  · exact ⟨j, Or.inr ⟨a, b⟩, by rw [e, vlO, if_neg (by omega)]⟩
theorem hm_max {r : rA} {x : Int64} : ∀ k j, hmF r x k = some j → ∀ i, i < k → tst x i = true → ¬ ordV (rowV r j) (rowV r i) < 0
  | 0, j, h, i, hi, _ => absurd hi (Nat.not_lt_zero _)
  | k + 1, j, h, i, hi, t => by
    rw [hmF] at h
    by_cases c : tst x k = true
    · rw [if_pos c] at h
      cases e : hmF r x k with
      | none =>
        rw [e] at h
        have h : k = j := by cases h; rfl
        subst h
        by_cases q : i = k
        · subst q; exact ord_irr
        · rw [hm_none k e i (by omega)] at t; cases t
      | some a =>
        rw [e] at h
        have h : (if ordV (rowV r a) (rowV r k) < 0 then k else a) = j := by cases h; rfl
        have ih := hm_max k a e
        by_cases z : ordV (rowV r a) (rowV r k) < 0
        · rw [if_pos z] at h
          subst h
          by_cases q : i = k
          · subst q; exact ord_irr
          · exact fun y => ih i (by omega) t (ord_tr z y)
        · rw [if_neg z] at h
          subst h
          by_cases q : i = k
          · subst q; exact z
          · exact ih i (by omega) t
    · rw [if_neg c] at h
      by_cases q : i = k
      · subst q; exact absurd t c
      · exact hm_max k j h i (by omega) t
/-- nothing in y lies before the foremost -/
theorem fm_min {r : rA} {v p o o' : Nat} {y : Int64} {pin : Option Nat} (hv : v ≤ 40) (hpin : oI pin = r 21 p) (hq : ∀ q, pin = some q → q < 40) (hf : fmO r v y p pin = some o) (ho : eoK r v p o) (ho' : eoK r v p o') (t : tst y o' = true) : ¬ bfO r p (vlO p o') (vlO p o) := by
  intro hb
  unfold fmO at hf
  by_cases c : tst y (40 + p) = true
  · rw [if_pos c] at hf
    cases hf
    rw [show vlO p (40 + p) = -1 by rw [vlO, if_pos rfl]] at hb
    rcases hb with ⟨_, z⟩ | ⟨i, j, _, hj, _, z, _⟩
    · exact z rfl
    · exact nI_ne1 (show j < 2 ^ 31 by omega) z.symm
  · rw [if_neg c] at hf
    have e' : ¬ o' = 40 + p := fun q => c (by rw [← q]; exact t)
    have lo' : o' < v := by
      rcases ho' with z | z
      · exact absurd z.1 e'
      · exact z.1
    rw [show vlO p o' = nI o' by rw [vlO, if_neg e']] at hb
    rcases hb with ⟨z, _⟩ | ⟨i, j, hi, hj, z1, z2, hne, z3⟩
    · exact nI_ne1 (show o' < 2 ^ 31 by omega) z
    · have ei : o' = i := nI_i (by omega) (by omega) z1
      subst ei
      have e : ¬ o = 40 + p := fun q => by
        rw [q, vlO, if_pos rfl] at z2
        exact nI_ne1 (show j < 2 ^ 31 by omega) z2.symm
      have lo : o < v := by
        rcases ho with z | z
        · exact absurd z.1 e
        · exact z.1
      rw [vlO, if_neg e] at z2
      have ej : o = j := nI_i (by omega) (by omega) z2
      subst ej
      have fin : hmF r y v = some o → ¬ r 21 p = nI o' → False := fun hm n1 => by
        rw [gbF, if_neg n1] at z3
        by_cases n2 : r 21 p = nI o
        · rw [if_pos n2] at z3; cases z3
        · rw [if_neg n2, ord_eq] at z3
          exact hm_max v o hm o' lo' t (ord_pos.mp (nle_pos z3))
      cases pin with
      | none =>
        exact fin hf (fun q => nI_ne1 (show o' < 2 ^ 31 by omega) (q.symm.trans hpin.symm))
      | some q =>
        have hq := hq q rfl
        have hpin : nI q = r 21 p := hpin
        dsimp only at hf
        by_cases d : tst y q = true
        · rw [if_pos d] at hf
          cases hf
          rw [gbF, if_neg (fun z => hne (nI_i (by omega) (by omega) (z.symm.trans hpin.symm))), if_pos hpin.symm] at z3
          cases z3
        · rw [if_neg d] at hf
          refine fin hf (fun z => d ?_)
          rw [nI_i (show q < 2 ^ 31 by omega) (by omega) (hpin.trans z)]
          exact t
