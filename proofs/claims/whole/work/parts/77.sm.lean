/-- lists of numbers, by the first that differs; what ends first is below -/
def lexC : List Int → List Int → Int32
  | [], [] => nI 0
  | [], _ :: _ => -1
  | _ :: _, [] => nI 1
  | a :: A, b :: B => if a < b then -1 else if b < a then nI 1 else lexC A B
theorem lexC_lt {a b : Int} {A B : List Int} (h : a < b) : lexC (a :: A) (b :: B) = -1 := by rw [lexC, if_pos h]
theorem lexC_gt {a b : Int} {A B : List Int} (h : b < a) : lexC (a :: A) (b :: B) = nI 1 := by rw [lexC, if_neg (by omega), if_pos h]
theorem lexC_eq {a : Int} {A B : List Int} : lexC (a :: A) (a :: B) = lexC A B := by rw [lexC, if_neg (by omega), if_neg (by omega)]
theorem lexC_v : ∀ (A B : List Int), lexC A B = -1 ∨ lexC A B = nI 0 ∨ lexC A B = nI 1
  | [], [] => Or.inr (Or.inl rfl)
  | [], _ :: _ => Or.inl rfl
  | _ :: _, [] => Or.inr (Or.inr rfl)
  | a :: A, b :: B => by
    rw [lexC]
    split
    · exact Or.inl rfl
    · split
      · exact Or.inr (Or.inr rfl)
      · exact lexC_v A B
theorem m1_n1 : ¬ (-1 : Int32) = nI 1 := by decide +kernel
theorem m1_z : ¬ (-1 : Int32) = nI 0 := by decide +kernel
theorem o1_z : ¬ (nI 1 : Int32) = nI 0 := by decide +kernel
theorem lexC_as : ∀ (A B : List Int), lexC A B = -1 → lexC B A = nI 1
  | [], [], h => absurd h.symm m1_z
  | [], _ :: _, _ => rfl
  | _ :: _, [], h => absurd h.symm m1_n1
  | a :: A, b :: B, h => by
    rw [lexC] at h
    split at h
    · rename_i g; exact lexC_gt g
    · split at h
      · exact absurd h.symm m1_n1
      · rw [show a = b by omega, lexC_eq]; exact lexC_as A B h
theorem lexC_as2 : ∀ (A B : List Int), lexC A B = nI 1 → lexC B A = -1
  | [], [], h => absurd h.symm o1_z
  | [], _ :: _, h => absurd h m1_n1
  | _ :: _, [], _ => rfl
  | a :: A, b :: B, h => by
    rw [lexC] at h
    split at h
    · exact absurd h m1_n1
    · split at h
      · rename_i g; exact lexC_lt g
      · rw [show a = b by omega, lexC_eq]; exact lexC_as2 A B h
theorem lexC_tr : ∀ (A B D : List Int), lexC A B = -1 → lexC B D = -1 → lexC A D = -1
  | [], [], _, h, _ => absurd h.symm m1_z
  | [], _ :: _, [], _, h => absurd h.symm m1_n1
  | [], _ :: _, _ :: _, _, _ => rfl
  | _ :: _, [], _, h, _ => absurd h.symm m1_n1
  | _ :: _, _ :: _, [], _, h => absurd h.symm m1_n1
  | a :: A, b :: B, d :: D, h, k => by
    rw [lexC] at h k
    split at h
    · split at k
      · exact lexC_lt (by omega)
      · split at k
        · exact absurd k.symm m1_n1
        · exact lexC_lt (by omega)
    · split at h
      · exact absurd h.symm m1_n1
      · split at k
        · exact lexC_lt (by omega)
        · split at k
          · exact absurd k.symm m1_n1
          · rw [show a = b by omega, show b = d by omega, lexC_eq]
            exact lexC_tr A B D h k
def bsL (x : Nat → Int32) : Nat → Nat → List Int
  | 0, _ => []
  | n + 1, k => (x k).toInt :: bsL x n (k + 1)
/-- below every byte -/
def tEnd : Int := -4294967296
theorem tEnd_lt (x : Int32) : tEnd < x.toInt := by
  have := Int32.le_toInt x
  unfold tEnd
  omega
theorem bc_lex {x y : Nat → Int32} {la lb : Nat} {A B : List Int} : ∀ (j k : Nat), la < k + j → k ≤ la → k ≤ lb → lexC (bsL x (la - k) k ++ tEnd :: A) (bsL y (lb - k) k ++ tEnd :: B) = if bcF x y la lb j k = 0 then lexC A B else bcF x y la lb j k
  | 0, k, h1, h2, _ => absurd h1 (by omega)
  | j + 1, k, h1, h2, h3 => by
    have z0 : (nI 0 : Int32) = 0 := rfl
    rw [bcF]
    by_cases c : k < la ∧ k < lb
    · rw [if_pos c, show la - k = (la - (k + 1)) + 1 by omega, show lb - k = (lb - (k + 1)) + 1 by omega, bsL, bsL, List.cons_append, List.cons_append]
      by_cases e : x k = y k
      · rw [if_pos e, e, lexC_eq]
        exact bc_lex j (k + 1) (by omega) (by omega) (by omega)
      · rw [if_neg e]
        have ne : (x k).toInt ≠ (y k).toInt := fun q => e (Int32.toInt_inj.mp q)
        by_cases g : y k ≤ x k
        · rw [if_pos g, if_neg one_n0]
          rw [Int32.le_iff_toInt_le] at g
          exact lexC_gt (by omega)
        · rw [if_neg g, if_neg m1_n0]
          rw [Int32.le_iff_toInt_le] at g
          exact lexC_lt (by omega)
    · rw [if_neg c]
      by_cases el : la = lb
      · rw [if_pos el, if_pos z0, show la - k = 0 by omega, show lb - k = 0 by omega]
        exact lexC_eq
      · rw [if_neg el]
        by_cases g : lb ≤ la
        · rw [if_pos g, if_neg one_n0, show lb - k = 0 by omega, show la - k = (la - (k + 1)) + 1 by omega]
          exact lexC_gt (tEnd_lt _)
        · rw [if_neg g, if_neg m1_n0, show la - k = 0 by omega, show lb - k = (lb - (k + 1)) + 1 by omega]
          exact lexC_lt (tEnd_lt _)
/-- the key of a word -/
def wkL (x : Nat → Int32) (la : Nat) : List Int := (if alld x la 0 = true then [0, (la : Int)] else [1]) ++ (bsL x la 0 ++ [tEnd])
theorem wk_lex {x y : Nat → Int32} {la lb : Nat} {A B : List Int} : lexC (wkL x la ++ A) (wkL y lb ++ B) = if cwF x y la lb = 0 then lexC A B else cwF x y la lb := by
  have hb := bc_lex (x := x) (y := y) (la := la) (lb := lb) (A := A) (B := B) (la + 1) 0 (by omega) (by omega) (by omega)
  rw [Nat.sub_zero, Nat.sub_zero] at hb
  have ap : ∀ (u : List Int) (z : Nat → Int32) (l : Nat) (Z : List Int), (u ++ (bsL z l 0 ++ [tEnd])) ++ Z = u ++ (bsL z l 0 ++ tEnd :: Z) := fun u z l Z => by simp
  have lk : ∀ (a b : Nat) (P Q : List Int), lexC (([0, (a : Int)] : List Int) ++ P) (([0, (b : Int)] : List Int) ++ Q) = lexC ((a : Int) :: P) ((b : Int) :: Q) := fun a b P Q => lexC_eq
  by_cases ax : alld x la 0 = true
  · by_cases ay : alld y lb 0 = true
    · have e0 : alld x la 0 = alld y lb 0 := ax.trans ay.symm
      rw [wkL, wkL, ap, ap, if_pos ax, if_pos ay, lk]
      by_cases el : la = lb
      · have ec : cwF x y la lb = bcF x y la lb (la + 1) 0 := by rw [cwF, if_pos e0, if_neg (fun z => z.2 el)]
        rw [ec, show (la : Int) = (lb : Int) by rw [el], lexC_eq]
        exact hb
      · by_cases g : lb ≤ la
        · have ec : cwF x y la lb = nI 1 := by rw [cwF, if_pos e0, if_pos ⟨ax, el⟩, if_pos g]
          rw [ec, if_neg one_n0]; exact lexC_gt (by omega)
        · have ec : cwF x y la lb = -1 := by rw [cwF, if_pos e0, if_pos ⟨ax, el⟩, if_neg g]
          rw [ec, if_neg m1_n0]; exact lexC_lt (by omega)
    · have ec : cwF x y la lb = -1 := by rw [cwF, if_neg (fun z => ay (z.symm.trans ax)), if_pos ax]
      rw [wkL, wkL, ap, ap, if_pos ax, if_neg ay, ec, if_neg m1_n0]
      exact lexC_lt (by omega)
  · by_cases ay : alld y lb 0 = true
    · have ec : cwF x y la lb = nI 1 := by rw [cwF, if_neg (fun z => ax (z.trans ay)), if_neg ax]
      rw [wkL, wkL, ap, ap, if_neg ax, if_pos ay, ec, if_neg one_n0]
      exact lexC_gt (by omega)
    · have e0 : alld x la 0 = alld y lb 0 := (Bool.eq_false_iff.mpr ax).trans (Bool.eq_false_iff.mpr ay).symm
      have ec : cwF x y la lb = bcF x y la lb (la + 1) 0 := by rw [cwF, if_pos e0, if_neg (fun z => ax z.1)]
      rw [wkL, wkL, ap, ap, if_neg ax, if_neg ay, ec]
      refine Eq.trans ?_ hb
      exact lexC_eq
def kwF (w : Nat → Int32) (m : Nat) : Nat → Nat → List Int
  | 0, _ => []
  | j + 1, p => if p < m then wkL (fun i => w (p + i)) (spn noPt w m p - p) ++ kwF w m j (spn noPt w m p + 1) else []
theorem wkL_c (x : Nat → Int32) (la : Nat) (A : List Int) : ∃ a B, wkL x la ++ A = a :: B := by
  unfold wkL
  split
  · exact ⟨_, _, rfl⟩
  · exact ⟨_, _, rfl⟩
theorem kwF_end {w : Nat → Int32} {m j p : Nat} (h : m ≤ p) : kwF w m j p = [] := by
  cases j with
  | zero => rfl
  | succ j => rw [kwF, if_neg (by omega)]
theorem ow_lex {w w' : Nat → Int32} {m m' : Nat} : ∀ (j j1 j2 p s : Nat), p ≤ m + 1 → m + 1 < p + j → m < p + j1 → m' < s + j2 → owV w m w' m' j p s = lexC (kwF w m j1 p) (kwF w' m' j2 s)
  | 0, j1, j2, p, s, hp, h, h1, h2 => by omega
  | j + 1, j1, j2, p, s, hp, h, h1, h2 => by
    rw [owV]
    by_cases c : p < m ∧ s < m'
    · obtain ⟨a, ea⟩ : ∃ a, j1 = a + 1 := ⟨j1 - 1, by omega⟩
      obtain ⟨b, eb⟩ : ∃ b, j2 = b + 1 := ⟨j2 - 1, by omega⟩
      subst ea eb
      have l1 : p ≤ spn noPt w m p := spn_ge
      have l2 : spn noPt w m p ≤ m := spn_le (by omega)
      have l3 : s ≤ spn noPt w' m' s := spn_ge
      have ih := ow_lex (w := w) (w' := w') (m := m) (m' := m') j a b (spn noPt w m p + 1) (spn noPt w' m' s + 1) (by omega) (by omega) (by omega) (by omega)
      rw [if_pos c, kwF, kwF, if_pos c.1, if_pos c.2, wk_lex, ih]
      rfl
    · rw [if_neg c]
      by_cases cp : m ≤ p
      · rw [if_pos cp, kwF_end cp]
        by_cases cs : m' ≤ s
        · rw [if_pos cs, kwF_end cs]; rfl
        · obtain ⟨b, eb⟩ : ∃ b, j2 = b + 1 := ⟨j2 - 1, by omega⟩
          subst eb
          rw [if_neg cs, kwF, if_pos (by omega)]
          obtain ⟨x, X, e⟩ := wkL_c (fun i => w' (s + i)) (spn noPt w' m' s - s) (kwF w' m' b (spn noPt w' m' s + 1))
          rw [e]; rfl
      · obtain ⟨a, ea⟩ : ∃ a, j1 = a + 1 := ⟨j1 - 1, by omega⟩
        subst ea
        rw [if_neg cp, kwF_end (w := w') (show m' ≤ s by omega), kwF, if_pos (by omega)]
        obtain ⟨x, X, e⟩ := wkL_c (fun i => w (p + i)) (spn noPt w m p - p) (kwF w m a (spn noPt w m p + 1))
        rw [e]; rfl
/-- the key of a version -/
def keyV (V : vV) : List Int := V.1.toInt :: V.2.1.toInt :: V.2.2.1.toInt :: (if V.2.2.2.1 = 0 then [1] else 0 :: kwF V.2.2.2.2 V.2.2.2.1 (V.2.2.2.1 + 1) 0)
theorem ti_lt {x y : Int32} : x < y ↔ x.toInt < y.toInt := Int32.lt_iff_toInt_lt
theorem ti_ne {x y : Int32} (h : ¬ x = y) : x.toInt ≠ y.toInt := fun q => h (Int32.toInt_inj.mp q)
theorem ord_lex (V U : vV) : ordV V U = lexC (keyV V) (keyV U) := by
  obtain ⟨a, b, c, m, w⟩ := V
  obtain ⟨a', b', c', m', w'⟩ := U
  rw [ordV]
  have gen : ∀ (x y : Int32) (A B : List Int), ¬ x = y → lexC (x.toInt :: A) (y.toInt :: B) = if y ≤ x then nI 1 else -1 := fun x y A B h => by
    have := ti_ne h
    by_cases g : y ≤ x
    · rw [if_pos g]
      rw [Int32.le_iff_toInt_le] at g
      exact lexC_gt (by omega)
    · rw [if_neg g]
      rw [Int32.le_iff_toInt_le] at g
      exact lexC_lt (by omega)
  by_cases h : a = a' ∧ b = b' ∧ c = c'
  · rw [if_pos (on_0 (V := (a, b, c, m, w)) (U := (a', b', c', m', w')) h)]
    obtain ⟨e1, e2, e3⟩ := h
    subst e1 e2 e3
    show (if m = 0 ∨ m' = 0 then (if m = m' then nI 0 else if m = 0 then nI 1 else -1) else owV w m w' m' (m + 1 + 1) 0 0) = lexC (a.toInt :: b.toInt :: c.toInt :: (if m = 0 then [1] else 0 :: kwF w m (m + 1) 0)) (a.toInt :: b.toInt :: c.toInt :: (if m' = 0 then [1] else 0 :: kwF w' m' (m' + 1) 0))
    rw [lexC_eq, lexC_eq, lexC_eq]
    by_cases z : m = 0
    · by_cases z' : m' = 0
      · rw [if_pos (Or.inl z), if_pos (by omega), if_pos z, if_pos z']; rfl
      · rw [if_pos (Or.inl z), if_neg (by omega), if_pos z, if_pos z, if_neg z']; exact (lexC_gt (by omega)).symm
    · by_cases z' : m' = 0
      · rw [if_pos (Or.inr z'), if_neg (by omega), if_neg z, if_neg z, if_pos z']; exact (lexC_lt (by omega)).symm
      · rw [if_neg (fun q => q.elim z z'), if_neg z, if_neg z', lexC_eq]
        exact ow_lex _ _ _ 0 0 (by omega) (by omega) (by omega) (by omega)
  · rw [if_neg (on_n (V := (a, b, c, m, w)) (U := (a', b', c', m', w')) h)]
    show (if a = a' then (if b = b' then cmp3 c c' else if b' ≤ b then nI 1 else -1) else if a' ≤ a then nI 1 else -1) = lexC (a.toInt :: b.toInt :: c.toInt :: _) (a'.toInt :: b'.toInt :: c'.toInt :: _)
    by_cases e1 : a = a'
    · rw [if_pos e1, e1, lexC_eq]
      by_cases e2 : b = b'
      · have e3 : ¬ c = c' := fun q => h ⟨e1, e2, q⟩
        rw [if_pos e2, e2, lexC_eq, cmp3_ne e3, gen _ _ _ _ e3]
      · rw [if_neg e2, gen _ _ _ _ e2]
    · rw [if_neg e1, gen _ _ _ _ e1]
theorem neg_iff {A B : List Int} : lexC A B < 0 ↔ lexC A B = -1 := by
  rcases lexC_v A B with e | e | e
  · rw [e]; exact ⟨fun _ => rfl, fun _ => by decide +kernel⟩
  · rw [e]; exact ⟨fun h => absurd h (by decide +kernel), fun h => absurd h.symm m1_z⟩
  · rw [e]; exact ⟨fun h => absurd h (by decide +kernel), fun h => absurd h.symm m1_n1⟩
/-- precedence is transitive -/
theorem ord_tr {V U W : vV} (h : ordV V U < 0) (k : ordV U W < 0) : ordV V W < 0 := by
  rw [ord_lex] at *
  exact neg_iff.mpr (lexC_tr _ _ _ (neg_iff.mp h) (neg_iff.mp k))
theorem ord_pos {V U : vV} : 0 < ordV V U ↔ ordV U V < 0 := by
  rw [ord_lex, ord_lex, neg_iff]
  rcases lexC_v (keyV V) (keyV U) with e | e | e
  · rw [e, lexC_as _ _ e]; exact ⟨fun h => absurd h (by decide +kernel), fun h => absurd h.symm m1_n1⟩
  · constructor
    · intro h; rw [e] at h; exact absurd h (by decide +kernel)
    · intro h
      have := lexC_as _ _ h
      rw [e] at this
      exact absurd this.symm o1_z
  · rw [e, lexC_as2 _ _ e]; exact ⟨fun _ => rfl, fun _ => by decide +kernel⟩
theorem ord_tri {V U : vV} : ordV V U < 0 ∨ ordV V U = 0 ∨ 0 < ordV V U := by
  by_cases h : ordV V U < 0
  · exact Or.inl h
  · by_cases e : ordV V U = 0
    · exact Or.inr (Or.inl e)
    · exact Or.inr (Or.inr (i_lt_of (fun q => e (i_eq_le q (i_le_n.mp h)))))
