/-! The reference's object and its arrays as one value; the rules of its code over that value. -/
abbrev rA : Type := Nat → Nat → Int32
/-- code, size, at, bad, versions, fileSize, the arrays by their fields' numbers -/
abbrev rS : Type := Nat × Nat × Nat × Bool × Nat × Nat × rA
def bI (b : Bool) : Int32 := if b then 1 else 0
def rset (r : rA) (k i : Nat) (x : Int32) : rA := fun j => if j = k then upd (r k) i x else r j
theorem rset_s (r : rA) (k i : Nat) (x : Int32) : rset r k i x k = upd (r k) i x := by simp [rset]
theorem rset_n (r : rA) {k j : Nat} (i : Nat) (x : Int32) (h : j ≠ k) : rset r k i x j = r j := by simp [rset, h]
/-- which fields are arrays: kind and length -/
def rarr (k : Nat) : Option (Nat × Nat) := match k with
  | 2 => some (1, 160)
  | 5 => some (1, 900)
  | 6 => some (1, 900)
  | 7 => some (1, 900)
  | 8 => some (1, 900)
  | 9 => some (1, 21600)
  | 10 => some (1, 900)
  | 11 => some (1, 900)
  | 12 => some (1, 214)
  | 13 => some (1, 205)
  | 14 => some (1, 41)
  | 16 => some (1, 40)
  | 17 => some (3, 40)
  | 18 => some (1, 41)
  | 19 => some (1, 984)
  | 20 => some (3, 8)
  | 21 => some (1, 8)
  | 22 => some (1, 8)
  | 24 => some (1, 250)
  | 25 => some (1, 328)
  | 26 => some (1, 8)
  | 27 => some (1, 8)
  | 28 => some (3, 8560)
  | 29 => some (3, 8)
  | _ => none
def rfs (qa : Nat → Nat) (s : rS) : List zV := match s with
  | (c, n, a, b, v, f, _) => [zI (nI c), zI (nI n), zR (some (qa 2)), zI (nI a), zI (bI b), zR (some (qa 5)), zR (some (qa 6)), zR (some (qa 7)), zR (some (qa 8)), zR (some (qa 9)), zR (some (qa 10)), zR (some (qa 11)), zR (some (qa 12)), zR (some (qa 13)), zR (some (qa 14)), zI (nI v), zR (some (qa 16)), zR (some (qa 17)), zR (some (qa 18)), zR (some (qa 19)), zR (some (qa 20)), zR (some (qa 21)), zR (some (qa 22)), zI (nI f), zR (some (qa 24)), zR (some (qa 25)), zR (some (qa 26)), zR (some (qa 27)), zR (some (qa 28)), zR (some (qa 29))]
abbrev rar (s : rS) : rA := s.2.2.2.2.2.2
def rAt (q : Nat) (qa : Nat → Nat) (h : zH) (s : rS) : Prop := h q = some (zO 10 (rfs qa s)) ∧ (∀ k t n, rarr k = some (t, n) → h (qa k) = some (zaI t n (rar s k))) ∧ (∀ k t n, rarr k = some (t, n) → qa k ≠ q) ∧ ∀ k t n k' t' n', rarr k = some (t, n) → rarr k' = some (t', n') → qa k = qa k' → k = k'
/-- what isn't the reference's stays -/
def rFr (q : Nat) (qa : Nat → Nat) (h h' : zH) : Prop := ∀ a, a ≠ q → (∀ k t n, rarr k = some (t, n) → a ≠ qa k) → h' a = h a
theorem rFr.rf {q : Nat} {qa : Nat → Nat} {h : zH} : rFr q qa h h := fun _ _ _ => rfl
theorem rFr.tr {q : Nat} {qa : Nat → Nat} {h h1 h2 : zH} (a : rFr q qa h h1) (b : rFr q qa h1 h2) : rFr q qa h h2 := fun x p1 p2 => (b x p1 p2).trans (a x p1 p2)
def rPost (q : Nat) (qa : Nat → Nat) (h : zH) (Q : rS → (Option zV ⊕ Nat) → Prop) : zQ := fun h' o => ∃ s, rAt q qa h' s ∧ rFr q qa h h' ∧ Q s o
def rEv (q : Nat) (qa : Nat → Nat) (d : Nat) (T : List (Nat × zOp)) (Q : rS → (Option zV ⊕ Nat) → Prop) (pc : Nat) (ls : List (Option zV)) (st : List zV) (s : rS) : Prop := ∀ h0 h, rAt q qa h s → rFr q qa h0 h → zEv d T 0 0 (rPost q qa h0 Q) pc ls st h 0 0
def rCall (q : Nat) (qa : Nat → Nat) (d j : Nat) (as : List zV) (s : rS) (Q : rS → (Option zV ⊕ Nat) → Prop) : Prop := ∀ h, rAt q qa h s → zCall d j as h 0 0 (rPost q qa h Q)
/-- a call that answers just v and leaves just s' -/
abbrev rFun (q : Nat) (qa : Nat → Nat) (d j : Nat) (as : List zV) (s s' : rS) (v : Option zV) : Prop := rCall q qa d j as s (fun t o => t = s' ∧ o = .inl v)
section
variable {q : Nat} {qa : Nat → Nat} {d : Nat} {T : List (Nat × zOp)} {Q : rS → (Option zV ⊕ Nat) → Prop} {pc : Nat} {ls : List (Option zV)} {st : List zV} {s : rS} {n a b ix w : Nat} {z : Int}
theorem r_ild {x : Int32} (ho : T.lookup pc = some (0, n, a, b, ix, w, z)) (hl : ls[a]? = some (some (zI x))) (k : rEv q qa d T Q (pc + n) ls (zI x :: st) s) : rEv q qa d T Q pc ls st s := fun h0 h hr hf => zEv.step ho ⟨x, hl, k h0 h hr hf⟩
theorem r_ald {x : Option Nat} (ho : T.lookup pc = some (1, n, a, b, ix, w, z)) (hl : ls[a]? = some (some (zR x))) (k : rEv q qa d T Q (pc + n) ls (zR x :: st) s) : rEv q qa d T Q pc ls st s := fun h0 h hr hf => zEv.step ho ⟨x, hl, k h0 h hr hf⟩
theorem r_lld {x : Int64} (ho : T.lookup pc = some (2, n, a, b, ix, w, z)) (hl : ls[a]? = some (some (zJ x))) (k : rEv q qa d T Q (pc + n) ls (zJ x :: st) s) : rEv q qa d T Q pc ls st s := fun h0 h hr hf => zEv.step ho ⟨x, hl, k h0 h hr hf⟩
theorem r_ist {x : Int32} {ls' : List (Option zV)} (ho : T.lookup pc = some (3, n, a, b, ix, w, z)) (hn : a < ls.length) (hl : zset ls a (zI x) = ls') (k : rEv q qa d T Q (pc + n) ls' st s) : rEv q qa d T Q pc ls (zI x :: st) s := fun h0 h hr hf => zEv.step ho ⟨x, st, rfl, hn, by rw [hl]; exact k h0 h hr hf⟩
theorem r_ico {x : Int32} (ho : T.lookup pc = some (6, n, a, b, ix, w, z)) (hx : Int32.ofInt z = x) (k : rEv q qa d T Q (pc + n) ls (zI x :: st) s) : rEv q qa d T Q pc ls st s := fun h0 h hr hf => zEv.step ho (by subst hx; exact k h0 h hr hf)
theorem r_lco {x : Int64} (ho : T.lookup pc = some (7, n, a, b, ix, w, z)) (hx : Int64.ofInt z = x) (k : rEv q qa d T Q (pc + n) ls (zJ x :: st) s) : rEv q qa d T Q pc ls st s := fun h0 h hr hf => zEv.step ho (by subst hx; exact k h0 h hr hf)
theorem r_inc {x x' : Int32} {ls' : List (Option zV)} (ho : T.lookup pc = some (9, n, a, b, ix, w, z)) (hl : ls[a]? = some (some (zI x))) (hx : x + Int32.ofInt z = x') (hs : zset ls a (zI x') = ls') (k : rEv q qa d T Q (pc + n) ls' st s) : rEv q qa d T Q pc ls st s := fun h0 h hr hf => zEv.step ho ⟨x, hl, by subst hx; rw [hs]; exact k h0 h hr hf⟩
theorem r_ibi {x y v : Int32} (ho : T.lookup pc = some (10, n, a, b, ix, w, z)) (hv : zibin a x y = v) (k : rEv q qa d T Q (pc + n) ls (zI v :: st) s) : rEv q qa d T Q pc ls (zI y :: zI x :: st) s := fun h0 h hr hf => zEv.step ho ⟨y, x, st, rfl, by rw [hv]; exact k h0 h hr hf⟩
theorem r_lbi {x y v : Int64} (ho : T.lookup pc = some (11, n, a, b, ix, w, z)) (hv : zlbin a x y = v) (k : rEv q qa d T Q (pc + n) ls (zJ v :: st) s) : rEv q qa d T Q pc ls (zJ y :: zJ x :: st) s := fun h0 h hr hf => zEv.step ho ⟨y, x, st, rfl, by rw [hv]; exact k h0 h hr hf⟩
theorem r_lsh {x v : Int64} {y : Int32} (ho : T.lookup pc = some (12, n, a, b, ix, w, z)) (hv : zlsh a x y = v) (k : rEv q qa d T Q (pc + n) ls (zJ v :: st) s) : rEv q qa d T Q pc ls (zI y :: zJ x :: st) s := fun h0 h hr hf => zEv.step ho ⟨y, x, st, rfl, by rw [hv]; exact k h0 h hr hf⟩
theorem r_l2i {x : Int64} {v : Int32} (ho : T.lookup pc = some (13, n, 1, b, ix, w, z)) (hv : x.toInt32 = v) (k : rEv q qa d T Q (pc + n) ls (zI v :: st) s) : rEv q qa d T Q pc ls (zJ x :: st) s := fun h0 h hr hf => zEv.step ho ⟨x, st, rfl, by rw [hv]; exact k h0 h hr hf⟩
theorem r_if {x : Int32} (ho : T.lookup pc = some (14, n, a, b, ix, w, z)) (k1 : zcnd a x 0 → rEv q qa d T Q b ls st s) (k2 : ¬ zcnd a x 0 → rEv q qa d T Q (pc + n) ls st s) : rEv q qa d T Q pc ls (zI x :: st) s := fun h0 h hr hf => zEv.step ho ⟨x, st, rfl, fun c => k1 c h0 h hr hf, fun c => k2 c h0 h hr hf⟩
theorem r_cmp {x y : Int32} (ho : T.lookup pc = some (15, n, a, b, ix, w, z)) (k1 : zcnd a x y → rEv q qa d T Q b ls st s) (k2 : ¬ zcnd a x y → rEv q qa d T Q (pc + n) ls st s) : rEv q qa d T Q pc ls (zI y :: zI x :: st) s := fun h0 h hr hf => zEv.step ho ⟨y, x, st, rfl, fun c => k1 c h0 h hr hf, fun c => k2 c h0 h hr hf⟩
theorem r_go (ho : T.lookup pc = some (16, n, a, b, ix, w, z)) (k : rEv q qa d T Q b ls st s) : rEv q qa d T Q pc ls st s := fun h0 h hr hf => zEv.step ho (k h0 h hr hf)
theorem r_dup {v : zV} (ho : T.lookup pc = some (20, n, a, b, ix, w, z)) (hv : zcat v = 1) (k : rEv q qa d T Q (pc + n) ls (v :: v :: st) s) : rEv q qa d T Q pc ls (v :: st) s := fun h0 h hr hf => zEv.step ho ⟨v, st, rfl, hv, k h0 h hr hf⟩
theorem r_dup2 {v u : zV} (ho : T.lookup pc = some (21, n, a, b, ix, w, z)) (hv : zcat v = 1) (hu : zcat u = 1) (k : rEv q qa d T Q (pc + n) ls (v :: u :: v :: u :: st) s) : rEv q qa d T Q pc ls (v :: u :: st) s := fun h0 h hr hf => zEv.step ho ⟨v, u, st, rfl, hv, hu, k h0 h hr hf⟩
theorem r_pop {v : zV} (ho : T.lookup pc = some (22, n, a, b, ix, w, z)) (hv : zcat v = 1) (k : rEv q qa d T Q (pc + n) ls st s) : rEv q qa d T Q pc ls (v :: st) s := fun h0 h hr hf => zEv.step ho ⟨v, st, rfl, hv, k h0 h hr hf⟩
theorem r_sw {x : Int32} {t : Nat} (ho : T.lookup pc = some (39, n, a, b, ix, w, z)) (ht : zswt a b x = t) (k : rEv q qa d T Q t ls st s) : rEv q qa d T Q pc ls (zI x :: st) s := fun h0 h hr hf => zEv.step ho ⟨x, st, rfl, by rw [ht]; exact k h0 h hr hf⟩
theorem r_top {x y : Int32} (e : x = y) (k : rEv q qa d T Q pc ls (zI y :: st) s) : rEv q qa d T Q pc ls (zI x :: st) s := by subst e; exact k
theorem r_ret {v : zV} (ho : T.lookup pc = some (36, n, a, b, ix, w, z)) (hv : zret a v) (k : Q s (.inl (some v))) : rEv q qa d T Q pc ls [v] s := fun h0 h hr hf => zEv.step ho ⟨v, rfl, hv, s, hr, hf, k⟩
theorem r_rtv (ho : T.lookup pc = some (37, n, a, b, ix, w, z)) (k : Q s (.inl none)) : rEv q qa d T Q pc ls [] s := fun h0 h hr hf => zEv.step ho ⟨rfl, s, hr, hf, k⟩
theorem r_get {v : zV} (ho : T.lookup pc = some (23, n, 10, b, ix, w, z)) (hv : (rfs qa s)[b]? = some v) (k : rEv q qa d T Q (pc + n) ls (v :: st) s) : rEv q qa d T Q pc ls (zR (some q) :: st) s := fun h0 h hr hf => zEv.step ho ⟨q, st, _, v, rfl, hr.1, hv, k h0 h hr hf⟩
theorem rAt.put {h : zH} {s s' : rS} (hr : rAt q qa h s) (ha : rar s' = rar s) : rAt q qa (zup h q (zO 10 (rfs qa s'))) s' := by
  obtain ⟨h1, h2, h3, h4⟩ := hr
  refine ⟨zup_s _ _ _, fun k t n hk => ?_, h3, h4⟩
  rw [zup_n _ _ (h3 k t n hk), ha]
  exact h2 k t n hk
theorem rFr.put {h0 h : zH} {e : zE} (hf : rFr q qa h0 h) : rFr q qa h0 (zup h q e) := fun a p1 p2 => by rw [zup_n _ _ p1]; exact hf a p1 p2
theorem r_put {v : zV} {s' : rS} (ho : T.lookup pc = some (24, n, 10, b, ix, w, z)) (hb : b < 30) (hz : zfit z v) (hs : (rfs qa s).set b v = rfs qa s') (ha : rar s' = rar s) (k : rEv q qa d T Q (pc + n) ls st s') : rEv q qa d T Q pc ls (v :: zR (some q) :: st) s := fun h0 h hr hf => zEv.step ho ⟨v, q, st, _, rfl, hr.1, by obtain ⟨c, n, a, b, v, f, r⟩ := s; exact hb, hz, by rw [hs]; exact k h0 _ (hr.put ha) hf.put⟩
theorem r_iald {k0 t m : Nat} {i : Int32} (ho : T.lookup pc = some (25, n, a, b, ix, w, z)) (hk : rarr k0 = some (a, m)) (hi : vp_in i m) (k : rEv q qa d T Q (pc + n) ls (zI (rar s k0 i.toNatClampNeg) :: st) s) : rEv q qa d T Q pc ls (zI i :: zR (some (qa k0)) :: st) s := fun h0 h hr hf => zEv.step ho ⟨i, qa k0, st, m, rar s k0, rfl, hr.2.1 k0 a m hk, hi, k h0 h hr hf⟩
theorem rAt.ast {h : zH} {c n a v f : Nat} {b : Bool} {r : rA} {k0 t m i : Nat} {x : Int32} (hr : rAt q qa h (c, n, a, b, v, f, r)) (hk : rarr k0 = some (t, m)) : rAt q qa (zup h (qa k0) (zaI t m (upd (r k0) i x))) (c, n, a, b, v, f, rset r k0 i x) := by
  obtain ⟨h1, h2, h3, h4⟩ := hr
  refine ⟨by rw [zup_n _ _ (h3 k0 t m hk).symm]; exact h1, fun k t' n' hk' => ?_, h3, h4⟩
  by_cases e : k = k0
  · subst e
    rw [hk] at hk'
    cases hk'
    rw [zup_s]
    show _ = some (zaI t m (rset r k i x k))
    rw [rset_s]
  · rw [zup_n _ _ (fun q => e (h4 _ _ _ _ _ _ hk' hk q))]
    show _ = some (zaI t' n' (rset r k0 i x k))
    rw [rset_n _ _ _ e]
    exact h2 k t' n' hk'
theorem rFr.ast {h0 h : zH} {e : zE} {k0 t m : Nat} (hf : rFr q qa h0 h) (hk : rarr k0 = some (t, m)) : rFr q qa h0 (zup h (qa k0) e) := fun a p1 p2 => by rw [zup_n _ _ (p2 k0 t m hk)]; exact hf a p1 p2
theorem r_iast {k0 m : Nat} {i x x' : Int32} {c n0 a0 v0 f0 : Nat} {b0 : Bool} {r0 : rA} (ho : T.lookup pc = some (26, n, a, b, ix, w, z)) (hk : rarr k0 = some (a, m)) (hi : vp_in i m) (hx : znar a x = x') (k : rEv q qa d T Q (pc + n) ls st (c, n0, a0, b0, v0, f0, rset r0 k0 i.toNatClampNeg x')) : rEv q qa d T Q pc ls (zI x :: zI i :: zR (some (qa k0)) :: st) (c, n0, a0, b0, v0, f0, r0) := fun h0 h hr hf => zEv.step ho ⟨x, i, qa k0, st, m, r0 k0, rfl, hr.2.1 k0 a m hk, hi, by rw [hx]; exact k h0 _ (hr.ast hk) (hf.ast hk)⟩
theorem r_alen {k0 t m : Nat} (ho : T.lookup pc = some (31, n, a, b, ix, w, z)) (hk : rarr k0 = some (t, m)) (ht : t < 4 ∧ t ≠ 2) (k : rEv q qa d T Q (pc + n) ls (zI (Int32.ofNat m) :: st) s) : rEv q qa d T Q pc ls (zR (some (qa k0)) :: st) s := fun h0 h hr hf => zEv.step ho ⟨qa k0, st, m, rfl, by rw [hr.2.1 k0 t m hk]; simp [zlen, ht], k h0 h hr hf⟩
theorem r_call {as r : List zV} {s' : rS} {v : Option zV} (ho : T.lookup pc = some (35, n, a, b, ix, w, z)) (hst : st = as.reverse ++ r) (hb : as.length = b) (hs : (r.map zcat).sum ≤ 8) (hk : zK a = 1 ∨ (zK a = 0 ∧ zci a = 10 ∧ ∃ t, as = zR (some q) :: t)) (hc : rFun q qa d a as s s' v) (k : rEv q qa d T Q (pc + n) ls (v.toList ++ r) s') : rEv q qa d T Q pc ls st s := by
  intro h0 h hr hf
  refine zEv.step ho ⟨as, r, 0, 0, hst, hb, hs, Nat.le_refl _, Nat.le_refl _, ?_, ?_⟩
  · rcases hk with hk | ⟨hk, hci, t, ht⟩
    · rw [hk]; trivial
    · rw [hk, hci]; exact ⟨q, t, _, ht, hr.1⟩
  · refine zCall_mono d a as h 0 0 _ _ (fun h' o ⟨s1, g1, g2, e1, e2⟩ => ?_) (hc h hr)
    subst e1; subst e2
    cases v with
    | none => exact k h0 h' g1 (hf.tr g2)
    | some v => exact k h0 h' g1 (hf.tr g2)
/-- a method's contract out of the walk of its body -/
theorem rFun.of {j : Nat} {as : List zV} {s s' : rS} {v : Option zV} {L : List (Option zV)} (hn : (zargs as).length ≤ zL j) (hT : ztb j = T) (hL : zent (zL j) as = L) (k : rEv q qa d T (fun t o => t = s' ∧ o = .inl v) 0 L [] s) : rFun q qa (d + 1) j as s s' v := fun h hr => ⟨hn, by rw [hT, hL]; exact k h h hr rFr.rf⟩
end
/-- conditions over numbers that are naturals -/
def ncnd (c a b : Nat) : Prop := match c with
  | 0 => a = b
  | 1 => ¬ a = b
  | 2 => a < b
  | 3 => b ≤ a
  | 4 => b < a
  | _ => a ≤ b
theorem zcnd_n {c a b : Nat} (ha : a < 2 ^ 31) (hb : b < 2 ^ 31) : zcnd c (nI a) (nI b) ↔ ncnd c a b := by
  match c with
  | 0 => exact nI_eq ha hb
  | 1 => exact not_congr (nI_eq ha hb)
  | 2 => exact nI_ltI ha hb
  | 3 => exact nI_leI hb ha
  | 4 => exact nI_ltI hb ha
  | n + 5 => exact nI_leI ha hb
section
variable {q : Nat} {qa : Nat → Nat} {d : Nat} {T : List (Nat × zOp)} {Q : rS → (Option zV ⊕ Nat) → Prop} {pc : Nat} {ls : List (Option zV)} {st : List zV} {s : rS} {n a b ix w : Nat} {z : Int}
theorem r_cmpN {x y : Nat} (hx : x < 2 ^ 31) (hy : y < 2 ^ 31) (ho : T.lookup pc = some (15, n, a, b, ix, w, z)) (k1 : ncnd a x y → rEv q qa d T Q b ls st s) (k2 : ¬ ncnd a x y → rEv q qa d T Q (pc + n) ls st s) : rEv q qa d T Q pc ls (zI (nI y) :: zI (nI x) :: st) s := r_cmp ho (fun c => k1 ((zcnd_n hx hy).mp c)) (fun c => k2 (fun e => c ((zcnd_n hx hy).mpr e)))
theorem r_ifN {x : Nat} (hx : x < 2 ^ 31) (ho : T.lookup pc = some (14, n, a, b, ix, w, z)) (k1 : ncnd a x 0 → rEv q qa d T Q b ls st s) (k2 : ¬ ncnd a x 0 → rEv q qa d T Q (pc + n) ls st s) : rEv q qa d T Q pc ls (zI (nI x) :: st) s := r_if ho (fun c => k1 ((zcnd_n (b := 0) hx (by decide)).mp c)) (fun c => k2 (fun e => c ((zcnd_n (b := 0) hx (by decide)).mpr e)))
theorem bI_0 {x : Bool} : bI x = 0 ↔ x = false := by cases x <;> simp [bI]
theorem r_ifB0 {x : Bool} (ho : T.lookup pc = some (14, n, 0, b, ix, w, z)) (k1 : x = false → rEv q qa d T Q b ls st s) (k2 : x = true → rEv q qa d T Q (pc + n) ls st s) : rEv q qa d T Q pc ls (zI (bI x) :: st) s := r_if ho (fun c => k1 (bI_0.mp c)) (fun c => k2 (by cases x with
  | true => rfl
  | false => exact absurd rfl c))
theorem r_ifB1 {x : Bool} (ho : T.lookup pc = some (14, n, 1, b, ix, w, z)) (k1 : x = true → rEv q qa d T Q b ls st s) (k2 : x = false → rEv q qa d T Q (pc + n) ls st s) : rEv q qa d T Q pc ls (zI (bI x) :: st) s := r_if ho (fun c => k1 (by cases x with
  | true => rfl
  | false => exact absurd rfl c)) (fun c => k2 (by cases x with
  | false => rfl
  | true => exact absurd (fun e => by exact absurd e (by decide)) c))
end
