/-! The program as a machine over pure cells: what an instruction of the tables does; runs as a least relation; calls by depth. -/
abbrev zV : Type := Int32 ⊕ Int64 ⊕ Option Nat
abbrev zI (x : Int32) : zV := Sum.inl x
abbrev zJ (x : Int64) : zV := Sum.inr (Sum.inl x)
abbrev zR (r : Option Nat) : zV := Sum.inr (Sum.inr r)
def zval (v : zV) : Value := match v with
  | .inl x => .int x
  | .inr (.inl x) => .long x
  | .inr (.inr r) => va_rf r
def zcat (v : zV) : Nat := match v with
  | .inr (.inl _) => 2
  | _ => 1
abbrev zE : Type := (Nat × Nat × (Nat → Int32)) ⊕ (Nat × Nat × (Nat → Int64)) ⊕ (Nat × Nat × (Nat → Option Nat)) ⊕ (Nat × List zV)
abbrev zaI (k n : Nat) (f : Nat → Int32) : zE := Sum.inl (k, n, f)
abbrev zaJ (n : Nat) (f : Nat → Int64) : zE := Sum.inr (Sum.inl (2, n, f))
abbrev zaR (k n : Nat) (f : Nat → Option Nat) : zE := Sum.inr (Sum.inr (Sum.inl (k, n, f)))
abbrev zO (ci : Nat) (fs : List zV) : zE := Sum.inr (Sum.inr (Sum.inr (ci, fs)))
abbrev zH : Type := Nat → Option zE
/-- an outcome: an answer, or the number of what is thrown -/
abbrev zQ : Type := zH → (Option zV ⊕ Nat) → Prop
abbrev zX : Type := Nat → List (Option zV) → List zV → zH → Nat → Nat → Prop
def zup (h : zH) (a : Nat) (e : zE) : zH := fun b => if b = a then some e else h b
theorem zup_s (h : zH) (a : Nat) (e : zE) : zup h a e a = some e := by simp [zup]
theorem zup_n (h : zH) {a b : Nat} (e : zE) (hb : b ≠ a) : zup h a e b = h b := by simp [zup, hb]
def zm0 : zMt := (yX0_init, cX0_init, 0, none, 9, 99, 0, (0, 0, 0, 0), [])
def zm (j : Nat) : zMt := zmt.getD j zm0
def zN (j : Nat) : MethodName := (zm j).1
def zC (j : Nat) : ByteArray := (zm j).2.1
def zL (j : Nat) : Nat := (zm j).2.2.1
def zRt (j : Nat) : Option FieldType := (zm j).2.2.2.1
def zK (j : Nat) : Nat := (zm j).2.2.2.2.1
def zci (j : Nat) : Nat := (zm j).2.2.2.2.2.1
def zn (j : Nat) : Nat := (zm j).2.2.2.2.2.2.1
def zw (j : Nat) : Nat × Nat × Nat × Nat := (zm j).2.2.2.2.2.2.2.1
def ztb (j : Nat) : List (Nat × zOp) := (zm j).2.2.2.2.2.2.2.2
def zclr (x : Option zV) : Option zV := match x with
  | some (.inr (.inl _)) => none
  | y => y
def zhid (l : List (Option zV)) : List (Option zV) := match l with
  | [] => []
  | _ :: t => none :: t
def zset : List (Option zV) → Nat → zV → List (Option zV)
  | [], _, _ => []
  | _ :: t, 0, v => some v :: (match v with
    | .inr (.inl _) => zhid t
    | _ => t)
  | x :: t, 1, v => zclr x :: zset t 0 v
  | x :: t, n + 2, v => x :: zset t (n + 1) v
def zibin (a : Nat) (x y : Int32) : Int32 := match a with
  | 0 => x + y
  | 1 => x - y
  | 2 => x * y
  | _ => x &&& y
def zlbin (a : Nat) (x y : Int64) : Int64 := match a with
  | 0 => x + y
  | 1 => x - y
  | 2 => x &&& y
  | 3 => x ||| y
  | _ => x ^^^ y
def zlsh (a : Nat) (x : Int64) (y : Int32) : Int64 := match a with
  | 0 => x <<< (y.toInt64 &&& 63)
  | 1 => x >>> (y.toInt64 &&& 63)
  | _ => (x.toUInt64 >>> (y.toInt64.toUInt64 &&& Int64.toUInt64 63)).toInt64
def zcnd (a : Nat) (x y : Int32) : Prop := match a with
  | 0 => x = y
  | 1 => ¬ x = y
  | 2 => x < y
  | 3 => y ≤ x
  | 4 => y < x
  | _ => x ≤ y
def zfit (z : Int) (v : zV) : Prop := match z with
  | 0 => ∃ x, v = zI x
  | 1 => ∃ x, v = zI x ∧ (x = 0 ∨ x = 1)
  | 2 => ∃ x, v = zJ x
  | _ => ∃ r, v = zR r
def znar (k : Nat) (x : Int32) : Int32 := match k with
  | 0 => x.toInt8.toInt32
  | 3 => vp_nar .boolean x
  | _ => x
def zlen (e : Option zE) : Option Nat := match e with
  | some (.inl (k, n, _)) => if k < 4 ∧ k ≠ 2 then some n else none
  | some (.inr (.inl (k, n, _))) => if k = 2 then some n else none
  | some (.inr (.inr (.inl (k, n, _)))) => if 4 ≤ k ∧ k < 8 then some n else none
  | _ => none
def zdv (t : FieldType) : zV := match t with
  | .long => zJ 0
  | .object _ => zR none
  | .array _ => zR none
  | _ => zI 0
def zty (ci : Nat) : Nat → FieldType := match ci with
  | 0 => tyX0
  | 1 => tyX1
  | 2 => tyX2
  | 3 => tyX3
  | 4 => tyX4
  | 5 => tyX5
  | 6 => tyX6
  | 7 => tyX7
  | 8 => tyX8
  | 9 => tyX9
  | _ => tyX10
def zdf (ci n : Nat) : List zV := (List.range n).map (fun k => zdv (zty ci k))
def znew (k n : Nat) : zE := if k = 2 then zaJ n (fun _ => 0) else zaI k n (fun _ => 0)
def zret (a : Nat) (v : zV) : Prop := match a with
  | 0 => ∃ x, v = zI x
  | 1 => ∃ x, v = zI x ∧ (x = 0 ∨ x = 1)
  | 2 => ∃ x, v = zJ x
  | _ => ∃ r, v = zR r
def zswt (a b : Nat) (x : Int32) : Nat := match zSW[a]? with
  | some (_, lo, hi, _, tg) => if x.toInt < lo ∨ hi < x.toInt then b else tg.getD (x.toInt - lo).toNat 0
  | none => 0
/-- the receiver of a method of an object is an object of its class -/
def zrcv (k ci : Nat) (as : List zV) (h : zH) : Prop := match k with
  | 0 => ∃ p t fs, as = zR (some p) :: t ∧ h p = some (zO ci fs)
  | 2 => ∃ p t, as = zR (some p) :: t
  | _ => True
/-- behind a call -/
def zaft (X : zX) (pc : Nat) (ls : List (Option zV)) (r : List zV) (c s : Nat) : zQ := fun h o => match o with
  | .inl (some v) => X pc ls (v :: r) h c s
  | .inl none => X pc ls r h c s
  | .inr _ => False
def zstep (cl : Nat → List zV → zH → Nat → Nat → zQ → Prop) (mc ms : Nat) (Q : zQ) (X : zX) (o : zOp) (pc : Nat) (ls : List (Option zV)) (st : List zV) (h : zH) (c s : Nat) : Prop :=
  match o with
  | (k, n, a, b, _, _, z) => match k with
    | 0 => ∃ x : Int32, ls[a]? = some (some (zI x)) ∧ X (pc + n) ls (zI x :: st) h c s
    | 1 => ∃ x : Option Nat, ls[a]? = some (some (zR x)) ∧ X (pc + n) ls (zR x :: st) h c s
    | 2 => ∃ x : Int64, ls[a]? = some (some (zJ x)) ∧ X (pc + n) ls (zJ x :: st) h c s
    | 3 => ∃ x r, st = zI x :: r ∧ a < ls.length ∧ X (pc + n) (zset ls a (zI x)) r h c s
    | 4 => ∃ x r, st = zR x :: r ∧ a < ls.length ∧ X (pc + n) (zset ls a (zR x)) r h c s
    | 5 => ∃ x r, st = zJ x :: r ∧ a + 1 < ls.length ∧ X (pc + n) (zset ls a (zJ x)) r h c s
    | 6 => X (pc + n) ls (zI (Int32.ofInt z) :: st) h c s
    | 7 => X (pc + n) ls (zJ (Int64.ofInt z) :: st) h c s
    | 8 => X (pc + n) ls (zR none :: st) h c s
    | 9 => ∃ x : Int32, ls[a]? = some (some (zI x)) ∧ X (pc + n) (zset ls a (zI (x + Int32.ofInt z))) st h c s
    | 10 => ∃ y x r, st = zI y :: zI x :: r ∧ X (pc + n) ls (zI (zibin a x y) :: r) h c s
    | 11 => ∃ y x r, st = zJ y :: zJ x :: r ∧ X (pc + n) ls (zJ (zlbin a x y) :: r) h c s
    | 12 => ∃ y x r, st = zI y :: zJ x :: r ∧ X (pc + n) ls (zJ (zlsh a x y) :: r) h c s
    | 13 => match a with
      | 0 => ∃ x r, st = zI x :: r ∧ X (pc + n) ls (zJ x.toInt64 :: r) h c s
      | 1 => ∃ x r, st = zJ x :: r ∧ X (pc + n) ls (zI x.toInt32 :: r) h c s
      | _ => ∃ x r, st = zI x :: r ∧ X (pc + n) ls (zI x.toInt8.toInt32 :: r) h c s
    | 14 => ∃ x r, st = zI x :: r ∧ (zcnd a x 0 → X b ls r h c s) ∧ (¬ zcnd a x 0 → X (pc + n) ls r h c s)
    | 15 => ∃ y x r, st = zI y :: zI x :: r ∧ (zcnd a x y → X b ls r h c s) ∧ (¬ zcnd a x y → X (pc + n) ls r h c s)
    | 16 => X b ls st h c s
    | 17 => ∃ p r, st = zR p :: r ∧ (p = none → X b ls r h c s) ∧ (¬ p = none → X (pc + n) ls r h c s)
    | 18 => ∃ p r, st = zR p :: r ∧ (¬ p = none → X b ls r h c s) ∧ (p = none → X (pc + n) ls r h c s)
    | 19 => ∃ y x r, st = zJ y :: zJ x :: r ∧ X (pc + n) ls (zI (lg_cmp x y) :: r) h c s
    | 20 => ∃ v r, st = v :: r ∧ zcat v = 1 ∧ X (pc + n) ls (v :: v :: r) h c s
    | 21 => ∃ v w r, st = v :: w :: r ∧ zcat v = 1 ∧ zcat w = 1 ∧ X (pc + n) ls (v :: w :: v :: w :: r) h c s
    | 22 => ∃ v r, st = v :: r ∧ zcat v = 1 ∧ X (pc + n) ls r h c s
    | 23 => ∃ p r fs v, st = zR (some p) :: r ∧ h p = some (zO a fs) ∧ fs[b]? = some v ∧ X (pc + n) ls (v :: r) h c s
    | 24 => ∃ v p r fs, st = v :: zR (some p) :: r ∧ h p = some (zO a fs) ∧ b < fs.length ∧ zfit z v ∧ X (pc + n) ls r (zup h p (zO a (fs.set b v))) c s
    | 25 => ∃ i p r m f, st = zI i :: zR (some p) :: r ∧ h p = some (zaI a m f) ∧ vp_in i m ∧ X (pc + n) ls (zI (f i.toNatClampNeg) :: r) h c s
    | 26 => ∃ x i p r m f, st = zI x :: zI i :: zR (some p) :: r ∧ h p = some (zaI a m f) ∧ vp_in i m ∧ X (pc + n) ls r (zup h p (zaI a m (upd f i.toNatClampNeg (znar a x)))) c s
    | 27 => ∃ i p r m f, st = zI i :: zR (some p) :: r ∧ h p = some (zaJ m f) ∧ vp_in i m ∧ X (pc + n) ls (zJ (f i.toNatClampNeg) :: r) h c s
    | 28 => ∃ x i p r m f, st = zJ x :: zI i :: zR (some p) :: r ∧ h p = some (zaJ m f) ∧ vp_in i m ∧ X (pc + n) ls r (zup h p (zaJ m (vp_updL f i.toNatClampNeg x))) c s
    | 29 => ∃ i p r m f, st = zI i :: zR (some p) :: r ∧ h p = some (zaR a m f) ∧ vp_in i m ∧ X (pc + n) ls (zR (f i.toNatClampNeg) :: r) h c s
    | 30 => ∃ v i p r m f, st = zR v :: zI i :: zR (some p) :: r ∧ h p = some (zaR a m f) ∧ vp_in i m ∧ (∀ q, v = some q → ∃ fs, h q = some (zO b fs)) ∧ X (pc + n) ls r (zup h p (zaR a m (va_up f i.toNatClampNeg v))) c s
    | 31 => ∃ p r m, st = zR (some p) :: r ∧ zlen (h p) = some m ∧ X (pc + n) ls (zI (Int32.ofNat m) :: r) h c s
    | 32 => c + 1 ≤ mc ∧ s + b ≤ ms ∧ ∀ q, h q = none → X (pc + n) ls (zR (some q) :: st) (zup h q (zO a (zdf a b))) (c + 1) (s + b)
    | 33 => ∃ i r, st = zI i :: r ∧ ¬ i < 0 ∧ i.toNatClampNeg ≤ 100000 ∧ c + 1 ≤ mc ∧ s + i.toNatClampNeg ≤ ms ∧ ∀ q, h q = none → X (pc + n) ls (zR (some q) :: r) (zup h q (znew a i.toNatClampNeg)) (c + 1) (s + i.toNatClampNeg)
    | 34 => ∃ i r, st = zI i :: r ∧ ¬ i < 0 ∧ i.toNatClampNeg ≤ 100000 ∧ c + 1 ≤ mc ∧ s + i.toNatClampNeg ≤ ms ∧ ∀ q, h q = none → X (pc + n) ls (zR (some q) :: r) (zup h q (zaR a i.toNatClampNeg (fun _ => none))) (c + 1) (s + i.toNatClampNeg)
    | 35 => ∃ as r mc' ms', st = as.reverse ++ r ∧ as.length = b ∧ (r.map zcat).sum ≤ 8 ∧ c + mc' ≤ mc ∧ s + ms' ≤ ms ∧ zrcv (zK a) (zci a) as h ∧ cl a as h mc' ms' (zaft X (pc + n) ls r (c + mc') (s + ms'))
    | 36 => ∃ v, st = [v] ∧ zret a v ∧ Q h (.inl (some v))
    | 37 => st = [] ∧ Q h (.inl none)
    | 38 => c + 1 ≤ mc ∧ s + 6 ≤ ms ∧ (st.map zcat).sum ≤ 8 ∧ Q h (.inr a)
    | 39 => ∃ x r, st = zI x :: r ∧ X (zswt a b x) ls r h c s
    | 40 => ∃ p r, st = zR (some p) :: r ∧ (r.map zcat).sum ≤ 8 ∧ X (pc + n) ls r h c s
    | 44 => ∃ N I1 p1 I2 p2 r m1 f m2 g, st = zI N :: zI I2 :: zR (some p2) :: zI I1 :: zR (some p1) :: r ∧ (r.map zcat).sum ≤ 8 ∧ (∀ i, i < N.toNatClampNeg → fits (if a = 0 then .byte else .int) (.int (f (I1.toNatClampNeg + i))) = true) ∧ h p1 = some (zaI a m1 f) ∧ h p2 = some (zaI a m2 g) ∧ ¬ I1 < 0 ∧ ¬ I2 < 0 ∧ ¬ N < 0 ∧ I1.toNatClampNeg + N.toNatClampNeg ≤ m1 ∧ I2.toNatClampNeg + N.toNatClampNeg ≤ m2 ∧ X (pc + n) ls r (zup h p2 (zaI a m2 (va_cpy f g I1.toNatClampNeg I2.toNatClampNeg N.toNatClampNeg))) c s
    | 45 => ∃ y x r, st = zI y :: zI x :: r ∧ (r.map zcat).sum ≤ 8 ∧ X (pc + n) ls (zI (if y < x then y else x) :: r) h c s
    | _ => False
theorem zaft_mono {X Y : zX} (hX : ∀ pc ls st h c s, X pc ls st h c s → Y pc ls st h c s) {pc : Nat} {ls : List (Option zV)} {r : List zV} {c s : Nat} : ∀ h o, zaft X pc ls r c s h o → zaft Y pc ls r c s h o := by
  intro h o k
  rcases o with (_ | v) | e
  · exact hX _ _ _ _ _ _ k
  · exact hX _ _ _ _ _ _ k
  · exact k
set_option maxHeartbeats 1000000 in
theorem zstep_mono {cl : Nat → List zV → zH → Nat → Nat → zQ → Prop} (hcl : ∀ j as h a b (P P' : zQ), (∀ h o, P h o → P' h o) → cl j as h a b P → cl j as h a b P') {mc ms : Nat} {Q Q' : zQ} {X Y : zX} (hQ : ∀ h o, Q h o → Q' h o) (hX : ∀ pc ls st h c s, X pc ls st h c s → Y pc ls st h c s)
    {o : zOp} {pc : Nat} {ls : List (Option zV)} {st : List zV} {h : zH} {c s : Nat} : zstep cl mc ms Q X o pc ls st h c s → zstep cl mc ms Q' Y o pc ls st h c s := by
  obtain ⟨k, n, a, b, ix, w, z⟩ := o
  unfold zstep
  dsimp only
  split
  all_goals try exact fun k => hX _ _ _ _ _ _ k
  all_goals try exact fun ⟨x, h1, k⟩ => ⟨x, h1, hX _ _ _ _ _ _ k⟩
  all_goals try exact fun ⟨x, r, h1, k⟩ => ⟨x, r, h1, hX _ _ _ _ _ _ k⟩
  all_goals try exact fun ⟨x, r, h1, h2, k⟩ => ⟨x, r, h1, h2, hX _ _ _ _ _ _ k⟩
  all_goals try exact fun ⟨x, y, r, h1, h2, k⟩ => ⟨x, y, r, h1, h2, hX _ _ _ _ _ _ k⟩
  all_goals try exact fun ⟨x, y, r, h1, k⟩ => ⟨x, y, r, h1, hX _ _ _ _ _ _ k⟩
  all_goals try exact fun ⟨x, y, r, h1, h2, h3, k⟩ => ⟨x, y, r, h1, h2, h3, hX _ _ _ _ _ _ k⟩
  all_goals try exact fun ⟨x, r, h1, k1, k2⟩ => ⟨x, r, h1, fun q => hX _ _ _ _ _ _ (k1 q), fun q => hX _ _ _ _ _ _ (k2 q)⟩
  all_goals try exact fun ⟨x, y, r, h1, k1, k2⟩ => ⟨x, y, r, h1, fun q => hX _ _ _ _ _ _ (k1 q), fun q => hX _ _ _ _ _ _ (k2 q)⟩
  all_goals try exact fun ⟨x, y, r, v, h1, h2, h3, k⟩ => ⟨x, y, r, v, h1, h2, h3, hX _ _ _ _ _ _ k⟩
  all_goals try exact fun ⟨x, y, r, v, h1, h2, h3, h4, k⟩ => ⟨x, y, r, v, h1, h2, h3, h4, hX _ _ _ _ _ _ k⟩
  all_goals try exact fun ⟨x, y, r, v, w, h1, h2, h3, k⟩ => ⟨x, y, r, v, w, h1, h2, h3, hX _ _ _ _ _ _ k⟩
  all_goals try exact fun ⟨x, y, r, v, w, u, h1, h2, h3, k⟩ => ⟨x, y, r, v, w, u, h1, h2, h3, hX _ _ _ _ _ _ k⟩
  all_goals try exact fun ⟨x, y, r, v, w, u, h1, h2, h3, h4, k⟩ => ⟨x, y, r, v, w, u, h1, h2, h3, h4, hX _ _ _ _ _ _ k⟩
  all_goals try exact fun ⟨h1, h2, k⟩ => ⟨h1, h2, fun q hq => hX _ _ _ _ _ _ (k q hq)⟩
  all_goals try exact fun ⟨i, r, h1, h2, h3, h4, h5, k⟩ => ⟨i, r, h1, h2, h3, h4, h5, fun q hq => hX _ _ _ _ _ _ (k q hq)⟩
  all_goals try exact fun ⟨as, r, m1, m2, h1, h2, h3, h4, h5, h6, k⟩ => ⟨as, r, m1, m2, h1, h2, h3, h4, h5, h6, hcl _ _ _ _ _ _ _ (zaft_mono hX) k⟩
  all_goals try exact fun ⟨v, h1, h2, k⟩ => ⟨v, h1, h2, hQ _ _ k⟩
  all_goals try exact fun ⟨h1, k⟩ => ⟨h1, hQ _ _ k⟩
  all_goals try exact fun ⟨h1, h2, h3, k⟩ => ⟨h1, h2, h3, hQ _ _ k⟩
  all_goals try exact fun ⟨v0, v1, v2, v3, v4, v5, v6, v7, v8, v9, g0, g1, g2, g3, g4, g5, g6, g7, g8, g9, k⟩ => ⟨v0, v1, v2, v3, v4, v5, v6, v7, v8, v9, g0, g1, g2, g3, g4, g5, g6, g7, g8, g9, hX _ _ _ _ _ _ k⟩
  all_goals try exact fun k => k
  · split
    all_goals exact fun ⟨x, r, h1, k⟩ => ⟨x, r, h1, hX _ _ _ _ _ _ k⟩
/-- the least relation that is closed under steps -/
def zEvG (cl : Nat → List zV → zH → Nat → Nat → zQ → Prop) (T : List (Nat × zOp)) (mc ms : Nat) (Q : zQ) : zX := fun pc ls st h c s =>
  ∀ X : zX, (∀ pc ls st h c s, (∃ o, T.lookup pc = some o ∧ zstep cl mc ms Q X o pc ls st h c s) → X pc ls st h c s) → X pc ls st h c s
def zargs : List zV → List (Option zV)
  | [] => []
  | v :: t => match v with
    | .inr (.inl _) => some v :: none :: zargs t
    | _ => some v :: zargs t
def zent (n : Nat) (as : List zV) : List (Option zV) := zargs as ++ List.replicate (n - (zargs as).length) none
def zCall : Nat → Nat → List zV → zH → Nat → Nat → zQ → Prop
  | 0, _, _, _, _, _, _ => False
  | d + 1, y, as, h, mc, ms, Q => (zargs as).length ≤ zL y ∧ zEvG (zCall d) (ztb y) mc ms Q 0 (zent (zL y) as) [] h 0 0
theorem zEvG_mono {cl : Nat → List zV → zH → Nat → Nat → zQ → Prop} (hcl : ∀ j as h a b (P P' : zQ), (∀ h o, P h o → P' h o) → cl j as h a b P → cl j as h a b P') {T : List (Nat × zOp)} {mc ms : Nat} {Q Q' : zQ} (hQ : ∀ h o, Q h o → Q' h o)
    {pc : Nat} {ls : List (Option zV)} {st : List zV} {h : zH} {c s : Nat} (k : zEvG cl T mc ms Q pc ls st h c s) : zEvG cl T mc ms Q' pc ls st h c s := by
  intro X hX
  refine k X fun pc ls st h c s ⟨o, ho, q⟩ => hX pc ls st h c s ⟨o, ho, ?_⟩
  exact zstep_mono hcl hQ (fun _ _ _ _ _ _ z => z) q
theorem zCall_mono : ∀ (d j : Nat) (as : List zV) (h : zH) (a b : Nat) (P P' : zQ), (∀ h o, P h o → P' h o) → zCall d j as h a b P → zCall d j as h a b P'
  | 0, _, _, _, _, _, _, _, _, k => k
  | d + 1, _, _, _, _, _, _, _, hP, k => ⟨k.1, zEvG_mono (zCall_mono d) hP k.2⟩
abbrev zEv (d : Nat) (T : List (Nat × zOp)) (mc ms : Nat) (Q : zQ) : zX := zEvG (zCall d) T mc ms Q
theorem zEv.step {d : Nat} {T : List (Nat × zOp)} {mc ms : Nat} {Q : zQ} {pc : Nat} {ls : List (Option zV)} {st : List zV} {h : zH} {c s : Nat} {o : zOp} (ho : T.lookup pc = some o) (k : zstep (zCall d) mc ms Q (zEv d T mc ms Q) o pc ls st h c s) : zEv d T mc ms Q pc ls st h c s := by
  intro X hX
  refine hX _ _ _ _ _ _ ⟨o, ho, ?_⟩
  exact zstep_mono (zCall_mono d) (fun _ _ z => z) (fun pc ls st h c s z => z X hX) k
