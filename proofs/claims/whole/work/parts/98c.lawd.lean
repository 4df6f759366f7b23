/-! Rules of the helpers' machine and of the law's. -/
theorem hns {cl : Nat → List zV → zH → Nat → Nat → zQ → Prop} {H : Nat → Option Nat} {mc ms : Nat} {Q : zQ} {X : zX} {k n a b ix w : Nat} {z : Int} {pc : Nat} {ls : List (Option zV)} {st : List zV} {h : zH} {c s : Nat} (hk : k ≠ 43) (y : zstep cl mc ms Q X (k, n, a, b, ix, w, z) pc ls st h c s) : hstep cl H mc ms Q X (k, n, a, b, ix, w, z) pc ls st h c s := by
  unfold hstep
  rw [if_neg hk]
  exact y
theorem lns {d B L : Nat} {xs : Nat → Int32} {mc ms : Nat} {X : zX} {k n a b ix w : Nat} {z : Int} {pc : Nat} {ls : List (Option zV)} {st : List zV} {h : zH} {c s : Nat} (h1 : k ≠ 41) (h2 : k ≠ 42) (h3 : k ≠ 36) (h4 : ¬ (k = 35 ∧ 152 ≤ a)) (y : zstep (zCall (d + 1)) mc ms (fun _ _ => False) X (k, n, a, b, ix, w, z) pc ls st h c s) : lstep d B L xs mc ms X (k, n, a, b, ix, w, z) pc ls st h c s := by
  unfold lstep
  rw [if_neg h1, if_neg h2, if_neg h3, if_neg h4]
  exact y
section
variable {d : Nat} {H : Nat → Option Nat} {T : List (Nat × zOp)} {mc ms : Nat} {Q : zQ} {pc : Nat} {ls : List (Option zV)} {st : List zV} {h : zH} {c s n a b ix w : Nat} {z : Int}
theorem h_ild {x : Int32} (ho : T.lookup pc = some (0, n, a, b, ix, w, z)) (hl : ls[a]? = some (some (zI x))) (k : hEv d H T mc ms Q (pc + n) ls (zI x :: st) h c s) : hEv d H T mc ms Q pc ls st h c s := hEv.step ho (hns (by decide) ⟨x, hl, k⟩)
theorem h_ald {x : Option Nat} (ho : T.lookup pc = some (1, n, a, b, ix, w, z)) (hl : ls[a]? = some (some (zR x))) (k : hEv d H T mc ms Q (pc + n) ls (zR x :: st) h c s) : hEv d H T mc ms Q pc ls st h c s := hEv.step ho (hns (by decide) ⟨x, hl, k⟩)
theorem h_lld {x : Int64} (ho : T.lookup pc = some (2, n, a, b, ix, w, z)) (hl : ls[a]? = some (some (zJ x))) (k : hEv d H T mc ms Q (pc + n) ls (zJ x :: st) h c s) : hEv d H T mc ms Q pc ls st h c s := hEv.step ho (hns (by decide) ⟨x, hl, k⟩)
theorem h_ico {x : Int32} (ho : T.lookup pc = some (6, n, a, b, ix, w, z)) (hx : Int32.ofInt z = x) (k : hEv d H T mc ms Q (pc + n) ls (zI x :: st) h c s) : hEv d H T mc ms Q pc ls st h c s := hEv.step ho (hns (by decide) (by subst hx; exact k))
theorem h_lco {x : Int64} (ho : T.lookup pc = some (7, n, a, b, ix, w, z)) (hx : Int64.ofInt z = x) (k : hEv d H T mc ms Q (pc + n) ls (zJ x :: st) h c s) : hEv d H T mc ms Q pc ls st h c s := hEv.step ho (hns (by decide) (by subst hx; exact k))
theorem h_i2l {x : Int32} {v : Int64} (ho : T.lookup pc = some (13, n, 0, b, ix, w, z)) (hv : x.toInt64 = v) (k : hEv d H T mc ms Q (pc + n) ls (zJ v :: st) h c s) : hEv d H T mc ms Q pc ls (zI x :: st) h c s := hEv.step ho (hns (by decide) ⟨x, st, rfl, by rw [hv]; exact k⟩)
theorem h_last {p i m : Nat} {f : Nat → Int64} {x : Int64} (ho : T.lookup pc = some (28, n, a, b, ix, w, z)) (hp : h p = some (zaJ m f)) (hi : i < m) (hm : m < 2 ^ 31) (k : ∀ h', h' p = some (zaJ m (vp_updL f i x)) → (∀ y, y ≠ p → h' y = h y) → hEv d H T mc ms Q (pc + n) ls st h' c s) : hEv d H T mc ms Q pc ls (zJ x :: zI (nI i) :: zR (some p) :: st) h c s := hEv.step ho (hns (by decide) ⟨x, nI i, p, st, m, f, rfl, hp, vp_in_nI hi hm, k _ (by rw [nI_clamp (by omega)]; exact zup_s _ _ _) (fun y hy => zup_n _ _ hy)⟩)
theorem h_go (ho : T.lookup pc = some (16, n, a, b, ix, w, z)) (k : hEv d H T mc ms Q b ls st h c s) : hEv d H T mc ms Q pc ls st h c s := hEv.step ho (hns (by decide) k)
theorem h_ast {x : Option Nat} {ls' : List (Option zV)} (ho : T.lookup pc = some (4, n, a, b, ix, w, z)) (hn : a < ls.length) (hl : zset ls a (zR x) = ls') (k : hEv d H T mc ms Q (pc + n) ls' st h c s) : hEv d H T mc ms Q pc ls (zR x :: st) h c s := hEv.step ho (hns (by decide) ⟨x, st, rfl, hn, by rw [hl]; exact k⟩)
theorem h_if {x : Int32} (ho : T.lookup pc = some (14, n, a, b, ix, w, z)) (k1 : zcnd a x 0 → hEv d H T mc ms Q b ls st h c s) (k2 : ¬ zcnd a x 0 → hEv d H T mc ms Q (pc + n) ls st h c s) : hEv d H T mc ms Q pc ls (zI x :: st) h c s := hEv.step ho (hns (by decide) ⟨x, st, rfl, k1, k2⟩)
theorem h_ifB0 {x : Bool} (ho : T.lookup pc = some (14, n, 0, b, ix, w, z)) (k1 : x = false → hEv d H T mc ms Q b ls st h c s) (k2 : x = true → hEv d H T mc ms Q (pc + n) ls st h c s) : hEv d H T mc ms Q pc ls (zI (bI x) :: st) h c s := h_if ho (fun c => k1 (bI_0.mp c)) (fun c => k2 (by cases x with
  | true => rfl
  | false => exact absurd rfl c))
theorem h_ret {v : zV} (ho : T.lookup pc = some (36, n, a, b, ix, w, z)) (hv : zret a v) (k : Q h (.inl (some v))) : hEv d H T mc ms Q pc ls [v] h c s := hEv.step ho (hns (by decide) ⟨v, rfl, hv, k⟩)
theorem h_top {v v2 : zV} (e : v = v2) (k : hEv d H T mc ms Q pc ls (v2 :: st) h c s) : hEv d H T mc ms Q pc ls (v :: st) h c s := by subst e; exact k
theorem h_call {as r : List zV} {P : zQ} {mc' ms' : Nat} (ho : T.lookup pc = some (43, n, a, b, ix, w, z)) (hst : st = as.reverse ++ r) (hb : as.length = b) (hs : (r.map zcat).sum ≤ 8) (hcm : c + mc' ≤ mc) (hsm : s + ms' ≤ ms) (hr : zrcv (zK a) (zci a) as h) (hc : zCall d a as h mc' ms' P) (k : ∀ h' o, P h' o → hQ (hEv d H T mc ms Q) H (pc + 3) ls r (c + mc') (s + ms') h' o) : hEv d H T mc ms Q pc ls st h c s := hEv.step ho (by
  unfold hstep
  rw [if_pos rfl]
  exact ⟨as, r, mc', ms', hst, hb, hs, hcm, hsm, hr, zCall_mono d a as h mc' ms' _ _ k hc⟩)
end
section
variable {d B L : Nat} {xs : Nat → Int32} {mc ms : Nat} {pc : Nat} {ls : List (Option zV)} {st : List zV} {h : zH} {c s n a b ix w : Nat} {z : Int}
theorem l_ild {x : Int32} (ho : tb_165.lookup pc = some (0, n, a, b, ix, w, z)) (hl : ls[a]? = some (some (zI x))) (k : lEv d B L xs mc ms (pc + n) ls (zI x :: st) h c s) : lEv d B L xs mc ms pc ls st h c s := lEv.step ho (lns (by decide) (by decide) (by decide) (fun q => absurd q.1 (by decide)) ⟨x, hl, k⟩)
theorem l_ald {x : Option Nat} (ho : tb_165.lookup pc = some (1, n, a, b, ix, w, z)) (hl : ls[a]? = some (some (zR x))) (k : lEv d B L xs mc ms (pc + n) ls (zR x :: st) h c s) : lEv d B L xs mc ms pc ls st h c s := lEv.step ho (lns (by decide) (by decide) (by decide) (fun q => absurd q.1 (by decide)) ⟨x, hl, k⟩)
theorem l_ist {x : Int32} {ls' : List (Option zV)} (ho : tb_165.lookup pc = some (3, n, a, b, ix, w, z)) (hn : a < ls.length) (hl : zset ls a (zI x) = ls') (k : lEv d B L xs mc ms (pc + n) ls' st h c s) : lEv d B L xs mc ms pc ls (zI x :: st) h c s := lEv.step ho (lns (by decide) (by decide) (by decide) (fun q => absurd q.1 (by decide)) ⟨x, st, rfl, hn, by rw [hl]; exact k⟩)
theorem l_ast {x : Option Nat} {ls' : List (Option zV)} (ho : tb_165.lookup pc = some (4, n, a, b, ix, w, z)) (hn : a < ls.length) (hl : zset ls a (zR x) = ls') (k : lEv d B L xs mc ms (pc + n) ls' st h c s) : lEv d B L xs mc ms pc ls (zR x :: st) h c s := lEv.step ho (lns (by decide) (by decide) (by decide) (fun q => absurd q.1 (by decide)) ⟨x, st, rfl, hn, by rw [hl]; exact k⟩)
theorem l_ico {x : Int32} (ho : tb_165.lookup pc = some (6, n, a, b, ix, w, z)) (hx : Int32.ofInt z = x) (k : lEv d B L xs mc ms (pc + n) ls (zI x :: st) h c s) : lEv d B L xs mc ms pc ls st h c s := lEv.step ho (lns (by decide) (by decide) (by decide) (fun q => absurd q.1 (by decide)) (by subst hx; exact k))
theorem l_lco {x : Int64} (ho : tb_165.lookup pc = some (7, n, a, b, ix, w, z)) (hx : Int64.ofInt z = x) (k : lEv d B L xs mc ms (pc + n) ls (zJ x :: st) h c s) : lEv d B L xs mc ms pc ls st h c s := lEv.step ho (lns (by decide) (by decide) (by decide) (fun q => absurd q.1 (by decide)) (by subst hx; exact k))
theorem l_inc {x x' : Int32} {ls' : List (Option zV)} (ho : tb_165.lookup pc = some (9, n, a, b, ix, w, z)) (hl : ls[a]? = some (some (zI x))) (hx : x + Int32.ofInt z = x') (hs : zset ls a (zI x') = ls') (k : lEv d B L xs mc ms (pc + n) ls' st h c s) : lEv d B L xs mc ms pc ls st h c s := lEv.step ho (lns (by decide) (by decide) (by decide) (fun q => absurd q.1 (by decide)) ⟨x, hl, by subst hx; rw [hs]; exact k⟩)
theorem l_ibi {x y v : Int32} (ho : tb_165.lookup pc = some (10, n, a, b, ix, w, z)) (hv : zibin a x y = v) (k : lEv d B L xs mc ms (pc + n) ls (zI v :: st) h c s) : lEv d B L xs mc ms pc ls (zI y :: zI x :: st) h c s := lEv.step ho (lns (by decide) (by decide) (by decide) (fun q => absurd q.1 (by decide)) ⟨y, x, st, rfl, by rw [hv]; exact k⟩)
theorem l_lbi {x y v : Int64} (ho : tb_165.lookup pc = some (11, n, a, b, ix, w, z)) (hv : zlbin a x y = v) (k : lEv d B L xs mc ms (pc + n) ls (zJ v :: st) h c s) : lEv d B L xs mc ms pc ls (zJ y :: zJ x :: st) h c s := lEv.step ho (lns (by decide) (by decide) (by decide) (fun q => absurd q.1 (by decide)) ⟨y, x, st, rfl, by rw [hv]; exact k⟩)
theorem l_lsh {x v : Int64} {y : Int32} (ho : tb_165.lookup pc = some (12, n, a, b, ix, w, z)) (hv : zlsh a x y = v) (k : lEv d B L xs mc ms (pc + n) ls (zJ v :: st) h c s) : lEv d B L xs mc ms pc ls (zI y :: zJ x :: st) h c s := lEv.step ho (lns (by decide) (by decide) (by decide) (fun q => absurd q.1 (by decide)) ⟨y, x, st, rfl, by rw [hv]; exact k⟩)
theorem l_i2l {x : Int32} {v : Int64} (ho : tb_165.lookup pc = some (13, n, 0, b, ix, w, z)) (hv : x.toInt64 = v) (k : lEv d B L xs mc ms (pc + n) ls (zJ v :: st) h c s) : lEv d B L xs mc ms pc ls (zI x :: st) h c s := lEv.step ho (lns (by decide) (by decide) (by decide) (fun q => absurd q.1 (by decide)) ⟨x, st, rfl, by rw [hv]; exact k⟩)
theorem l_if {x : Int32} (ho : tb_165.lookup pc = some (14, n, a, b, ix, w, z)) (k1 : zcnd a x 0 → lEv d B L xs mc ms b ls st h c s) (k2 : ¬ zcnd a x 0 → lEv d B L xs mc ms (pc + n) ls st h c s) : lEv d B L xs mc ms pc ls (zI x :: st) h c s := lEv.step ho (lns (by decide) (by decide) (by decide) (fun q => absurd q.1 (by decide)) ⟨x, st, rfl, k1, k2⟩)
theorem l_cmp {x y : Int32} (ho : tb_165.lookup pc = some (15, n, a, b, ix, w, z)) (k1 : zcnd a x y → lEv d B L xs mc ms b ls st h c s) (k2 : ¬ zcnd a x y → lEv d B L xs mc ms (pc + n) ls st h c s) : lEv d B L xs mc ms pc ls (zI y :: zI x :: st) h c s := lEv.step ho (lns (by decide) (by decide) (by decide) (fun q => absurd q.1 (by decide)) ⟨y, x, st, rfl, k1, k2⟩)
theorem l_go (ho : tb_165.lookup pc = some (16, n, a, b, ix, w, z)) (k : lEv d B L xs mc ms b ls st h c s) : lEv d B L xs mc ms pc ls st h c s := lEv.step ho (lns (by decide) (by decide) (by decide) (fun q => absurd q.1 (by decide)) k)
theorem l_lcm {x y : Int64} {v : Int32} (ho : tb_165.lookup pc = some (19, n, a, b, ix, w, z)) (hv : lg_cmp x y = v) (k : lEv d B L xs mc ms (pc + n) ls (zI v :: st) h c s) : lEv d B L xs mc ms pc ls (zJ y :: zJ x :: st) h c s := lEv.step ho (lns (by decide) (by decide) (by decide) (fun q => absurd q.1 (by decide)) ⟨y, x, st, rfl, by rw [hv]; exact k⟩)
theorem l_dup {v : zV} (ho : tb_165.lookup pc = some (20, n, a, b, ix, w, z)) (hv : zcat v = 1) (k : lEv d B L xs mc ms (pc + n) ls (v :: v :: st) h c s) : lEv d B L xs mc ms pc ls (v :: st) h c s := lEv.step ho (lns (by decide) (by decide) (by decide) (fun q => absurd q.1 (by decide)) ⟨v, st, rfl, hv, k⟩)
theorem l_lald {p i m : Nat} {f : Nat → Int64} (ho : tb_165.lookup pc = some (27, n, a, b, ix, w, z)) (hp : h p = some (zaJ m f)) (hi : i < m) (hm : m < 2 ^ 31) (k : lEv d B L xs mc ms (pc + n) ls (zJ (f i) :: st) h c s) : lEv d B L xs mc ms pc ls (zI (nI i) :: zR (some p) :: st) h c s := lEv.step ho (lns (by decide) (by decide) (by decide) (fun q => absurd q.1 (by decide)) ⟨nI i, p, st, m, f, rfl, hp, vp_in_nI hi hm, by rw [nI_clamp (by omega)]; exact k⟩)
theorem l_new (ho : tb_165.lookup pc = some (32, n, a, b, ix, w, z)) (hc : c + 1 ≤ mc) (hs : s + b ≤ ms) (k : ∀ q h', h q = none → h' q = some (zO a (zdf a b)) → (∀ y, y ≠ q → h' y = h y) → lEv d B L xs mc ms (pc + n) ls (zR (some q) :: st) h' (c + 1) (s + b)) : lEv d B L xs mc ms pc ls st h c s := lEv.step ho (lns (by decide) (by decide) (by decide) (fun q => absurd q.1 (by decide)) ⟨hc, hs, fun q hq => k q _ hq (zup_s _ _ _) (fun y hy => zup_n _ _ hy)⟩)
theorem l_newI {i : Nat} {e : zE} (ho : tb_165.lookup pc = some (33, n, a, b, ix, w, z)) (hi : i ≤ 100000) (hc : c + 1 ≤ mc) (hs : s + i ≤ ms) (he : znew a i = e) (k : ∀ q h', h q = none → h' q = some e → (∀ y, y ≠ q → h' y = h y) → lEv d B L xs mc ms (pc + n) ls (zR (some q) :: st) h' (c + 1) (s + i)) : lEv d B L xs mc ms pc ls (zI (nI i) :: st) h c s := by
  have e0 : (nI i).toNatClampNeg = i := nI_clamp (by omega)
  subst he
  refine lEv.step ho (lns (by decide) (by decide) (by decide) (fun q => absurd q.1 (by decide)) ⟨nI i, st, rfl, nI_pos (by omega), by rw [e0]; exact hi, hc, by rw [e0]; exact hs, fun q hq => ?_⟩)
  rw [e0]
  exact k q _ hq (zup_s _ _ _) (fun y hy => zup_n _ _ hy)
theorem l_top {v v2 : zV} (e : v = v2) (k : lEv d B L xs mc ms pc ls (v2 :: st) h c s) : lEv d B L xs mc ms pc ls (v :: st) h c s := by subst e; exact k
theorem l_cmpN {x y : Nat} (hx : x < 2 ^ 31) (hy : y < 2 ^ 31) (ho : tb_165.lookup pc = some (15, n, a, b, ix, w, z)) (k1 : ncnd a x y → lEv d B L xs mc ms b ls st h c s) (k2 : ¬ ncnd a x y → lEv d B L xs mc ms (pc + n) ls st h c s) : lEv d B L xs mc ms pc ls (zI (nI y) :: zI (nI x) :: st) h c s := l_cmp ho (fun c => k1 ((zcnd_n hx hy).mp c)) (fun c => k2 (fun e => c ((zcnd_n hx hy).mpr e)))
theorem l_ifN {x : Nat} (hx : x < 2 ^ 31) (ho : tb_165.lookup pc = some (14, n, a, b, ix, w, z)) (k1 : ncnd a x 0 → lEv d B L xs mc ms b ls st h c s) (k2 : ¬ ncnd a x 0 → lEv d B L xs mc ms (pc + n) ls st h c s) : lEv d B L xs mc ms pc ls (zI (nI x) :: st) h c s := l_if ho (fun c => k1 ((zcnd_n (b := 0) hx (by decide)).mp c)) (fun c => k2 (fun e => c ((zcnd_n (b := 0) hx (by decide)).mpr e)))
theorem l_ifB0 {x : Bool} (ho : tb_165.lookup pc = some (14, n, 0, b, ix, w, z)) (k1 : x = false → lEv d B L xs mc ms b ls st h c s) (k2 : x = true → lEv d B L xs mc ms (pc + n) ls st h c s) : lEv d B L xs mc ms pc ls (zI (bI x) :: st) h c s := l_if ho (fun c => k1 (bI_0.mp c)) (fun c => k2 (by cases x with
  | true => rfl
  | false => exact absurd rfl c))
theorem l_sw {x : Int32} {t : Nat} (ho : tb_165.lookup pc = some (39, n, a, b, ix, w, z)) (ht : zswt a b x = t) (k : lEv d B L xs mc ms t ls st h c s) : lEv d B L xs mc ms pc ls (zI x :: st) h c s := lEv.step ho (lns (by decide) (by decide) (by decide) (fun q => absurd q.1 (by decide)) ⟨x, st, rfl, by rw [ht]; exact k⟩)
theorem l_call {as r : List zV} {P : zQ} {mc' ms' : Nat} (ho : tb_165.lookup pc = some (35, n, a, b, ix, w, z)) (ha : a < 152) (hst : st = as.reverse ++ r) (hb : as.length = b) (hs : (r.map zcat).sum ≤ 8) (hcm : c + mc' ≤ mc) (hsm : s + ms' ≤ ms) (hr : zrcv (zK a) (zci a) as h) (hc : zCall (d + 1) a as h mc' ms' P) (hP : ∀ h' e, ¬ P h' (.inr e)) (k : ∀ h' v, P h' (.inl v) → lEv d B L xs mc ms (pc + n) ls (v.toList ++ r) h' (c + mc') (s + ms')) : lEv d B L xs mc ms pc ls st h c s := by
  refine lEv.step ho (lns (by decide) (by decide) (by decide) (fun q => absurd q.2 (by omega)) ⟨as, r, mc', ms', hst, hb, hs, hcm, hsm, hr, ?_⟩)
  refine zCall_mono (d + 1) a as h mc' ms' _ _ (fun h' o e1 => ?_) hc
  rcases o with (_ | v) | e
  · exact k h' none e1
  · exact k h' (some v) e1
  · exact absurd e1 (hP h' e)
theorem l_hcall {as r : List zV} {P : zQ} {mc' ms' : Nat} (ho : tb_165.lookup pc = some (35, 3, a, b, ix, w, z)) (ha : 152 ≤ a) (hst : st = as.reverse ++ r) (hb : as.length = b) (hs : (r.map zcat).sum ≤ 8) (hcm : c + mc' ≤ mc) (hsm : s + ms' ≤ ms) (hc : hCall d a as h mc' ms' P) (hP : ∀ h' e, ¬ P h' (.inr e)) (k : ∀ h' v, P h' (.inl v) → lEv d B L xs mc ms (pc + 3) ls (v.toList ++ r) h' (c + mc') (s + ms')) : lEv d B L xs mc ms pc ls st h c s := by
  refine lEv.step ho ?_
  unfold lstep
  rw [if_neg (fun e => absurd (show 35 = 41 from e) (by decide)), if_neg (fun e => absurd (show 35 = 42 from e) (by decide)), if_neg (fun e => absurd (show 35 = 36 from e) (by decide)), if_pos ⟨rfl, ha⟩]
  refine ⟨as, r, mc', ms', hst, hb, hs, hcm, hsm, hc.1, hEv_Q (fun h' o e1 => ?_) hc.2⟩
  rcases o with (_ | v) | e
  · exact k h' none e1
  · exact k h' (some v) e1
  · exact absurd e1 (hP h' e)
theorem l_sld {i : Nat} {r : List zV} (ho : tb_165.lookup pc = some (41, n, a, b, ix, w, z)) (hi : i < L) (k : lEv d B L xs mc ms (pc + 1) ls (zI (xs i) :: r) h c s) : lEv d B L xs mc ms pc ls (zI (nI i) :: zR (some B) :: r) h c s := by
  refine lEv.step ho ?_
  unfold lstep
  rw [if_pos rfl]
  exact ⟨i, r, rfl, hi, k⟩
theorem l_slen {r : List zV} (ho : tb_165.lookup pc = some (42, n, a, b, ix, w, z)) (k : lEv d B L xs mc ms (pc + 1) ls (zI (nI L) :: r) h c s) : lEv d B L xs mc ms pc ls (zR (some B) :: r) h c s := by
  refine lEv.step ho ?_
  unfold lstep
  rw [if_neg (fun e => absurd (show 42 = 41 from e) (by decide)), if_pos rfl]
  exact ⟨r, rfl, k⟩
theorem l_end (ho : tb_165.lookup pc = some (36, n, a, b, ix, w, z)) : lEv d B L xs mc ms pc ls [zI 1] h c s := by
  refine lEv.step ho ?_
  unfold lstep
  rw [if_neg (fun e => absurd (show 36 = 41 from e) (by decide)), if_neg (fun e => absurd (show 36 = 42 from e) (by decide)), if_pos rfl]
end
/-- what a helper leaves -/
def hpQ (P : zQ) (po : Nat) (cv : Int32 → Int64) (cd : Nat → Nat) : zQ := fun h' o => ∃ h1 res, P h1 res ∧ ((∃ x fo, res = .inl (some (zI x)) ∧ o = .inl (some (zI (nI 0))) ∧ h' po = some (zaJ 1 fo) ∧ fo 0 = cv x ∧ ∀ y, y ≠ po → h' y = h1 y) ∨ (res = .inl none ∧ o = .inl (some (zI (nI 0))) ∧ h' = h1) ∨ ∃ e, res = .inr e ∧ o = .inl (some (zI (nI (cd e)))) ∧ h' = h1)
def b2L (x : Int32) : Int64 := if x = 0 then 0 else 1
