/-! Rules of the pure machine over plain heaps. -/
section
variable {d : Nat} {T : List (Nat × zOp)} {mc ms : Nat} {Q : zQ} {pc : Nat} {ls : List (Option zV)} {st : List zV} {h : zH} {c s n a b ix w : Nat} {z : Int}
theorem z_ild {x : Int32} (ho : T.lookup pc = some (0, n, a, b, ix, w, z)) (hl : ls[a]? = some (some (zI x))) (k : zEv d T mc ms Q (pc + n) ls (zI x :: st) h c s) : zEv d T mc ms Q pc ls st h c s := zEv.step ho ⟨x, hl, k⟩
theorem z_ald {x : Option Nat} (ho : T.lookup pc = some (1, n, a, b, ix, w, z)) (hl : ls[a]? = some (some (zR x))) (k : zEv d T mc ms Q (pc + n) ls (zR x :: st) h c s) : zEv d T mc ms Q pc ls st h c s := zEv.step ho ⟨x, hl, k⟩
theorem z_lld {x : Int64} (ho : T.lookup pc = some (2, n, a, b, ix, w, z)) (hl : ls[a]? = some (some (zJ x))) (k : zEv d T mc ms Q (pc + n) ls (zJ x :: st) h c s) : zEv d T mc ms Q pc ls st h c s := zEv.step ho ⟨x, hl, k⟩
theorem z_ist {x : Int32} {ls' : List (Option zV)} (ho : T.lookup pc = some (3, n, a, b, ix, w, z)) (hn : a < ls.length) (hl : zset ls a (zI x) = ls') (k : zEv d T mc ms Q (pc + n) ls' st h c s) : zEv d T mc ms Q pc ls (zI x :: st) h c s := zEv.step ho ⟨x, st, rfl, hn, by rw [hl]; exact k⟩
theorem z_ast {x : Option Nat} {ls' : List (Option zV)} (ho : T.lookup pc = some (4, n, a, b, ix, w, z)) (hn : a < ls.length) (hl : zset ls a (zR x) = ls') (k : zEv d T mc ms Q (pc + n) ls' st h c s) : zEv d T mc ms Q pc ls (zR x :: st) h c s := zEv.step ho ⟨x, st, rfl, hn, by rw [hl]; exact k⟩
theorem z_lst {x : Int64} {ls' : List (Option zV)} (ho : T.lookup pc = some (5, n, a, b, ix, w, z)) (hn : a + 1 < ls.length) (hl : zset ls a (zJ x) = ls') (k : zEv d T mc ms Q (pc + n) ls' st h c s) : zEv d T mc ms Q pc ls (zJ x :: st) h c s := zEv.step ho ⟨x, st, rfl, hn, by rw [hl]; exact k⟩
theorem z_ico {x : Int32} (ho : T.lookup pc = some (6, n, a, b, ix, w, z)) (hx : Int32.ofInt z = x) (k : zEv d T mc ms Q (pc + n) ls (zI x :: st) h c s) : zEv d T mc ms Q pc ls st h c s := zEv.step ho (by subst hx; exact k)
theorem z_lco {x : Int64} (ho : T.lookup pc = some (7, n, a, b, ix, w, z)) (hx : Int64.ofInt z = x) (k : zEv d T mc ms Q (pc + n) ls (zJ x :: st) h c s) : zEv d T mc ms Q pc ls st h c s := zEv.step ho (by subst hx; exact k)
theorem z_nul (ho : T.lookup pc = some (8, n, a, b, ix, w, z)) (k : zEv d T mc ms Q (pc + n) ls (zR none :: st) h c s) : zEv d T mc ms Q pc ls st h c s := zEv.step ho k
theorem z_inc {x x' : Int32} {ls' : List (Option zV)} (ho : T.lookup pc = some (9, n, a, b, ix, w, z)) (hl : ls[a]? = some (some (zI x))) (hx : x + Int32.ofInt z = x') (hs : zset ls a (zI x') = ls') (k : zEv d T mc ms Q (pc + n) ls' st h c s) : zEv d T mc ms Q pc ls st h c s := zEv.step ho ⟨x, hl, by subst hx; rw [hs]; exact k⟩
theorem z_ibi {x y v : Int32} (ho : T.lookup pc = some (10, n, a, b, ix, w, z)) (hv : zibin a x y = v) (k : zEv d T mc ms Q (pc + n) ls (zI v :: st) h c s) : zEv d T mc ms Q pc ls (zI y :: zI x :: st) h c s := zEv.step ho ⟨y, x, st, rfl, by rw [hv]; exact k⟩
theorem z_lbi {x y v : Int64} (ho : T.lookup pc = some (11, n, a, b, ix, w, z)) (hv : zlbin a x y = v) (k : zEv d T mc ms Q (pc + n) ls (zJ v :: st) h c s) : zEv d T mc ms Q pc ls (zJ y :: zJ x :: st) h c s := zEv.step ho ⟨y, x, st, rfl, by rw [hv]; exact k⟩
theorem z_lsh {x v : Int64} {y : Int32} (ho : T.lookup pc = some (12, n, a, b, ix, w, z)) (hv : zlsh a x y = v) (k : zEv d T mc ms Q (pc + n) ls (zJ v :: st) h c s) : zEv d T mc ms Q pc ls (zI y :: zJ x :: st) h c s := zEv.step ho ⟨y, x, st, rfl, by rw [hv]; exact k⟩
theorem z_i2l {x : Int32} {v : Int64} (ho : T.lookup pc = some (13, n, 0, b, ix, w, z)) (hv : x.toInt64 = v) (k : zEv d T mc ms Q (pc + n) ls (zJ v :: st) h c s) : zEv d T mc ms Q pc ls (zI x :: st) h c s := zEv.step ho ⟨x, st, rfl, by rw [hv]; exact k⟩
theorem z_l2i {x : Int64} {v : Int32} (ho : T.lookup pc = some (13, n, 1, b, ix, w, z)) (hv : x.toInt32 = v) (k : zEv d T mc ms Q (pc + n) ls (zI v :: st) h c s) : zEv d T mc ms Q pc ls (zJ x :: st) h c s := zEv.step ho ⟨x, st, rfl, by rw [hv]; exact k⟩
theorem z_i2b {x v : Int32} (ho : T.lookup pc = some (13, n, 2, b, ix, w, z)) (hv : x.toInt8.toInt32 = v) (k : zEv d T mc ms Q (pc + n) ls (zI v :: st) h c s) : zEv d T mc ms Q pc ls (zI x :: st) h c s := zEv.step ho ⟨x, st, rfl, by rw [hv]; exact k⟩
theorem z_if {x : Int32} (ho : T.lookup pc = some (14, n, a, b, ix, w, z)) (k1 : zcnd a x 0 → zEv d T mc ms Q b ls st h c s) (k2 : ¬ zcnd a x 0 → zEv d T mc ms Q (pc + n) ls st h c s) : zEv d T mc ms Q pc ls (zI x :: st) h c s := zEv.step ho ⟨x, st, rfl, k1, k2⟩
theorem z_cmp {x y : Int32} (ho : T.lookup pc = some (15, n, a, b, ix, w, z)) (k1 : zcnd a x y → zEv d T mc ms Q b ls st h c s) (k2 : ¬ zcnd a x y → zEv d T mc ms Q (pc + n) ls st h c s) : zEv d T mc ms Q pc ls (zI y :: zI x :: st) h c s := zEv.step ho ⟨y, x, st, rfl, k1, k2⟩
theorem z_go (ho : T.lookup pc = some (16, n, a, b, ix, w, z)) (k : zEv d T mc ms Q b ls st h c s) : zEv d T mc ms Q pc ls st h c s := zEv.step ho k
theorem z_nl {p : Option Nat} (ho : T.lookup pc = some (17, n, a, b, ix, w, z)) (k1 : p = none → zEv d T mc ms Q b ls st h c s) (k2 : ¬ p = none → zEv d T mc ms Q (pc + n) ls st h c s) : zEv d T mc ms Q pc ls (zR p :: st) h c s := zEv.step ho ⟨p, st, rfl, k1, k2⟩
theorem z_nn {p : Option Nat} (ho : T.lookup pc = some (18, n, a, b, ix, w, z)) (k1 : ¬ p = none → zEv d T mc ms Q b ls st h c s) (k2 : p = none → zEv d T mc ms Q (pc + n) ls st h c s) : zEv d T mc ms Q pc ls (zR p :: st) h c s := zEv.step ho ⟨p, st, rfl, k1, k2⟩
theorem z_nlZ (ho : T.lookup pc = some (17, n, a, b, ix, w, z)) (k1 : zEv d T mc ms Q b ls st h c s) : zEv d T mc ms Q pc ls (zR none :: st) h c s := zEv.step ho ⟨none, st, rfl, fun _ => k1, fun e => absurd rfl e⟩
theorem z_nlP {p : Nat} (ho : T.lookup pc = some (17, n, a, b, ix, w, z)) (k2 : zEv d T mc ms Q (pc + n) ls st h c s) : zEv d T mc ms Q pc ls (zR (some p) :: st) h c s := zEv.step ho ⟨some p, st, rfl, nofun, fun _ => k2⟩
theorem z_nnP {p : Nat} (ho : T.lookup pc = some (18, n, a, b, ix, w, z)) (k1 : zEv d T mc ms Q b ls st h c s) : zEv d T mc ms Q pc ls (zR (some p) :: st) h c s := zEv.step ho ⟨some p, st, rfl, fun _ => k1, nofun⟩
theorem z_nnZ (ho : T.lookup pc = some (18, n, a, b, ix, w, z)) (k2 : zEv d T mc ms Q (pc + n) ls st h c s) : zEv d T mc ms Q pc ls (zR none :: st) h c s := zEv.step ho ⟨none, st, rfl, fun e => absurd rfl e, fun _ => k2⟩
theorem z_lcm {x y : Int64} {v : Int32} (ho : T.lookup pc = some (19, n, a, b, ix, w, z)) (hv : lg_cmp x y = v) (k : zEv d T mc ms Q (pc + n) ls (zI v :: st) h c s) : zEv d T mc ms Q pc ls (zJ y :: zJ x :: st) h c s := zEv.step ho ⟨y, x, st, rfl, by rw [hv]; exact k⟩
theorem z_dup {v : zV} (ho : T.lookup pc = some (20, n, a, b, ix, w, z)) (hv : zcat v = 1) (k : zEv d T mc ms Q (pc + n) ls (v :: v :: st) h c s) : zEv d T mc ms Q pc ls (v :: st) h c s := zEv.step ho ⟨v, st, rfl, hv, k⟩
theorem z_dup2 {v u : zV} (ho : T.lookup pc = some (21, n, a, b, ix, w, z)) (hv : zcat v = 1) (hu : zcat u = 1) (k : zEv d T mc ms Q (pc + n) ls (v :: u :: v :: u :: st) h c s) : zEv d T mc ms Q pc ls (v :: u :: st) h c s := zEv.step ho ⟨v, u, st, rfl, hv, hu, k⟩
theorem z_pop {v : zV} (ho : T.lookup pc = some (22, n, a, b, ix, w, z)) (hv : zcat v = 1) (k : zEv d T mc ms Q (pc + n) ls st h c s) : zEv d T mc ms Q pc ls (v :: st) h c s := zEv.step ho ⟨v, st, rfl, hv, k⟩
theorem z_get {p : Nat} {fs : List zV} {v : zV} (ho : T.lookup pc = some (23, n, a, b, ix, w, z)) (hp : h p = some (zO a fs)) (hv : fs[b]? = some v) (k : zEv d T mc ms Q (pc + n) ls (v :: st) h c s) : zEv d T mc ms Q pc ls (zR (some p) :: st) h c s := zEv.step ho ⟨p, st, fs, v, rfl, hp, hv, k⟩
theorem z_put {p : Nat} {fs : List zV} {v : zV} {e : zE} (ho : T.lookup pc = some (24, n, a, b, ix, w, z)) (hp : h p = some (zO a fs)) (hb : b < fs.length) (hz : zfit z v) (he : zO a (fs.set b v) = e) (k : ∀ h', h' p = some e → (∀ y, y ≠ p → h' y = h y) → zEv d T mc ms Q (pc + n) ls st h' c s) : zEv d T mc ms Q pc ls (v :: zR (some p) :: st) h c s := zEv.step ho ⟨v, p, st, fs, rfl, hp, hb, hz, k _ (by rw [he]; exact zup_s _ _ _) (fun y hy => zup_n _ _ hy)⟩
theorem z_iald {p i m : Nat} {f : Nat → Int32} (ho : T.lookup pc = some (25, n, a, b, ix, w, z)) (hp : h p = some (zaI a m f)) (hi : i < m) (hm : m < 2 ^ 31) (k : zEv d T mc ms Q (pc + n) ls (zI (f i) :: st) h c s) : zEv d T mc ms Q pc ls (zI (nI i) :: zR (some p) :: st) h c s := zEv.step ho ⟨nI i, p, st, m, f, rfl, hp, vp_in_nI hi hm, by rw [nI_clamp (by omega)]; exact k⟩
theorem z_iast {p i m : Nat} {f : Nat → Int32} {x x' : Int32} (ho : T.lookup pc = some (26, n, a, b, ix, w, z)) (hp : h p = some (zaI a m f)) (hi : i < m) (hm : m < 2 ^ 31) (hx : znar a x = x') (k : ∀ h', h' p = some (zaI a m (upd f i x')) → (∀ y, y ≠ p → h' y = h y) → zEv d T mc ms Q (pc + n) ls st h' c s) : zEv d T mc ms Q pc ls (zI x :: zI (nI i) :: zR (some p) :: st) h c s := zEv.step ho ⟨x, nI i, p, st, m, f, rfl, hp, vp_in_nI hi hm, k _ (by rw [hx, nI_clamp (by omega)]; exact zup_s _ _ _) (fun y hy => zup_n _ _ hy)⟩
theorem z_lald {p i m : Nat} {f : Nat → Int64} (ho : T.lookup pc = some (27, n, a, b, ix, w, z)) (hp : h p = some (zaJ m f)) (hi : i < m) (hm : m < 2 ^ 31) (k : zEv d T mc ms Q (pc + n) ls (zJ (f i) :: st) h c s) : zEv d T mc ms Q pc ls (zI (nI i) :: zR (some p) :: st) h c s := zEv.step ho ⟨nI i, p, st, m, f, rfl, hp, vp_in_nI hi hm, by rw [nI_clamp (by omega)]; exact k⟩
theorem z_last {p i m : Nat} {f : Nat → Int64} {x : Int64} (ho : T.lookup pc = some (28, n, a, b, ix, w, z)) (hp : h p = some (zaJ m f)) (hi : i < m) (hm : m < 2 ^ 31) (k : ∀ h', h' p = some (zaJ m (vp_updL f i x)) → (∀ y, y ≠ p → h' y = h y) → zEv d T mc ms Q (pc + n) ls st h' c s) : zEv d T mc ms Q pc ls (zJ x :: zI (nI i) :: zR (some p) :: st) h c s := zEv.step ho ⟨x, nI i, p, st, m, f, rfl, hp, vp_in_nI hi hm, k _ (by rw [nI_clamp (by omega)]; exact zup_s _ _ _) (fun y hy => zup_n _ _ hy)⟩
theorem z_aald {p i m : Nat} {f : Nat → Option Nat} (ho : T.lookup pc = some (29, n, a, b, ix, w, z)) (hp : h p = some (zaR a m f)) (hi : i < m) (hm : m < 2 ^ 31) (k : zEv d T mc ms Q (pc + n) ls (zR (f i) :: st) h c s) : zEv d T mc ms Q pc ls (zI (nI i) :: zR (some p) :: st) h c s := zEv.step ho ⟨nI i, p, st, m, f, rfl, hp, vp_in_nI hi hm, by rw [nI_clamp (by omega)]; exact k⟩
theorem z_aast {p i m : Nat} {f : Nat → Option Nat} {v : Option Nat} (ho : T.lookup pc = some (30, n, a, b, ix, w, z)) (hp : h p = some (zaR a m f)) (hi : i < m) (hm : m < 2 ^ 31) (hq : ∀ q, v = some q → ∃ fs, h q = some (zO b fs)) (k : ∀ h', h' p = some (zaR a m (va_up f i v)) → (∀ y, y ≠ p → h' y = h y) → zEv d T mc ms Q (pc + n) ls st h' c s) : zEv d T mc ms Q pc ls (zR v :: zI (nI i) :: zR (some p) :: st) h c s := zEv.step ho ⟨v, nI i, p, st, m, f, rfl, hp, vp_in_nI hi hm, hq, k _ (by rw [nI_clamp (by omega)]; exact zup_s _ _ _) (fun y hy => zup_n _ _ hy)⟩
theorem z_len {p m : Nat} (ho : T.lookup pc = some (31, n, a, b, ix, w, z)) (hp : zlen (h p) = some m) (k : zEv d T mc ms Q (pc + n) ls (zI (nI m) :: st) h c s) : zEv d T mc ms Q pc ls (zR (some p) :: st) h c s := zEv.step ho ⟨p, st, m, rfl, hp, k⟩
theorem z_new (ho : T.lookup pc = some (32, n, a, b, ix, w, z)) (hc : c + 1 ≤ mc) (hs : s + b ≤ ms) (k : ∀ q h', h q = none → h' q = some (zO a (zdf a b)) → (∀ y, y ≠ q → h' y = h y) → zEv d T mc ms Q (pc + n) ls (zR (some q) :: st) h' (c + 1) (s + b)) : zEv d T mc ms Q pc ls st h c s := zEv.step ho ⟨hc, hs, fun q hq => k q _ hq (zup_s _ _ _) (fun y hy => zup_n _ _ hy)⟩
theorem z_newI {i : Nat} {e : zE} (ho : T.lookup pc = some (33, n, a, b, ix, w, z)) (hi : i ≤ 100000) (hc : c + 1 ≤ mc) (hs : s + i ≤ ms) (he : znew a i = e) (k : ∀ q h', h q = none → h' q = some e → (∀ y, y ≠ q → h' y = h y) → zEv d T mc ms Q (pc + n) ls (zR (some q) :: st) h' (c + 1) (s + i)) : zEv d T mc ms Q pc ls (zI (nI i) :: st) h c s := by
  have e0 : (nI i).toNatClampNeg = i := nI_clamp (by omega)
  subst he
  refine zEv.step ho ⟨nI i, st, rfl, nI_pos (by omega), by rw [e0]; exact hi, hc, by rw [e0]; exact hs, fun q hq => ?_⟩
  rw [e0]
  exact k q _ hq (zup_s _ _ _) (fun y hy => zup_n _ _ hy)
theorem z_newR {i : Nat} (ho : T.lookup pc = some (34, n, a, b, ix, w, z)) (hi : i ≤ 100000) (hc : c + 1 ≤ mc) (hs : s + i ≤ ms) (k : ∀ q h', h q = none → h' q = some (zaR a i (fun _ => none)) → (∀ y, y ≠ q → h' y = h y) → zEv d T mc ms Q (pc + n) ls (zR (some q) :: st) h' (c + 1) (s + i)) : zEv d T mc ms Q pc ls (zI (nI i) :: st) h c s := by
  have e0 : (nI i).toNatClampNeg = i := nI_clamp (by omega)
  refine zEv.step ho ⟨nI i, st, rfl, nI_pos (by omega), by rw [e0]; exact hi, hc, by rw [e0]; exact hs, fun q hq => ?_⟩
  rw [e0]
  exact k q _ hq (zup_s _ _ _) (fun y hy => zup_n _ _ hy)
theorem z_call {as r : List zV} {P : zQ} {mc' ms' : Nat} (ho : T.lookup pc = some (35, n, a, b, ix, w, z)) (hst : st = as.reverse ++ r) (hb : as.length = b) (hs : (r.map zcat).sum ≤ 8) (hcm : c + mc' ≤ mc) (hsm : s + ms' ≤ ms) (hr : zrcv (zK a) (zci a) as h) (hc : zCall d a as h mc' ms' P) (hP : ∀ h' e, ¬ P h' (.inr e)) (k : ∀ h' v, P h' (.inl v) → zEv d T mc ms Q (pc + n) ls (v.toList ++ r) h' (c + mc') (s + ms')) : zEv d T mc ms Q pc ls st h c s := by
  refine zEv.step ho ⟨as, r, mc', ms', hst, hb, hs, hcm, hsm, hr, ?_⟩
  refine zCall_mono d a as h mc' ms' _ _ (fun h' o e1 => ?_) hc
  rcases o with (_ | v) | e
  · exact k h' none e1
  · exact k h' (some v) e1
  · exact absurd e1 (hP h' e)
/-- a call that changes nothing and answers just v -/
abbrev zPure (d j : Nat) (as : List zV) (h : zH) (v : Option zV) : Prop := zCall d j as h 0 0 (fun h' o => h' = h ∧ o = .inl v)
theorem z_callF {as r : List zV} {v : Option zV} (ho : T.lookup pc = some (35, n, a, b, ix, w, z)) (hst : st = as.reverse ++ r) (hb : as.length = b) (hs : (r.map zcat).sum ≤ 8) (hcm : c ≤ mc) (hsm : s ≤ ms) (hr : zrcv (zK a) (zci a) as h) (hc : zPure d a as h v) (k : zEv d T mc ms Q (pc + n) ls (v.toList ++ r) h c s) : zEv d T mc ms Q pc ls st h c s := by
  refine z_call (mc' := 0) (ms' := 0) ho hst hb hs hcm hsm hr hc (fun h' e g => by cases g.2) ?_
  rintro h' w ⟨e1, e2⟩
  cases e2
  subst e1
  exact k
theorem z_ret {v : zV} (ho : T.lookup pc = some (36, n, a, b, ix, w, z)) (hv : zret a v) (k : Q h (.inl (some v))) : zEv d T mc ms Q pc ls [v] h c s := zEv.step ho ⟨v, rfl, hv, k⟩
theorem z_rtv (ho : T.lookup pc = some (37, n, a, b, ix, w, z)) (k : Q h (.inl none)) : zEv d T mc ms Q pc ls [] h c s := zEv.step ho ⟨rfl, k⟩
theorem z_thr (ho : T.lookup pc = some (38, n, a, b, ix, w, z)) (hc : c + 1 ≤ mc) (hs : s + 6 ≤ ms) (h8 : (st.map zcat).sum ≤ 8) (k : Q h (.inr a)) : zEv d T mc ms Q pc ls st h c s := zEv.step ho ⟨hc, hs, h8, k⟩
theorem z_sw {x : Int32} {t : Nat} (ho : T.lookup pc = some (39, n, a, b, ix, w, z)) (ht : zswt a b x = t) (k : zEv d T mc ms Q t ls st h c s) : zEv d T mc ms Q pc ls (zI x :: st) h c s := zEv.step ho ⟨x, st, rfl, by rw [ht]; exact k⟩
theorem z_oin {p : Nat} (ho : T.lookup pc = some (40, n, a, b, ix, w, z)) (h8 : (st.map zcat).sum ≤ 8) (k : zEv d T mc ms Q (pc + n) ls st h c s) : zEv d T mc ms Q pc ls (zR (some p) :: st) h c s := zEv.step ho ⟨p, st, rfl, h8, k⟩
theorem z_min {x y v : Int32} (ho : T.lookup pc = some (45, n, a, b, ix, w, z)) (h8 : (st.map zcat).sum ≤ 8) (hv : (if y < x then y else x) = v) (k : zEv d T mc ms Q (pc + n) ls (zI v :: st) h c s) : zEv d T mc ms Q pc ls (zI y :: zI x :: st) h c s := zEv.step ho ⟨y, x, st, rfl, h8, by rw [hv]; exact k⟩
theorem z_top {v v2 : zV} (e : v = v2) (k : zEv d T mc ms Q pc ls (v2 :: st) h c s) : zEv d T mc ms Q pc ls (v :: st) h c s := by subst e; exact k
theorem z_cmpN {x y : Nat} (hx : x < 2 ^ 31) (hy : y < 2 ^ 31) (ho : T.lookup pc = some (15, n, a, b, ix, w, z)) (k1 : ncnd a x y → zEv d T mc ms Q b ls st h c s) (k2 : ¬ ncnd a x y → zEv d T mc ms Q (pc + n) ls st h c s) : zEv d T mc ms Q pc ls (zI (nI y) :: zI (nI x) :: st) h c s := z_cmp ho (fun c => k1 ((zcnd_n hx hy).mp c)) (fun c => k2 (fun e => c ((zcnd_n hx hy).mpr e)))
theorem z_ifN {x : Nat} (hx : x < 2 ^ 31) (ho : T.lookup pc = some (14, n, a, b, ix, w, z)) (k1 : ncnd a x 0 → zEv d T mc ms Q b ls st h c s) (k2 : ¬ ncnd a x 0 → zEv d T mc ms Q (pc + n) ls st h c s) : zEv d T mc ms Q pc ls (zI (nI x) :: st) h c s := z_if ho (fun c => k1 ((zcnd_n (b := 0) hx (by decide)).mp c)) (fun c => k2 (fun e => c ((zcnd_n (b := 0) hx (by decide)).mpr e)))
theorem z_ifB0 {x : Bool} (ho : T.lookup pc = some (14, n, 0, b, ix, w, z)) (k1 : x = false → zEv d T mc ms Q b ls st h c s) (k2 : x = true → zEv d T mc ms Q (pc + n) ls st h c s) : zEv d T mc ms Q pc ls (zI (bI x) :: st) h c s := z_if ho (fun c => k1 (bI_0.mp c)) (fun c => k2 (by cases x with
  | true => rfl
  | false => exact absurd rfl c))
theorem z_ifB1 {x : Bool} (ho : T.lookup pc = some (14, n, 1, b, ix, w, z)) (k1 : x = true → zEv d T mc ms Q b ls st h c s) (k2 : x = false → zEv d T mc ms Q (pc + n) ls st h c s) : zEv d T mc ms Q pc ls (zI (bI x) :: st) h c s := z_if ho (fun c => k1 (by cases x with
  | true => rfl
  | false => exact absurd rfl c)) (fun c => k2 (by cases x with
  | false => rfl
  | true => exact absurd (fun e => by exact absurd e (by decide)) c))
theorem zCall.of {j : Nat} {as : List zV} {L : List (Option zV)} (hn : (zargs as).length ≤ zL j) (hT : ztb j = T) (hL : zent (zL j) as = L) (k : zEv d T mc ms Q 0 L [] h 0 0) : zCall (d + 1) j as h mc ms Q := ⟨hn, by rw [hT, hL]; exact k⟩
end
theorem zne {h : zH} {a b : Nat} {e e' : zE} (ha : h a = some e) (hb : h b = some e') (hn : e ≠ e') : a ≠ b := fun q => hn (by rw [q, hb] at ha; exact (Option.some.inj ha).symm)
theorem zn0 {h : zH} {a b : Nat} {e : zE} (ha : h a = some e) (hb : h b = none) : a ≠ b := fun q => by rw [q, hb] at ha; cases ha
