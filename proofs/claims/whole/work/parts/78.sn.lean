/-! The first choice without a clash is the reference's least good choice. -/
def vR (v o : Nat) : Prop := o < v ∨ (40 ≤ o ∧ o < 48)
def kpR (r : rA) (o : Nat) : Nat := if o < 40 then pkN r o else o - 40
/-- do two options clash -/
def clR (r : rA) (a b : Nat) : Bool := if a < 40 then (if b < 40 then exB r a b || exB r b a else hnB r a (b - 40)) else (if b < 40 then hnB r b (a - 40) else false)
def cSp (r : rA) (v : Nat) (C : Nat → Int64) : Prop := ∀ a, a < 48 → ∀ b, b < 64 → (tst (C a) b = true ↔ vR v a ∧ vR v b ∧ clR r a b = true)
/-- what is given by an option -/
def vlO (p o : Nat) : Int32 := if o = 40 + p then -1 else nI o
/-- what the rows of the versions always hold -/
def rV1 (r : rA) (v : Nat) : Prop := v ≤ 40 ∧ (∀ i, i < v → rowOK r i) ∧ (∀ i, i < v → ∃ pk, pk < 8 ∧ r 16 i = nI pk) ∧ (∀ i, i < 40 → ∃ m, m ≤ 5 ∧ r 14 i = nI m ∧ ∀ k, k < m → ∃ x, x < 8 ∧ r 13 (5 * i + k) = nI x) ∧ (∀ i, i < v → ∀ k, k < nM r i → ∀ j, j < nM r i → r 13 (5 * i + k) = r 13 (5 * i + j) → k = j)
def rV2 (r : rA) (v : Nat) : Prop := (∀ y, y < 208 → rqK r y) ∧ (∀ k, k < 8 → r 20 k = bI (w0 r k)) ∧ (∀ i, i < v → ∀ j, j < v → i ≠ j → r 16 i = r 16 j → ¬ ordV (rowV r i) (rowV r j) = 0) ∧ (∀ p, p < 8 → r 21 p = -1 ∨ ∃ i, i < v ∧ r 21 p = nI i)
theorem nI_i {a b : Nat} (ha : a < 2 ^ 31) (hb : b < 2 ^ 31) (h : nI a = nI b) : a = b := (nI_eq ha hb).mp h
theorem pk_at {r : rA} {v i : Nat} (h : rV1 r v) (hi : i < v) : pkN r i < 8 ∧ r 16 i = nI (pkN r i) := by
  obtain ⟨pk, a, b⟩ := h.2.2.1 i hi
  rw [pkN, b, nI_clamp (by omega)]
  exact ⟨a, rfl⟩
theorem nM_at {r : rA} {v i : Nat} (h : rV1 r v) (hi : i < 40) : nM r i ≤ 5 ∧ r 14 i = nI (nM r i) ∧ ∀ k, k < nM r i → ∃ x, x < 8 ∧ r 13 (5 * i + k) = nI x := by
  obtain ⟨m, a, b, c⟩ := h.2.2.2.1 i hi
  have e : nM r i = m := by rw [nM, b, nI_clamp (by omega)]
  rw [e]
  exact ⟨a, b, c⟩
/-! needs -/
theorem ndX_none {r : rA} {i p : Nat} : ∀ m, ndX r i p m = none ↔ ∀ k, k < m → ¬ r 13 (5 * i + k) = nI p
  | 0 => ⟨fun _ k hk => absurd hk (Nat.not_lt_zero _), fun _ => rfl⟩
  | m + 1 => by
    have ih := ndX_none (r := r) (i := i) (p := p) m
    rw [ndX]
    cases e : ndX r i p m with
    | none =>
      have ih := ih.mp e
      dsimp only
      by_cases c : r 13 (5 * i + m) = nI p
      · rw [if_pos c]
        exact ⟨nofun, fun h => absurd c (h m (by omega))⟩
      · rw [if_neg c]
        exact ⟨fun _ k hk => by
          by_cases q : k = m
          · rw [q]; exact c
          · exact ih k (by omega), fun _ => rfl⟩
    | some j =>
      dsimp only
      refine ⟨nofun, fun h => ?_⟩
      have := ih.mpr (fun k hk => h k (by omega))
      rw [e] at this
      cases this
theorem ndX_some {r : rA} {i p : Nat} : ∀ m j, ndX r i p m = some j → j < m ∧ r 13 (5 * i + j) = nI p
  | 0, j, h => by cases h
  | m + 1, j, h => by
    rw [ndX] at h
    cases e : ndX r i p m with
    | none =>
      rw [e] at h
      dsimp only at h
      by_cases c : r 13 (5 * i + m) = nI p
      · rw [if_pos c] at h
        cases h
        exact ⟨by omega, c⟩
      · rw [if_neg c] at h
        cases h
    | some j' =>
      rw [e] at h
      cases h
      have := ndX_some m j e
      exact ⟨by omega, this.2⟩
theorem aw_iff {r : rA} {i p : Nat} {x : Int32} : ∀ m, awF r i p x m = true ↔ ∀ k, k < m → r 13 (5 * i + k) = nI p → ¬ x = -1 ∧ ¬ r 28 (40 * (8 + 5 * i + k) + x.toNatClampNeg) = 0
  | 0 => ⟨fun _ k hk => absurd hk (Nat.not_lt_zero _), fun _ => rfl⟩
  | m + 1 => by
    rw [awF, Bool.and_eq_true, aw_iff m]
    constructor
    · rintro ⟨a, b⟩ k hk e
      by_cases q : k = m
      · subst q
        rw [if_pos e] at b
        by_cases c : x = -1
        · rw [if_pos c] at b; cases b
        · rw [if_neg c] at b
          exact ⟨c, by simpa using b⟩
      · exact a k (by omega) e
    · intro h
      refine ⟨fun k hk => h k (by omega), ?_⟩
      by_cases e : r 13 (5 * i + m) = nI p
      · obtain ⟨a, b⟩ := h m (by omega) e
        rw [if_pos e, if_neg a]
        simpa using b
      · rw [if_neg e]
theorem vf_28 {r : rA} {y i : Nat} (hi : i < 40) : vfR r 28 (40 * y + i) = bI (maF r y i) := by
  rw [vfR, rwr_s, show (40 * y + i) / 40 = y by omega, show (40 * y + i) % 40 = i by omega]
theorem vf_n {r : rA} {k : Nat} (h : k ≠ 28) : vfR r k = r k := by rw [vfR, rwr_n h]
theorem bI_n0 {b : Bool} : (¬ bI b = 0) ↔ b = true := by cases b <;> simp [bI]
/-- may x be given to package p beside version i -/
theorem alw_m1 {r : rA} {v i p : Nat} (h1 : rV1 r v) (hi : i < v) : awI (vfR r) (nI i) p (-1) = true ↔ hnB r i p = false := by
  have hv := h1.1
  rw [awI, if_neg (nI_ne1 (by omega)), nI_clamp (by omega), vf_n (by decide), aw_iff, vf_n (by decide)]
  show (∀ k, k < nM r i → _) ↔ _
  rw [hnB]
  cases e : ndX r i p (nM r i) with
  | none =>
    refine ⟨fun _ => rfl, fun _ k hk q => absurd q ((ndX_none _).mp e k hk)⟩
  | some j =>
    have := ndX_some _ _ e
    exact ⟨fun h => absurd rfl (h j this.1 this.2).1, fun h => by cases h⟩
theorem alw_v {r : rA} {v i j : Nat} (h1 : rV1 r v) (h2 : rV2 r v) (hi : i < v) (hj : j < v) : awI (vfR r) (nI i) (pkN r j) (nI j) = true ↔ exB r i j = false := by
  have hv := h1.1
  have hm := nM_at h1 (show i < 40 by omega)
  rw [awI, if_neg (nI_ne1 (by omega)), nI_clamp (by omega), vf_n (by decide), aw_iff, vf_n (by decide), nI_clamp (by omega)]
  show (∀ k, k < nM r i → _) ↔ _
  rw [exB]
  have key : ∀ k, k < nM r i → ((¬ vfR r 28 (40 * (8 + 5 * i + k) + j) = 0) ↔ imF (qR r (8 + 5 * i + k)) (rowV r j) = true) := fun k hk => by
    rw [vf_28 (by omega), bI_n0, ma_eq (h1.2.1 j hj).1 (h2.1 _ (by omega))]
  cases e : ndX r i (pkN r j) (nM r i) with
  | none =>
    exact ⟨fun _ => rfl, fun _ k hk q => absurd q ((ndX_none _).mp e k hk)⟩
  | some x =>
    have := ndX_some _ _ e
    dsimp only
    constructor
    · intro h
      rw [(key x this.1).mp (h x this.1 this.2).2]
      rfl
    · intro h k hk q
      have hx : k = x := h1.2.2.2.2 i hi k hk x this.1 (q.trans this.2.symm)
      subst hx
      exact ⟨nI_ne1 (by omega), (key k hk).mpr (by simpa using h)⟩
theorem gw_iff {r : rA} {g : Nat → Int32} {p : Nat} : ∀ m, gwF r g p m = true ↔ g0F r p (g p) = true ∧ ∀ k, k < m → awI r (g k) p (g p) = true ∧ awI r (g p) k (g k) = true
  | 0 => ⟨fun h => ⟨h, fun k hk => absurd hk (Nat.not_lt_zero _)⟩, fun h => h.1⟩
  | m + 1 => by
    rw [gwF, Bool.and_eq_true, Bool.and_eq_true, gw_iff m]
    constructor
    · rintro ⟨⟨a, b⟩, c⟩
      exact ⟨a, fun k hk => by
        by_cases q : k = m
        · rw [q]; exact c
        · exact b k (by omega)⟩
    · rintro ⟨a, b⟩
      exact ⟨⟨a, fun k hk => b k (by omega)⟩, b m (by omega)⟩
theorem gwA_iff {r : rA} {g : Nat → Int32} : (∀ k, k < 8 → gwF r g k (k + 1) = true) ↔ (∀ p, p < 8 → g0F r p (g p) = true) ∧ ∀ p, p < 8 → ∀ q, q < 8 → awI r (g q) p (g p) = true := by
  constructor
  · intro h
    refine ⟨fun p hp => ((gw_iff _).mp (h p hp)).1, fun p hp q hq => ?_⟩
    by_cases e : q ≤ p
    · exact (((gw_iff _).mp (h p hp)).2 q (by omega)).1
    · exact (((gw_iff _).mp (h q hq)).2 p (by omega)).2
  · rintro ⟨a, b⟩ k hk
    exact (gw_iff _).mpr ⟨a k hk, fun j hj => ⟨b k hk j (by omega), b j (by omega) k hk⟩⟩
/-! options and what is given -/
/-- o is an option that package p may have, as far as root and yanking go -/
def eoK (r : rA) (v p o : Nat) : Prop := (o = 40 + p ∧ r 20 p = 0) ∨ (o < v ∧ elg r p o = true)
theorem w0_f {r : rA} {p : Nat} : w0 r p = false ↔ r 20 p = 0 := by simp [w0]
theorem w0_t {r : rA} {p : Nat} : w0 r p = true ↔ ¬ r 20 p = 0 := by simp [w0]
/-- from a choice: what each package may have, and that the root's requirement is met -/
theorem ch_in {r : rA} {v : Nat} {c : Nat → Nat} (h1 : rV1 r v) (h2 : rV2 r v) (h : chs (kpR r) (opB r v) c) {p : Nat} (hp : p < 8) : eoK r v p (c p) ∧ g0F (vfR r) p (vlO p (c p)) = true := by
  have hv := h1.1
  obtain ⟨a, b, t⟩ := h p hp
  rcases (opB_iff (by omega) v hv).mp t with ⟨q1, q2⟩ | ⟨q, q1, q2, q3⟩
  · rw [kpR, if_pos (by omega)] at b
    have k := pk_at h1 q1
    rw [opC, b, Bool.and_eq_true, Bool.or_eq_true, decide_eq_true_eq, decide_eq_true_eq, Bool.or_eq_true] at q2
    rw [b] at k
    refine ⟨Or.inr ⟨q1, elg_iff.mpr ⟨k.2, q2.1⟩⟩, ?_⟩
    rw [vlO, if_neg (by omega), g0F, vf_n (by decide)]
    by_cases e : r 20 p = 0
    · rw [if_pos e]
    · rw [if_neg e, nI_clamp (by omega), vf_28 (by omega), ma_eq (h1.2.1 _ q1).1 (h2.1 p (by omega))]
      rcases q2.2 with z | z
      · rw [w0_t.mpr e] at z; cases z
      · rw [z]; decide +kernel
  · rw [kpR, if_neg (by omega)] at b
    have e : q = p := by omega
    subst e
    refine ⟨Or.inl ⟨q2, w0_f.mp q3⟩, ?_⟩
    rw [g0F, vf_n (by decide), if_pos (w0_f.mp q3)]
theorem ch_of {r : rA} {v : Nat} {c : Nat → Nat} (h1 : rV1 r v) (h2 : rV2 r v) (h : ∀ p, p < 8 → eoK r v p (c p) ∧ g0F (vfR r) p (vlO p (c p)) = true) : chs (kpR r) (opB r v) c := by
  intro p hp
  have hv := h1.1
  obtain ⟨a, b⟩ := h p hp
  rcases a with ⟨a1, a2⟩ | ⟨a1, a2⟩
  · refine ⟨by omega, by rw [kpR, if_neg (by omega)]; omega, (opB_iff (by omega) v hv).mpr (Or.inr ⟨p, hp, a1, w0_f.mpr a2⟩)⟩
  · obtain ⟨e1, e2⟩ := elg_iff.mp a2
    have k : pkN r (c p) = p := by rw [pkN, e1, nI_clamp (by omega)]
    refine ⟨by omega, by rw [kpR, if_pos (by omega)]; exact k, (opB_iff (by omega) v hv).mpr (Or.inl ⟨a1, ?_⟩)⟩
    rw [opC, k, Bool.and_eq_true, Bool.or_eq_true, decide_eq_true_eq, decide_eq_true_eq, Bool.or_eq_true]
    refine ⟨e2, ?_⟩
    rw [vlO, if_neg (by omega), g0F, vf_n (by decide)] at b
    by_cases e : r 20 p = 0
    · exact Or.inl (by rw [w0_f.mpr e]; rfl)
    · rw [if_neg e, nI_clamp (by omega), vf_28 (by omega), ma_eq (h1.2.1 _ a1).1 (h2.1 p (by omega))] at b
      refine Or.inr ?_
      have b : ¬ bI (imF (qR r p) (rowV r (c p))) = 0 := by simpa using b
      exact bI_n0.mp b
theorem eo_vR {r : rA} {v p o : Nat} (hp : p < 8) (h : eoK r v p o) : vR v o := by
  rcases h with ⟨a, _⟩ | ⟨a, _⟩
  · exact Or.inr (by omega)
  · exact Or.inl a
theorem eo_pk {r : rA} {v p o : Nat} (hp : p < 8) (h : eoK r v p o) (ho : o < 40) : o < v ∧ pkN r o = p := by
  rcases h with ⟨a, _⟩ | ⟨a, b⟩
  · omega
  · exact ⟨a, by rw [pkN, (elg_iff.mp b).1, nI_clamp (by omega)]⟩
/-- no clash of two options: each allows the other -/
theorem cl_aw {r : rA} {v p q o u : Nat} (h1 : rV1 r v) (h2 : rV2 r v) (hp : p < 8) (hq : q < 8) (ho : eoK r v p o) (hu : eoK r v q u) : clR r o u = false ↔ awI (vfR r) (vlO p o) q (vlO q u) = true ∧ awI (vfR r) (vlO q u) p (vlO p o) = true := by
  have hv := h1.1
  have m1 : ∀ x y : Nat → Nat, True := fun _ _ => trivial
  have am : ∀ (k : Nat) (y : Int32), awI (vfR r) (-1) k y = true := fun k y => by rw [awI, if_pos rfl]
  by_cases eo : o < 40
  · have ko := eo_pk hp ho eo
    rw [clR, if_pos eo, show vlO p o = nI o by rw [vlO, if_neg (by omega)]]
    by_cases eu : u < 40
    · have ku := eo_pk hq hu eu
      rw [if_pos eu, show vlO q u = nI u by rw [vlO, if_neg (by omega)], Bool.or_eq_false_iff]
      have a := alw_v h1 h2 ko.1 ku.1
      have b := alw_v h1 h2 ku.1 ko.1
      rw [ku.2] at a
      rw [ko.2] at b
      rw [a, b]
    · have e : u = 40 + q := by
        rcases hu with z | z
        · exact z.1
        · omega
      subst e
      rw [if_neg eu, show vlO q (40 + q) = -1 by rw [vlO, if_pos rfl], alw_m1 h1 ko.1, show 40 + q - 40 = q by omega]
      exact ⟨fun h => ⟨h, am _ _⟩, fun h => h.1⟩
  · have e : o = 40 + p := by
      rcases ho with z | z
      · exact z.1
      · omega
    subst e
    rw [clR, if_neg eo, show vlO p (40 + p) = -1 by rw [vlO, if_pos rfl]]
    by_cases eu : u < 40
    · have ku := eo_pk hq hu eu
      rw [if_pos eu, show vlO q u = nI u by rw [vlO, if_neg (by omega)], alw_m1 h1 ku.1, show 40 + p - 40 = p by omega]
      exact ⟨fun h => ⟨am _ _, h⟩, fun h => h.2⟩
    · have e : u = 40 + q := by
        rcases hu with z | z
        · exact z.1
        · omega
      subst e
      rw [if_neg eu, show vlO q (40 + q) = -1 by rw [vlO, if_pos rfl]]
      exact ⟨fun _ => ⟨am _ _, am _ _⟩, fun _ => rfl⟩
/-- choices without a clash are those that go together -/
theorem ncl_iff {r : rA} {v : Nat} {C : Nat → Int64} {c : Nat → Nat} (h1 : rV1 r v) (h2 : rV2 r v) (hC : cSp r v C) (h : ∀ p, p < 8 → eoK r v p (c p)) : ncl C c ↔ ∀ p, p < 8 → ∀ q, q < 8 → awI (vfR r) (vlO q (c q)) p (vlO p (c p)) = true := by
  have hv := h1.1
  have lt : ∀ p, p < 8 → c p < 48 := fun p hp => by rcases h p hp with z | z <;> omega
  have one : ∀ p, p < 8 → ∀ q, q < 8 → (tst (C (c p)) (c q) = false ↔ clR r (c p) (c q) = false) := fun p hp q hq => by
    have a := hC (c p) (lt p hp) (c q) (by have := lt q hq; omega)
    have v1 := eo_vR hp (h p hp)
    have v2 := eo_vR hq (h q hq)
    constructor
    · intro z
      cases e : clR r (c p) (c q) with
      | false => rfl
      | true => rw [a.mpr ⟨v1, v2, e⟩] at z; cases z
    · intro z
      cases e : tst (C (c p)) (c q) with
      | false => rfl
      | true => rw [(a.mp e).2.2] at z; cases z
  constructor
  · intro n p hp q hq
    exact ((cl_aw h1 h2 hp hq (h p hp) (h q hq)).mp ((one p hp q hq).mp (n p hp q hq))).2
  · intro n p hp q hq
    exact (one p hp q hq).mpr ((cl_aw h1 h2 hp hq (h p hp) (h q hq)).mpr ⟨n q hq p hp, n p hp q hq⟩)
