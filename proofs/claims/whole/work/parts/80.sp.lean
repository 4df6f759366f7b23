/-! What is reached; the first choice is the least good one. -/
theorem ndB_iff {r : rA} {i : Nat} {R : Nat → Bool} {x : Nat} : ∀ m, ndB r i R m x = true ↔ R x = true ∨ ∃ k, k < m ∧ r 13 (5 * i + k) = nI x
  | 0 => ⟨fun h => Or.inl h, fun h => h.elim id (fun ⟨k, a, _⟩ => absurd a (Nat.not_lt_zero _))⟩
  | m + 1 => by
    show (ndB r i R m x || decide (r 13 (5 * i + m) = nI x)) = true ↔ _
    rw [Bool.or_eq_true, ndB_iff m, decide_eq_true_eq]
    constructor
    · rintro ((a | ⟨k, a, b⟩) | a)
      · exact Or.inl a
      · exact Or.inr ⟨k, by omega, b⟩
      · exact Or.inr ⟨m, by omega, a⟩
    · rintro (a | ⟨k, a, b⟩)
      · exact Or.inl (Or.inl a)
      · by_cases q : k = m
        · subst q; exact Or.inr b
        · exact Or.inl (Or.inr ⟨k, by omega, b⟩)
theorem rp_s {r : rA} {g : Nat → Int32} {R : Nat → Bool} {p x : Nat} (h : rpB r g R p x = true) : rpB r g R (p + 1) x = true := by
  rw [rpB]
  split
  · exact h
  · split
    · exact (ndB_iff _).mpr (Or.inl h)
    · exact h
theorem rp_m {r : rA} {g : Nat → Int32} {R : Nat → Bool} {p x : Nat} (h : rpB r g R p x = true) : ∀ k, rpB r g R (p + k) x = true
  | 0 => h
  | k + 1 => rp_s (rp_m h k)
theorem rp_0 {r : rA} {g : Nat → Int32} {R : Nat → Bool} {x : Nat} (h : R x = true) (p : Nat) : rpB r g R p x = true := by
  have := rp_m (r := r) (g := g) (R := R) (p := 0) (x := x) h p
  rwa [Nat.zero_add] at this
/-- closed under needs -/
def clN (r : rA) (g : Nat → Int32) (S : Nat → Bool) : Prop := ∀ p, p < 8 → ¬ g p = -1 → S p = true → ∀ x, x < 8 → (∃ k, k < nM r (g p).toNatClampNeg ∧ r 13 (5 * (g p).toNatClampNeg + k) = nI x) → S x = true
theorem rp_cl {r : rA} {g : Nat → Int32} {S : Nat → Bool} (h : clN r g S) : ∀ p, p ≤ 8 → ∀ x, x < 8 → rpB r g S p x = S x
  | 0, _, _, _ => rfl
  | p + 1, hp, x, hx => by
    have ih := rp_cl h p (by omega)
    rw [rpB]
    split
    · exact ih x hx
    · rename_i c
      split
      · rename_i d
        rw [ih p (by omega)] at d
        cases e : S x with
        | true => exact (ndB_iff _).mpr (Or.inl ((ih x hx).trans e))
        | false =>
          cases e2 : ndB r (g p).toNatClampNeg (rpB r g S p) (r 14 (g p).toNatClampNeg).toNatClampNeg x with
          | false => rfl
          | true =>
            rcases (ndB_iff _).mp e2 with z | z
            · rw [ih x hx, e] at z; cases z
            · rw [h p (by omega) c d x hx z] at e; cases e
      · exact ih x hx
def ctB (R : Nat → Bool) : Nat → Nat
  | 0 => 0
  | n + 1 => ctB R n + (if R n = true then 1 else 0)
theorem ct_le {R S : Nat → Bool} : ∀ n, (∀ x, x < n → R x = true → S x = true) → ctB R n ≤ ctB S n
  | 0, _ => Nat.le_refl _
  | n + 1, h => by
    have := ct_le n (fun x hx => h x (by omega))
    rw [ctB, ctB]
    by_cases c : R n = true
    · rw [if_pos c, if_pos (h n (by omega) c)]; omega
    · rw [if_neg c]; split <;> omega
theorem ct_lt {R S : Nat → Bool} : ∀ n, (∀ x, x < n → R x = true → S x = true) → ∀ y, y < n → ¬ R y = true → S y = true → ctB R n + 1 ≤ ctB S n
  | 0, _, y, hy, _, _ => absurd hy (Nat.not_lt_zero _)
  | n + 1, h, y, hy, a, b => by
    rw [ctB, ctB]
    by_cases q : y = n
    · subst q
      have := ct_le y (fun x hx => h x (by omega))
      rw [if_neg a, if_pos b]; omega
    · have := ct_lt n (fun x hx => h x (by omega)) y (by omega) a b
      by_cases c : R n = true
      · rw [if_pos c, if_pos (h n (by omega) c)]; omega
      · rw [if_neg c]; split <;> omega
theorem ct_n {R : Nat → Bool} : ∀ n, ctB R n ≤ n
  | 0 => Nat.le_refl _
  | n + 1 => by
    have := ct_n (R := R) n
    rw [ctB]; split <;> omega
theorem ct_all {R : Nat → Bool} : ∀ n, n ≤ ctB R n → ∀ x, x < n → R x = true
  | 0, _, x, hx => absurd hx (Nat.not_lt_zero _)
  | n + 1, h, x, hx => by
    have l := ct_n (R := R) n
    rw [ctB] at h
    by_cases c : R n = true
    · rw [if_pos c] at h
      by_cases q : x = n
      · subst q; exact c
      · exact ct_all n (by omega) x (by omega)
    · rw [if_neg c] at h; omega
theorem rr_cl {r : rA} {g : Nat → Int32} : ∀ k, clN r g (rrB r g k) ∨ k ≤ ctB (rrB r g k) 8
  | 0 => Or.inr (Nat.zero_le _)
  | k + 1 => by
    show clN r g (rpB r g (rrB r g k) 8) ∨ _
    by_cases c : clN r g (rrB r g k)
    · refine Or.inl (fun p hp a b x hx z => ?_)
      rw [rp_cl c 8 (Nat.le_refl _) p hp] at b
      rw [rp_cl c 8 (Nat.le_refl _) x hx]
      exact c p hp a b x hx z
    · rcases rr_cl (r := r) (g := g) k with z | z
      · exact absurd z c
      · refine Or.inr ?_
        have : ∃ x, x < 8 ∧ ¬ rrB r g k x = true ∧ rpB r g (rrB r g k) 8 x = true := Classical.byContradiction (fun n => c (fun p hp a b x hx w => Classical.byContradiction (fun m => n ⟨x, hx, m, by
          have e : rpB r g (rrB r g k) (p + 1) x = true := by
            rw [rpB, if_neg a, if_pos (rp_0 b p)]
            exact (ndB_iff _).mpr (Or.inr w)
          have := rp_m e (8 - (p + 1))
          rwa [show p + 1 + (8 - (p + 1)) = 8 by omega] at this⟩)))
        obtain ⟨x, x1, x2, x3⟩ := this
        have := ct_lt (R := rrB r g k) (S := rpB r g (rrB r g k) 8) 8 (fun y _ hy => rp_0 hy 8) x x1 x2 x3
        show k + 1 ≤ ctB (rpB r g (rrB r g k) 8) 8
        omega
theorem rr_8 {r : rA} {g : Nat → Int32} : clN r g (rrB r g 8) := by
  rcases rr_cl (r := r) (g := g) 8 with h | h
  · exact h
  · exact fun p hp a b x hx z => ct_all 8 h x hx
theorem rr_w {r : rA} {g : Nat → Int32} {x : Nat} (h : w0 r x = true) : ∀ k, rrB r g k x = true
  | 0 => h
  | k + 1 => rp_0 (rr_w h k) 8
theorem rch_iff {r : rA} {g : Nat → Int32} : ∀ m, rch r g m = true ↔ ∀ p, p < m → g p = -1 ∨ rrB r g 8 p = true
  | 0 => ⟨fun _ k hk => absurd hk (Nat.not_lt_zero _), fun _ => rfl⟩
  | m + 1 => by
    rw [rch, Bool.and_eq_true, rch_iff m]
    constructor
    · rintro ⟨a, b⟩ p hp
      by_cases q : p = m
      · subst q
        by_cases c : g p = -1
        · exact Or.inl c
        · rw [if_neg c] at b; exact Or.inr b
      · exact a p (by omega)
    · intro h
      refine ⟨fun p hp => h p (by omega), ?_⟩
      by_cases c : g m = -1
      · rw [if_pos c]
      · rw [if_neg c]
        exact (h m (by omega)).resolve_left c
theorem vl_inj {r : rA} {v p o u : Nat} (hv : v ≤ 40) (ho : eoK r v p o) (hu : eoK r v p u) (h : vlO p o = vlO p u) : o = u := by
  rcases ho with ⟨a, _⟩ | ⟨a, _⟩
  · rcases hu with ⟨b, _⟩ | ⟨b, _⟩
    · omega
    · rw [vlO, vlO, if_pos a, if_neg (by omega)] at h
      exact absurd h.symm (nI_ne1 (by omega))
  · rcases hu with ⟨b, _⟩ | ⟨b, _⟩
    · rw [vlO, vlO, if_pos b, if_neg (by omega)] at h
      exact absurd h (nI_ne1 (by omega))
    · rw [vlO, vlO, if_neg (by omega), if_neg (by omega)] at h
      exact nI_i (by omega) (by omega) h
theorem eo_lt {r : rA} {v p o : Nat} (hv : v ≤ 40) (hp : p < 8) (h : eoK r v p o) : o < 48 := by
  rcases h with z | z <;> omega
section
variable {r : rA} {v : Nat} {C : Nat → Int64} {pin : Nat → Option Nat}
/-- a good choice of places is a choice without a clash -/
theorem gd_ch {t : Nat → Nat} (h1 : rV1 r v) (h2 : rV2 r v) (hC : cSp r v C) (h : gdR r v t) : ∃ c, chs (kpR r) (opB r v) c ∧ ncl C c ∧ ∀ p, p < 8 → opt r v p (t p) = vlO p (c p) ∧ eoK r v p (c p) := by
  obtain ⟨a, b, _⟩ := h
  have ex : ∀ p, ∃ o, p < 8 → eoK r v p o ∧ opt r v p (t p) = vlO p o := fun p => by
    by_cases q : p < 8
    · obtain ⟨o, x, y⟩ := opt_eo h1.1 (a p q)
      exact ⟨o, fun _ => ⟨x, y⟩⟩
    · exact ⟨0, fun z => absurd z q⟩
  obtain ⟨c, hc⟩ : ∃ c : Nat → Nat, ∀ p, p < 8 → eoK r v p (c p) ∧ opt r v p (t p) = vlO p (c p) := ⟨fun p => Classical.choose (ex p), fun p => Classical.choose_spec (ex p)⟩
  have eg : ∀ p, p < 8 → gvO (opt r v) t p = vlO p (c p) := fun p hp => (hc p hp).2
  obtain ⟨g0, g1⟩ := gwA_iff.mp b
  refine ⟨c, ch_of h1 h2 (fun p hp => ⟨(hc p hp).1, ?_⟩), (ncl_iff h1 h2 hC (fun p hp => (hc p hp).1)).mpr (fun p hp q hq => ?_), fun p hp => ⟨(hc p hp).2, (hc p hp).1⟩⟩
  · rw [← eg p hp]; exact g0 p hp
  · rw [← eg p hp, ← eg q hq]; exact g1 p hp q hq
theorem none_none (h1 : rV1 r v) (h2 : rV2 r v) (hC : cSp r v C) (h : ∀ c, chs (kpR r) (opB r v) c → ¬ ncl C c) : ∀ t, ¬ gdR r v t := fun t g => by
  obtain ⟨c, a, b, _⟩ := gd_ch h1 h2 hC g
  exact h c a b
/-- in the first choice all that have a version are reached -/
theorem fst_rch {c : Nat → Nat} (h1 : rV1 r v) (h2 : rV2 r v) (hC : cSp r v C) (hc : chs (kpR r) (opB r v) c) (hn : ncl C c) (hf : fiI r v C (kpR r) (opB r v) pin c 8) : rch (vfR r) (fun p => vlO p (c p)) 8 = true := by
  have hv := h1.1
  have he : ∀ p, p < 8 → eoK r v p (c p) ∧ g0F (vfR r) p (vlO p (c p)) = true := fun p hp => ch_in h1 h2 hc hp
  have ha := (ncl_iff h1 h2 hC (fun p hp => (he p hp).1)).mp hn
  have hcl : clN (vfR r) (fun p => vlO p (c p)) (rrB (vfR r) (fun p => vlO p (c p)) 8) := rr_8
  generalize hR : rrB (vfR r) (fun p => vlO p (c p)) 8 = R at hcl
  have hw : ∀ p, p < 8 → ¬ R p = true → r 20 p = 0 := fun p hp n => Classical.byContradiction (fun m => n (by
    rw [← hR]
    refine rr_w ?_ 8
    rw [w0, vf_n (by decide)]
    simpa using m))
  obtain ⟨c2, hc2⟩ : ∃ c2 : Nat → Nat, ∀ p, c2 p = if R p = true then c p else 40 + p := ⟨_, fun _ => rfl⟩
  have m1 : ∀ p, vlO p (40 + p) = -1 := fun p => by rw [vlO, if_pos rfl]
  have he2 : ∀ p, p < 8 → eoK r v p (c2 p) ∧ g0F (vfR r) p (vlO p (c2 p)) = true := fun p hp => by
    rw [hc2 p]
    by_cases q : R p = true
    · rw [if_pos q]; exact he p hp
    · rw [if_neg q]
      exact ⟨Or.inl ⟨rfl, hw p hp q⟩, by rw [g0F, vf_n (by decide), if_pos (hw p hp q)]⟩
  have k1 := ch_of h1 h2 he2
  have k2 : ncl C c2 := (ncl_iff h1 h2 hC (fun p hp => (he2 p hp).1)).mpr (fun p hp q hq => by
    rw [hc2 p, hc2 q]
    by_cases x : R q = true
    · rw [if_pos x]
      by_cases y : R p = true
      · rw [if_pos y]; exact ha p hp q hq
      · rw [if_neg y, m1]
        rcases (he q hq).1 with z | z
        · rw [z.1, m1, awI, if_pos rfl]
        · have ev : vlO q (c q) = nI (c q) := by rw [vlO, if_neg (by omega)]
          rw [ev, alw_m1 h1 z.1, hnB]
          cases e : ndX r (c q) p (nM r (c q)) with
          | none => rfl
          | some k =>
            have w := ndX_some _ _ e
            refine absurd (hcl q hq ?_ x p hp ⟨k, ?_⟩) y
            · show ¬ vlO q (c q) = -1
              rw [ev]; exact nI_ne1 (by omega)
            · show k < nM (vfR r) (vlO q (c q)).toNatClampNeg ∧ vfR r 13 (5 * (vlO q (c q)).toNatClampNeg + k) = nI p
              rw [ev, nI_clamp (by omega), vf_n (by decide), nM, vf_n (by decide)]
              exact w
    · rw [if_neg x, m1, awI, if_pos rfl])
  have all : ∀ q, q ≤ 8 → ∀ p, p < q → c2 p = c p := fun q => by
    induction q with
    | zero => exact fun _ p hp => absurd hp (Nat.not_lt_zero _)
    | succ q ih =>
      intro hq p hp
      have ih := ih (by omega)
      by_cases e : p = q
      · subst e
        by_cases x : R p = true
        · rw [hc2, if_pos x]
        · obtain ⟨y, y1, y2⟩ := hf p (by omega)
          have t := y2 c2 k1 k2 ih
          have e2 : c2 p = 40 + p := by rw [hc2, if_neg x]
          rw [e2] at t ⊢
          unfold fmO at y1
          rw [if_pos t] at y1
          exact Option.some.inj y1
      · exact ih p (by omega)
  refine (rch_iff 8).mpr (fun p hp => ?_)
  show vlO p (c p) = -1 ∨ _
  rw [hR]
  by_cases x : R p = true
  · exact Or.inr x
  · have := all 8 (Nat.le_refl _) p hp
    rw [hc2, if_neg x] at this
    rw [← this, m1]
    exact Or.inl rfl
/-- the first choice is the least good one -/
theorem fst_least {c : Nat → Nat} (h1 : rV1 r v) (h2 : rV2 r v) (hC : cSp r v C) (hpin : ∀ p, p < 8 → oI (pin p) = r 21 p) (hpn : ∀ p, p < 8 → ∀ q, pin p = some q → q < 40) (hc : chs (kpR r) (opB r v) c) (hn : ncl C c) (hf : fiI r v C (kpR r) (opB r v) pin c 8) : ∃ t, gdR r v t ∧ (∀ t', gdR r v t' → ¬ lxl 8 t' t) ∧ ∀ p, p < 8 → gvO (opt r v) t p = vlO p (c p) := by
  have hv := h1.1
  have he : ∀ p, p < 8 → eoK r v p (c p) ∧ g0F (vfR r) p (vlO p (c p)) = true := fun p hp => ch_in h1 h2 hc hp
  have ex : ∀ p, ∃ t, p < 8 → t < oln r v p ∧ opt r v p t = vlO p (c p) := fun p => by
    by_cases q : p < 8
    · obtain ⟨t, x, y⟩ := opt_ex hv (he p q).1
      exact ⟨t, fun _ => ⟨x, y⟩⟩
    · exact ⟨0, fun z => absurd z q⟩
  obtain ⟨t, ht⟩ : ∃ t : Nat → Nat, ∀ p, p < 8 → t p < oln r v p ∧ opt r v p (t p) = vlO p (c p) := ⟨fun p => Classical.choose (ex p), fun p => Classical.choose_spec (ex p)⟩
  have eg : ∀ p, p < 8 → gvO (opt r v) t p = vlO p (c p) := fun p hp => (ht p hp).2
  refine ⟨t, ⟨fun p hp => (ht p hp).1, gwA_iff.mpr ⟨fun p hp => ?_, fun p hp q hq => ?_⟩, ?_⟩, fun t' g => ?_, eg⟩
  · rw [eg p hp]; exact (he p hp).2
  · rw [eg p hp, eg q hq]
    exact (ncl_iff h1 h2 hC (fun p hp => (he p hp).1)).mp hn p hp q hq
  · rw [rch_g eg]; exact fst_rch h1 h2 hC hc hn hf
  · rintro ⟨j, hj, e, l⟩
    obtain ⟨c', k1, k2, k3⟩ := gd_ch h1 h2 hC g
    obtain ⟨y, y1, y2⟩ := hf j hj
    have ty := y2 c' k1 k2 (fun q hq => by
      have a := (k3 q (by omega)).1
      rw [e q hq, (ht q (by omega)).2] at a
      exact (vl_inj hv (he q (by omega)).1 (k3 q (by omega)).2 a).symm)
    have hb := opt_lt (p := j) hv (ly_srt hv h2.2.2.1 v (Nat.le_refl _)) l (ht j hj).1
    rw [(k3 j hj).1, (ht j hj).2] at hb
    exact fm_min hv (hpin j hj) (hpn j hj) y1 (he j hj).1 (k3 j hj).2 ty hb
theorem lx_tot {t t' : Nat → Nat} : ∀ n, (∀ k, k < n → t k = t' k) ∨ lxl n t t' ∨ lxl n t' t
  | 0 => Or.inl (fun k hk => absurd hk (Nat.not_lt_zero _))
  | n + 1 => by
    rcases lx_tot (t := t) (t' := t') n with h | ⟨j, a, b, d⟩ | ⟨j, a, b, d⟩
    · rcases Nat.lt_trichotomy (t n) (t' n) with l | l | l
      · exact Or.inr (Or.inl ⟨n, by omega, h, l⟩)
      · exact Or.inl (fun k hk => by
          by_cases q : k = n
          · rw [q]; exact l
          · exact h k (by omega))
      · exact Or.inr (Or.inr ⟨n, by omega, fun i hi => (h i hi).symm, l⟩)
    · exact Or.inr (Or.inl ⟨j, by omega, b, d⟩)
    · exact Or.inr (Or.inr ⟨j, by omega, b, d⟩)
/-- so what the reference chose is what the class chose -/
theorem same_choice {c : Nat → Nat} {t : Nat → Nat} (h1 : rV1 r v) (h2 : rV2 r v) (hC : cSp r v C) (hpin : ∀ p, p < 8 → oI (pin p) = r 21 p) (hpn : ∀ p, p < 8 → ∀ q, pin p = some q → q < 40) (hc : chs (kpR r) (opB r v) c) (hn : ncl C c) (hf : fiI r v C (kpR r) (opB r v) pin c 8) (ht : gdR r v t) (hl : ∀ t', gdR r v t' → ¬ lxl 8 t' t) : ∀ p, p < 8 → gvO (opt r v) t p = vlO p (c p) := by
  obtain ⟨u, u1, u2, u3⟩ := fst_least h1 h2 hC hpin hpn hc hn hf
  rcases lx_tot (t := t) (t' := u) 8 with h | h | h
  · intro p hp
    rw [← u3 p hp, gvO, gvO, h p hp]
  · exact absurd h (u2 t ht)
  · exact absurd h (hl u u1)
end
