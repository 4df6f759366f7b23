/-! What the class's heap stands for. K: where its own cells lie; A: where its releases lie. -/
def cT (h : zH) (K : Nat → Nat) (n : Nat) (r : rA) : Prop := ∃ tc, h (K 1) = some (zO 0 [zR (some (K 2)), zI (nI n)]) ∧ h (K 2) = some (zaI 0 160 tc) ∧ n ≤ 160 ∧ txR n (r 2) tc ∧ ∀ j, j < 160 → fits .byte (.int (tc j)) = true
def cF (h : zH) (K : Nat → Nat) (f : Nat) (r : rA) : Prop := ∃ fc, h (K 3) = some (zO 0 [zR (some (K 4)), zI (nI f)]) ∧ h (K 4) = some (zaI 0 216 fc) ∧ f ≤ 216 ∧ ∀ j, j < f → fc j = r 24 j
def cS (h : zH) (K : Nat → Nat) (v : Nat) (r : rA) : Prop := ∃ Kf O C T fo, h (K 7) = some (srO (K 5) (K 8) (K 9) (K 10) (K 11) fo) ∧ h (K 8) = some (zaI 1 48 Kf) ∧ h (K 9) = some (zaJ 8 O) ∧ h (K 10) = some (zaJ 48 C) ∧ h (K 11) = some (zaJ 8 T) ∧ srK Kf O (vR v) (kpR r) ∧ cSp r v C
def cR (h g : zH) (K : Nat → Nat) (r : rA) : Prop := ∃ fR, h (K 12) = some (zaR 5 8 fR) ∧ rtI g r fR
def cP (h : zH) (K : Nat → Nat) (r : rA) : Prop := ∃ fP, h (K 13) = some (zaI 1 8 fP) ∧ ∀ p, p < 8 → fP p = r 21 p
def cC (h : zH) (K : Nat → Nat) (r : rA) : Prop := ∃ fC, h (K 14) = some (zaI 1 8 fC) ∧ ∀ p, p < 8 → fC p = r 22 p
def cX (h g : zH) (K : Nat → Nat) : Prop := (∀ i, i < 15 → g (K i) = none) ∧ (∀ i j, i < 15 → j < 15 → K i = K j → i = j) ∧ h (K 0) = some (zO 9 [zR (some (K 1)), zR (some (K 3)), zR (some (K 5)), zR (some (K 7)), zR (some (K 12)), zR (some (K 13)), zR (some (K 14))])
def stC (h g : zH) (K A : Nat → Nat) (n v f : Nat) (r : rA) : Prop := cX h g K ∧ cT h K n r ∧ cF h K f r ∧ rgI h g r v (K 5) (K 6) A ∧ cS h K v r ∧ cR h g K r ∧ cP h K r ∧ cC h K r
/-- the class's own cells -/
def cM (K A : Nat → Nat) (v y : Nat) : Prop := (∃ i, i < 15 ∧ y = K i) ∨ ∃ i, i < v ∧ y = A i
/-- what else always holds of the reference's rows -/
def rV3 (r : rA) (v : Nat) : Prop := (∀ p, p < 8 → r 22 p = -1 ∨ ∃ i, i < v ∧ r 22 p = nI i ∧ r 16 i = nI p) ∧ (∀ i, i < v → ∃ y, r 17 i = bI y) ∧ r 10 40 = nI 0 ∧ (∀ i, i < v → ∃ m, m ≤ 24 ∧ r 18 i = nI m ∧ ∀ j, j < m → (r 19 (24 * i + j)).toInt8.toInt32 = r 19 (24 * i + j)) ∧ ∀ i, v ≤ i → i < 40 → r 14 i = nI 0
def rVs (r : rA) (v : Nat) : Prop := rV1 r v ∧ rV2 r v ∧ rV3 r v
/-- what a call of the class leaves -/
def poC (h g : zH) (K A : Nat → Nat) (v : Nat) (h' : zH) (n' v' f' : Nat) (r' : rA) : Prop := ∃ g' A', ext (cM K A v) g h g' h' ∧ stC h' g' K A' n' v' f' r' ∧ ∀ i, i < v' → (i < v → A' i = A i) ∧ (v ≤ i → h (A' i) = none)
section
variable {h h' g g' : zH} {K A : Nat → Nat} {n v f : Nat} {r r' : rA}
theorem Kne {i j : Nat} (hx : cX h g K) (hi : i < 15) (hj : j < 15) (hn : i ≠ j) : K i ≠ K j := fun e => hn (hx.2.1 i j hi hj e)
theorem cT_fr (k : cT h K n r) (e1 : h' (K 1) = h (K 1)) (e2 : h' (K 2) = h (K 2)) : cT h' K n r := by
  obtain ⟨tc, a, b, c⟩ := k
  exact ⟨tc, e1.trans a, e2.trans b, c⟩
theorem cF_fr (k : cF h K f r) (e1 : h' (K 3) = h (K 3)) (e2 : h' (K 4) = h (K 4)) : cF h' K f r := by
  obtain ⟨tc, a, b, c⟩ := k
  exact ⟨tc, e1.trans a, e2.trans b, c⟩
theorem cS_fr (k : cS h K v r) (e1 : h' (K 7) = h (K 7)) (e2 : h' (K 8) = h (K 8)) (e3 : h' (K 9) = h (K 9)) (e4 : h' (K 10) = h (K 10)) (e5 : h' (K 11) = h (K 11)) : cS h' K v r := by
  obtain ⟨Kf, O, C, T, fo, a1, a2, a3, a4, a5, c⟩ := k
  exact ⟨Kf, O, C, T, fo, e1.trans a1, e2.trans a2, e3.trans a3, e4.trans a4, e5.trans a5, c⟩
theorem rtI_mono {fR : Nat → Option Nat} (l : hle g g') (k : rtI g r fR) : rtI g' r fR := fun p hp => ⟨(k p hp).1, fun w => by
  obtain ⟨q, a, b⟩ := (k p hp).2 w
  exact ⟨q, a, rqAt_mono l b⟩⟩
theorem cR_fr (k : cR h g K r) (l : hle g g') (e1 : h' (K 12) = h (K 12)) : cR h' g' K r := by
  obtain ⟨fR, a, b⟩ := k
  exact ⟨fR, e1.trans a, rtI_mono l b⟩
theorem cP_fr (k : cP h K r) (e1 : h' (K 13) = h (K 13)) : cP h' K r := by
  obtain ⟨fP, a, b⟩ := k
  exact ⟨fP, e1.trans a, b⟩
theorem cC_fr (k : cC h K r) (e1 : h' (K 14) = h (K 14)) : cC h' K r := by
  obtain ⟨fP, a, b⟩ := k
  exact ⟨fP, e1.trans a, b⟩
theorem cX_fr (k : cX h g K) (hg : ∀ i, i < 15 → g' (K i) = none) (e1 : h' (K 0) = h (K 0)) : cX h' g' K := ⟨hg, k.2.1, e1.trans k.2.2⟩
theorem rg_ex {pg pl : Nat} (k : rgI h g r v pg pl A) (l : hle g g') (l' : hle g' h') (gA : ∀ i, i < v → g' (A i) = none) (e1 : h' pg = h pg) (e2 : h' pl = h pl) (e3 : ∀ i, i < v → h' (A i) = h (A i)) : rgI h' g' r v pg pl A := by
  obtain ⟨a, ⟨fl, b, c⟩, d, e, _⟩ := k
  refine ⟨e1.trans a, ⟨fl, e2.trans b, c⟩, d, fun i hi => ?_, l'⟩
  obtain ⟨pv, pw, pr, pd, pk, m, y, x1, x2, x3, x4, x5, x6⟩ := e i hi
  exact ⟨pv, pw, pr, pd, pk, m, y, (e3 i hi).trans x1, gA i hi, x3, x4, x5, relB_mono l x6⟩
theorem stC_gA (k : stC h g K A n v f r) {i : Nat} (hi : i < v) : g (A i) = none := by
  obtain ⟨_, _, _, ⟨_, _, _, e, _⟩, _⟩ := k
  obtain ⟨_, _, _, _, _, _, _, _, x, _⟩ := e i hi
  exact x
/-- what lies where -/
theorem stC_K (k : stC h g K A n v f r) {i : Nat} (hi : i < 15) : h (K i) ≠ none := by
  obtain ⟨⟨_, _, x⟩, ⟨_, t1, t2, _⟩, ⟨_, f1, f2, _⟩, ⟨g1, ⟨_, g2, _⟩, _⟩, ⟨_, _, _, _, _, s1, s2, s3, s4, s5, _⟩, ⟨_, r1, _⟩, ⟨_, p1, _⟩, ⟨_, c1, _⟩⟩ := k
  have : i = 0 ∨ i = 1 ∨ i = 2 ∨ i = 3 ∨ i = 4 ∨ i = 5 ∨ i = 6 ∨ i = 7 ∨ i = 8 ∨ i = 9 ∨ i = 10 ∨ i = 11 ∨ i = 12 ∨ i = 13 ∨ i = 14 := by omega
  rcases this with e | e | e | e | e | e | e | e | e | e | e | e | e | e | e <;> subst e <;> apply some_nn <;> assumption
theorem stC_A (k : stC h g K A n v f r) {i : Nat} (hi : i < v) : ∃ fs, h (A i) = some (zO 3 fs) := by
  obtain ⟨_, _, _, ⟨_, _, _, e, _⟩, _⟩ := k
  exact rel_cell (e i hi)
theorem stC_KA (k : stC h g K A n v f r) {i j : Nat} (hi : i < 15) (hj : j < v) : K i ≠ A j := by
  obtain ⟨fs, ha⟩ := stC_A k hj
  obtain ⟨⟨_, _, x⟩, ⟨_, t1, t2, _⟩, ⟨_, f1, f2, _⟩, ⟨g1, ⟨_, g2, _⟩, _⟩, ⟨_, _, _, _, _, s1, s2, s3, s4, s5, _⟩, ⟨_, r1, _⟩, ⟨_, p1, _⟩, ⟨_, c1, _⟩⟩ := k
  intro e
  rw [← e] at ha
  have : i = 0 ∨ i = 1 ∨ i = 2 ∨ i = 3 ∨ i = 4 ∨ i = 5 ∨ i = 6 ∨ i = 7 ∨ i = 8 ∨ i = 9 ∨ i = 10 ∨ i = 11 ∨ i = 12 ∨ i = 13 ∨ i = 14 := by omega
  rcases this with e | e | e | e | e | e | e | e | e | e | e | e | e | e | e <;> subst e
  · rw [x] at ha; cases ha
  · rw [t1] at ha; cases ha
  · rw [t2] at ha; cases ha
  · rw [f1] at ha; cases ha
  · rw [f2] at ha; cases ha
  · rw [g1] at ha; cases ha
  · rw [g2] at ha; cases ha
  · rw [s1] at ha; cases ha
  · rw [s2] at ha; cases ha
  · rw [s3] at ha; cases ha
  · rw [s4] at ha; cases ha
  · rw [s5] at ha; cases ha
  · rw [r1] at ha; cases ha
  · rw [p1] at ha; cases ha
  · rw [c1] at ha; cases ha
/-- another's work leaves what the class's heap stands for -/
theorem stC_fr (k : stC h g K A n v f r) (e : ∀ y, cM K A v y → h' y = h y) (l : hle g h') : stC h' g K A n v f r := by
  have eK : ∀ i, i < 15 → h' (K i) = h (K i) := fun i hi => e _ (Or.inl ⟨i, hi, rfl⟩)
  have eA : ∀ i, i < v → h' (A i) = h (A i) := fun i hi => e _ (Or.inr ⟨i, hi, rfl⟩)
  have gA : ∀ i, i < v → g (A i) = none := fun i hi => stC_gA k hi
  obtain ⟨a, b, c, d, s, rr, p, q⟩ := k
  exact ⟨cX_fr a a.1 (eK 0 (by omega)), cT_fr b (eK 1 (by omega)) (eK 2 (by omega)), cF_fr c (eK 3 (by omega)) (eK 4 (by omega)), rg_ex d (hle_refl g) l gA (eK 5 (by omega)) (eK 6 (by omega)) eA, cS_fr s (eK 7 (by omega)) (eK 8 (by omega)) (eK 9 (by omega)) (eK 10 (by omega)) (eK 11 (by omega)), cR_fr rr (hle_refl g) (eK 12 (by omega)), cP_fr p (eK 13 (by omega)), cC_fr q (eK 14 (by omega))⟩
/-- nothing changed -/
theorem po_id (k : stC h g K A n v f r) : poC h g K A v h n v f r := ⟨g, A, ext_refl k.2.2.2.1.2.2.2.2, k, fun i hi => ⟨fun _ => rfl, fun z => absurd hi (by omega)⟩⟩
/-- cells changed in place, nothing new -/
theorem ext_in {M : Nat → Prop} (hg : hle g h) (fr : ∀ y, ¬ M y → h' y = h y) (hm : ∀ y, M y → g y = none ∧ h' y ≠ none) : ext M g h g h' := by
  refine ⟨hle_refl g, fun y e q => ?_, fun _ e _ => e, fun y q => ?_, fun y _ q => fr y q⟩
  · by_cases m : M y
    · rw [(hm y m).1] at q; cases q
    · rw [fr y m]; exact hg y e q
  · by_cases m : M y
    · exact (hm y m).2
    · rw [fr y m]; exact q
end
/-! the reference's rows -/
section
variable {V : Nat} {Y : Nat → Prop} {r r' : rA}
theorem cl_sym {a b : Nat} : clR r a b = clR r b a := by
  rw [clR, clR]
  by_cases x : a < 40
  · by_cases y : b < 40
    · rw [if_pos x, if_pos y, if_pos y, if_pos x, Bool.or_comm]
    · rw [if_pos x, if_neg y, if_neg y, if_pos x]
  · by_cases y : b < 40
    · rw [if_neg x, if_pos y, if_pos y, if_neg x]
    · rw [if_neg x, if_neg y, if_neg y, if_neg x]
theorem cSp_clK {v : Nat} {C : Nat → Int64} (hC : cSp r v C) : clK C := by
  refine ⟨fun a ha b hb => ?_, fun p hp q hq => ?_⟩
  · have x := hC a ha b (by omega)
    have y := hC b hb a (by omega)
    rw [cl_sym] at y
    cases e : tst (C a) b with
    | true => exact (y.mpr ⟨(x.mp e).2.1, (x.mp e).1, (x.mp e).2.2⟩).symm
    | false =>
      cases e2 : tst (C b) a with
      | false => rfl
      | true => rw [x.mpr ⟨(y.mp e2).2.1, (y.mp e2).1, (y.mp e2).2.2⟩] at e; cases e
  · cases e : tst (C (40 + p)) (40 + q) with
    | false => rfl
    | true =>
      have := ((hC (40 + p) (by omega) (40 + q) (by omega)).mp e).2.2
      rw [clR, if_neg (by omega), if_neg (by omega)] at this
      cases this
theorem sm_rV1 (h : rSm V Y r r') (h1 : rV1 r V) (h14 : ∀ i, V ≤ i → i < 40 → r' 14 i = nI 0) : rV1 r' V := by
  obtain ⟨a, b, c, d, e⟩ := h1
  refine ⟨a, fun i hi => (sm_row (h.1 i hi).1 (b i hi)).1, fun i hi => ?_, fun i hi => ?_, fun i hi k hk j hj q => ?_⟩
  · rw [(h.1 i hi).2.2.1]; exact c i hi
  · by_cases x : i < V
    · obtain ⟨m, m1, m2, m3⟩ := d i hi
      exact ⟨m, m1, by rw [(h.1 i x).2.1]; exact m2, fun k hk => by rw [(h.1 i x).2.2.2.2.2 k (by omega)]; exact m3 k hk⟩
    · exact ⟨0, by omega, h14 i (by omega) hi, fun k hk => absurd hk (Nat.not_lt_zero _)⟩
  · have m5 : nM r i ≤ 5 := by
      obtain ⟨m, m1, m2, _⟩ := d i (by omega)
      rw [nM, m2, nI_clamp (by omega)]; exact m1
    rw [sm_nM h hi] at hk hj
    rw [(h.1 i hi).2.2.2.2.2 k (by omega), (h.1 i hi).2.2.2.2.2 j (by omega)] at q
    exact e i hi k hk j hj q
theorem sm_ord (h : rSm V Y r r') (h1 : rV1 r V) {i j : Nat} (hi : i < V) (hj : j < V) : ordV (rowV r' i) (rowV r' j) = ordV (rowV r i) (rowV r j) := (ordV_cg (sm_row (h.1 i hi).1 (h1.2.1 i hi)).2 (sm_row (h.1 j hj).1 (h1.2.1 j hj)).2).symm
/-- one version after the other stands as it stood: as well what is told of them -/
theorem sm_rV2 (h : rSm V (fun y => y < 208) r r') (h1 : rV1 r V) (h2 : rV2 r V) (h20 : ∀ k, k < 8 → r' 20 k = bI (w0 r' k)) (h21 : ∀ p, p < 8 → r' 21 p = -1 ∨ ∃ i, i < V ∧ r' 21 p = nI i) : rV2 r' V := ⟨fun y hy => (sm_rqK h hy (h2.1 y hy)).2, h20, fun i hi j hj n e => by
  rw [sm_ord h h1 hi hj]
  refine h2.2.2.1 i hi j hj n ?_
  rw [← (h.1 i hi).2.2.1, ← (h.1 j hj).2.2.1]
  exact e, h21⟩
end
