/-! More room does no harm. -/
set_option maxHeartbeats 1000000 in
theorem zstep_wid {cl : Nat → List zV → zH → Nat → Nat → zQ → Prop} {mc ms mc' ms' : Nat} (h1 : mc ≤ mc') (h2 : ms ≤ ms') {Q : zQ} {X : zX} {o : zOp} {pc : Nat} {ls : List (Option zV)} {st : List zV} {h : zH} {c s : Nat} : zstep cl mc ms Q X o pc ls st h c s → zstep cl mc' ms' Q X o pc ls st h c s := by
  obtain ⟨k, n, a, b, ix, w, z⟩ := o
  unfold zstep
  dsimp only
  split
  all_goals try exact fun k => k
  all_goals try exact fun ⟨a1, a2, k⟩ => ⟨Nat.le_trans a1 h1, Nat.le_trans a2 h2, k⟩
  all_goals try exact fun ⟨i, r, g1, g2, g3, g4, g5, k⟩ => ⟨i, r, g1, g2, g3, Nat.le_trans g4 h1, Nat.le_trans g5 h2, k⟩
  all_goals try exact fun ⟨as, r, m1, m2, g1, g2, g3, g4, g5, g6, k⟩ => ⟨as, r, m1, m2, g1, g2, g3, Nat.le_trans g4 h1, Nat.le_trans g5 h2, g6, k⟩
theorem zCall_wid {d j : Nat} {as : List zV} {h : zH} {mc ms mc' ms' : Nat} {Q : zQ} (h1 : mc ≤ mc') (h2 : ms ≤ ms') (k : zCall d j as h mc ms Q) : zCall d j as h mc' ms' Q := by
  cases d with
  | zero => exact k
  | succ d =>
    refine ⟨k.1, fun X hX => k.2 X fun pc ls st h c s ⟨o, ho, z⟩ => hX pc ls st h c s ⟨o, ho, zstep_wid h1 h2 z⟩⟩
/-! Both side by side: what the class and the reference do at one call. -/
/-- the reference's cells and the law's row -/
def ownL (q : Nat) (qa : Nat → Nat) (po y : Nat) : Prop := y = q ∨ y = po ∨ ∃ k t n, rarr k = some (t, n) ∧ y = qa k
def lwI (h g : zH) (K A : Nat → Nat) (q : Nat) (qa : Nat → Nat) (po : Nat) (c n a : Nat) (b : Bool) (v f : Nat) (r : rA) : Prop := stC h g K A n v f r ∧ rVs r v ∧ rAt q qa h (c, n, a, b, v, f, r) ∧ (∃ fo, h po = some (zaJ 1 fo)) ∧ (∀ y, ownL q qa po y → g y = none ∧ ∀ i, i < 15 → y ≠ K i) ∧ (∀ i j, i < v → j < v → A i = A j → i = j) ∧ ¬ po = q ∧ ∀ k t m, rarr k = some (t, m) → ¬ po = qa k
section
variable {h g h1 : zH} {K A : Nat → Nat} {q : Nat} {qa : Nat → Nat} {po c n a v f : Nat} {b : Bool} {r : rA}
theorem own_nn (I : lwI h g K A q qa po c n a b v f r) {y : Nat} (hy : ownL q qa po y) : h y ≠ none := by
  obtain ⟨_, _, hr, ⟨fo, ho⟩, _⟩ := I
  rcases hy with e | e | ⟨k, t, m, hk, e⟩
  · rw [e]; exact some_nn hr.1
  · rw [e]; exact some_nn ho
  · rw [e]; exact some_nn (hr.2.1 k t m hk)
theorem own_nM (I : lwI h g K A q qa po c n a b v f r) {y : Nat} (hy : ownL q qa po y) : ¬ cM K A v y := by
  have I0 := I
  obtain ⟨st, _, hr, ⟨fo, ho⟩, hg, _⟩ := I
  intro z
  rcases z with ⟨i, hi, e⟩ | ⟨i, hi, e⟩
  · exact (hg y hy).2 i hi e
  · obtain ⟨fs, hA⟩ := stC_A st hi
    rw [← e] at hA
    rcases hy with e | e | ⟨k, t, m, hk, e⟩
    · rw [e, hr.1] at hA; cases hA
    · rw [e, ho] at hA; cases hA
    · rw [e, hr.2.1 k t m hk] at hA; cases hA
/-- what the class leaves of the others -/
theorem po_own {n' v' f' : Nat} {r' : rA} (I : lwI h g K A q qa po c n a b v f r) (p : poC h g K A v h1 n' v' f' r') (hv : v' ≤ v + 1) : (∀ y, ownL q qa po y → h1 y = h y) ∧ ∃ g' A', (∀ y, ownL q qa po y → g' y = none) ∧ stC h1 g' K A' n' v' f' r' ∧ ∀ i j, i < v' → j < v' → A' i = A' j → i = j := by
  obtain ⟨g', A', x, st', hA⟩ := p
  refine ⟨fun y hy => x.2.2.2.2 y (own_nn I hy) (own_nM I hy), g', A', fun y hy => x.2.2.1 y (I.2.2.2.2.1 y hy).1 (own_nn I hy), st', fun i j hi hj e => ?_⟩
  have nn : ∀ i, i < v → h (A i) ≠ none := fun i hi => by
    obtain ⟨fs, q⟩ := stC_A I.1 hi
    exact some_nn q
  by_cases i1 : i < v
  · have i2 := (hA i hi).1 i1
    by_cases j1 : j < v
    · rw [i2, (hA j hj).1 j1] at e; exact I.2.2.2.2.2.1 i j i1 j1 e
    · have j2 := (hA j hj).2 (by omega)
      rw [← e, i2] at j2; exact absurd j2 (nn i i1)
  · by_cases j1 : j < v
    · have i2 := (hA i hi).2 (by omega)
      rw [e, (hA j hj).1 j1] at i2; exact absurd i2 (nn j j1)
    · omega
end
/-- what a call may answer -/
def rsF (vd : Bool) (ee : List Nat) (res : Option zV ⊕ Nat) : Prop := (vd = true ∧ res = .inl none) ∨ (vd = false ∧ ∃ x, res = .inl (some (zI x))) ∨ ∃ e, res = .inr e ∧ e ∈ ee
theorem rs_v {ee : List Nat} {x : Int32} : rsF false ee (.inl (some (zI x))) := Or.inr (Or.inl ⟨rfl, x, rfl⟩)
theorem rs_n {ee : List Nat} : rsF true ee (.inl none) := Or.inl ⟨rfl, rfl⟩
theorem rs_e {vd : Bool} {ee : List Nat} {e : Nat} (h : e ∈ ee) : rsF vd ee (.inr e) := Or.inr (Or.inr ⟨e, rfl, h⟩)
/-- what the reference may answer -/
abbrev wsF (vd : Bool) (w : Option zV) : Prop := (vd = true ∧ w = none) ∨ (vd = false ∧ ∃ y, w = some (zI y))
/-- what is owed of a call's two sides -/
def agQ (h : zH) (K : Nat → Nat) (q : Nat) (qa : Nat → Nat) (po jr : Nat) (asr : List zV) (s : rS) (cd : Nat → Nat) (vd : Bool) (ee : List Nat) : zQ := fun h1 res => (∀ y, ownL q qa po y → h1 y = h y) ∧ rsF vd ee res ∧ ∃ g' A' : _, (∀ y, ownL q qa po y → g' y = none) ∧ ∃ R : rS → Option zV → Prop, rCall q qa 30 jr (zR (some q) :: asr) s (fun t o => ∃ w, o = .inl w ∧ R t w) ∧ ∀ (c n a : Nat) (b : Bool) (v f : Nat) (r : rA) (w : Option zV), R (c, n, a, b, v, f, r) w → (stC h1 g' K A' n v f r ∧ rVs r v ∧ ∀ i j, i < v → j < v → A' i = A' j → i = j) ∧ wsF vd w ∧ ((∃ x, res = .inl (some (zI x)) ∧ w = some (zI x) ∧ c = 0) ∨ (res = .inl none ∧ w = none ∧ c = 0) ∨ ∃ e, res = .inr e ∧ c = cd e ∧ 1 ≤ cd e ∧ cd e ≤ 4)
section
variable {h g h1 : zH} {K A : Nat → Nat} {q : Nat} {qa : Nat → Nat} {po c n a v f : Nat} {b : Bool} {r : rA}
/-- a reference's call that is told exactly -/
theorem ag_fun {jr : Nat} {asr : List zV} {cd : Nat → Nat} {vd : Bool} {ee : List Nat} {res : Option zV ⊕ Nat} {n' v' f' : Nat} {r1 : rA} {c2 n2 a2 v2 f2 : Nat} {b2 : Bool} {r2 : rA} {w : Option zV} (I : lwI h g K A q qa po c n a b v f r) (p : poC h g K A v h1 n' v' f' r1) (hv : v' ≤ v + 1) (hF : rFun q qa 30 jr (zR (some q) :: asr) (c, n, a, b, v, f, r) (c2, n2, a2, b2, v2, f2, r2) w) (hst : ∀ g' A', stC h1 g' K A' n' v' f' r1 → stC h1 g' K A' n2 v2 f2 r2) (hv9 : v2 = v') (hV : rVs r2 v2) (hrel : (∃ x, res = .inl (some (zI x)) ∧ w = some (zI x) ∧ c2 = 0) ∨ (res = .inl none ∧ w = none ∧ c2 = 0) ∨ ∃ e, res = .inr e ∧ c2 = cd e ∧ 1 ≤ cd e ∧ cd e ≤ 4) (hrs : rsF vd ee res) (hw : wsF vd w := by first | exact Or.inr ⟨rfl, _, rfl⟩ | exact Or.inl ⟨rfl, rfl⟩) : agQ h K q qa po jr asr (c, n, a, b, v, f, r) cd vd ee h1 res := by
  obtain ⟨o1, g', A', o2, st', o3⟩ := po_own I p hv
  refine ⟨o1, hrs, g', A', o2, fun t w' => t = (c2, n2, a2, b2, v2, f2, r2) ∧ w' = w, fun h2 hr => zCall_mono _ _ _ _ _ _ _ _ (fun h3 o z => ?_) (hF h2 hr), ?_⟩
  · obtain ⟨t, z1, z2, z3, z4⟩ := z
    exact ⟨t, z1, z2, w, z4, z3, rfl⟩
  · rintro c9 n9 a9 b9 v9 f9 r9 w9 ⟨e1, e2⟩
    cases e1
    subst e2
    refine ⟨⟨hst g' A' st', hV, fun i j hi hj e => o3 i j (by omega) (by omega) e⟩, hw, hrel⟩
theorem in_cs (x : Int32) {m : Nat} (hm : m < 2 ^ 31) : (∃ i, i < m ∧ x = nI i) ∨ (isIn x (nI 0) (nI m - nI 1) = false ∧ ∀ i, i < m → ¬ x = nI i) := by
  cases e : isIn x (nI 0) (nI m - nI 1) with
  | true => exact Or.inl (isIn_vx hm e)
  | false => exact Or.inr ⟨rfl, fun i hi q => by
      rw [q, isIn_v hi hm] at e
      cases e⟩
/-- arrays that neither rows nor versions are in -/
theorem rVs_id {r' : rA} (hI : rVs r v) (hr : ∀ j, 5 ≤ j ∧ j ≤ 22 → r' j = r j) : rVs r' v := rVs_of hI (fun j hj => hr j (by omega)) (by rw [hr 17 (by omega)]; exact hI.2.2.2.1) (fun k hk => by rw [w0, hr 20 (by omega)]; exact hI.2.1.2.1 k hk) (by rw [hr 21 (by omega)]; exact hI.2.1.2.2.2) (by rw [hr 22 (by omega)]; exact hI.2.2.1)
theorem rVs_21 {r' : rA} (hI : rVs r v) (hr : ∀ j, j ≠ 21 → r' j = r j) (h21 : ∀ p, p < 8 → r' 21 p = -1 ∨ ∃ i, i < v ∧ r' 21 p = nI i) : rVs r' v := rVs_of hI (fun j hj => hr j (by omega)) (by rw [hr 17 (by omega)]; exact hI.2.2.2.1) (fun k hk => by rw [w0, hr 20 (by omega)]; exact hI.2.1.2.1 k hk) h21 (by rw [hr 22 (by omega)]; exact hI.2.2.1)
theorem st_same {n v f : Nat} {r r' : rA} (hr : r' = r) : ∀ g' A', stC h1 g' K A' n v f r → stC h1 g' K A' n v f r' := fun _ _ z => by rw [hr]; exact z
/-! feed -/
def cdF (e : Nat) : Nat := if e = 0 then 1 else 2
theorem ag_feed (I : lwI h g K A q qa po c n a b v f r) (x : Int64) (y : Int32) : zCall 29 74 [zR (some (K 0)), zJ x, zI y] h 1 6 (agQ h K q qa po 99 [zJ x, zI y] (c, n, a, b, v, f, r) cdF false [0, 1]) := by
  have st := I.1
  have hI := I.2.1
  obtain ⟨tc, _, _, hn, _⟩ := st.2.1
  rcases fd_cs y with ⟨m, m1, m8, e, hx⟩ | ⟨hx, hy⟩
  · subst e
    by_cases hm : n + m ≤ 160
    · refine zCall_wid (mc := 0) (ms := 0) (by omega) (by omega) (zCall_mono _ _ _ _ _ _ _ _ (fun h1 o z => ?_) (k_X9_feed (d := 27) st hI m1 m8 hm))
      obtain ⟨rfl, p⟩ := z
      exact ag_fun I p (by omega) (c_feed0 (d := 28) hm hx) (fun _ _ z => z) rfl (rVs_id hI (fun j hj => rput_n (by omega))) (Or.inl ⟨_, rfl, rfl, rfl⟩) rs_v
    · refine zCall_mono _ _ _ _ _ _ _ _ (fun h1 o z => ?_) (k_feed2 (d := 27) (x := x) st m1 m8 (by omega))
      obtain ⟨rfl, rfl⟩ := z
      exact ag_fun I (po_id st) (by omega) (c_feed2 (d := 28) hn m8 (by omega) hx) (fun _ _ z => z) rfl hI (Or.inr (Or.inr ⟨1, rfl, rfl, by decide, by decide⟩)) (rs_e (by decide))
  · refine zCall_mono _ _ _ _ _ _ _ _ (fun h1 o z => ?_) (k_feed1 (d := 27) (x := x) st hy)
    obtain ⟨rfl, rfl⟩ := z
    exact ag_fun I (po_id st) (by omega) (c_feed1 (d := 28) hx) (fun _ _ z => z) rfl hI (Or.inr (Or.inr ⟨0, rfl, rfl, by decide, by decide⟩)) (rs_e (by decide))
/-! one throwable alone -/
def cd1 (_ : Nat) : Nat := 1
theorem rel1 {e : Nat} {res : Option zV ⊕ Nat} {w : Option zV} (h : res = .inr e) : (∃ x, res = .inl (some (zI x)) ∧ w = some (zI x) ∧ (1 : Nat) = 0) ∨ (res = .inl none ∧ w = none ∧ (1 : Nat) = 0) ∨ ∃ e, res = .inr e ∧ (1 : Nat) = cd1 e ∧ 1 ≤ cd1 e ∧ cd1 e ≤ 4 := Or.inr (Or.inr ⟨e, h, rfl, Nat.le_refl _, show (1 : Nat) ≤ 4 by decide⟩)
theorem ag_yank (I : lwI h g K A q qa po c n a b v f r) (x : Int32) (on : Bool) : zCall 29 76 [zR (some (K 0)), zI x, zI (bI on)] h 1 6 (agQ h K q qa po 127 [zI x, zI (bI on)] (c, n, a, b, v, f, r) cd1 false [2]) := by
  have st := I.1
  have hI := I.2.1
  have hv := hI.1.1
  rcases ve_cs x hv with ⟨i, hi, e⟩ | ⟨hx, hxx⟩
  · subst e
    obtain ⟨y, hy⟩ := hI.2.2.2.1 i hi
    refine zCall_wid (mc := 0) (ms := 0) (by omega) (by omega) (zCall_mono _ _ _ _ _ _ _ _ (fun h1 o z => ?_) (k_X9_yank (d := 27) (on := on) st hI hi (fun j hj e => I.2.2.2.2.2.1 j i hj hi e)))
    obtain ⟨rfl, p⟩ := z
    refine ag_fun I p (by omega) (c_yank (d := 27) hv hi hy) (fun _ _ z => z) rfl (rVs_of hI (fun j hj => rset_n _ _ _ (by omega)) (fun k hk => ?_) (fun k hk => ?_) ?_ ?_) (Or.inl ⟨_, rfl, by rw [hy], rfl⟩) rs_v
    · by_cases e : k = i
      · rw [e, rset_at]; exact ⟨on, rfl⟩
      · rw [rset_ne _ _ _ e]; exact hI.2.2.2.1 k hk
    · rw [w0, rset_n _ _ _ (by decide)]; exact hI.2.1.2.1 k hk
    · rw [rset_n _ _ _ (by decide)]; exact hI.2.1.2.2.2
    · rw [rset_n _ _ _ (by decide)]; exact hI.2.2.1
  · refine zCall_mono _ _ _ _ _ _ _ _ (fun h1 o z => ?_) (k_yankX (d := 27) (on := on) st hxx)
    obtain ⟨rfl, rfl⟩ := z
    exact ag_fun I (po_id st) (by omega) (c_yankX (d := 27) hx) (fun _ _ z => z) rfl hI (rel1 rfl) (rs_e (by decide))
theorem ag_drop (I : lwI h g K A q qa po c n a b v f r) (x : Int32) : zCall 29 78 [zR (some (K 0)), zI x] h 1 6 (agQ h K q qa po 130 [zI x] (c, n, a, b, v, f, r) cd1 false [2]) := by
  have st := I.1
  have hI := I.2.1
  rcases pk_cs x with ⟨p, hp, e⟩ | ⟨hx, hxx⟩
  · subst e
    refine zCall_wid (mc := 0) (ms := 0) (by omega) (by omega) (zCall_mono _ _ _ _ _ _ _ _ (fun h1 o z => ?_) (k_X9_drop (d := 27) st hI hp))
    obtain ⟨rfl, pp⟩ := z
    refine ag_fun I pp (by omega) (c_drop (d := 28) hp (hI.2.1.2.1 p hp)) (fun _ _ z => z) rfl (rVs_of hI (fun j hj => rset_n _ _ _ (by omega)) ?_ (fun k hk => ?_) ?_ ?_) (Or.inl ⟨_, rfl, rfl, rfl⟩) rs_v
    · rw [rset_n _ _ _ (by decide)]; exact hI.2.2.2.1
    · by_cases e : k = p
      · rw [e, w0, rset_at]; decide +kernel
      · rw [w0, rset_ne _ _ _ e]; exact hI.2.1.2.1 k hk
    · rw [rset_n _ _ _ (by decide)]; exact hI.2.1.2.2.2
    · rw [rset_n _ _ _ (by decide)]; exact hI.2.2.1
  · refine zCall_mono _ _ _ _ _ _ _ _ (fun h1 o z => ?_) (k_dropX (d := 27) st hxx)
    obtain ⟨rfl, rfl⟩ := z
    exact ag_fun I (po_id st) (by omega) (c_dropX (d := 28) hx) (fun _ _ z => z) rfl hI (rel1 rfl) (rs_e (by decide))
theorem ag_chosen (I : lwI h g K A q qa po c n a b v f r) (x : Int32) : zCall 29 80 [zR (some (K 0)), zI x] h 1 6 (agQ h K q qa po 139 [zI x] (c, n, a, b, v, f, r) cd1 false [2]) := by
  have st := I.1
  have hI := I.2.1
  rcases pk_cs x with ⟨p, hp, e⟩ | ⟨hx, hxx⟩
  · subst e
    refine zCall_wid (mc := 0) (ms := 0) (by omega) (by omega) (zCall_mono _ _ _ _ _ _ _ _ (fun h1 o z => ?_) (k_X9_chosen (d := 27) st hp))
    obtain ⟨rfl, rfl⟩ := z
    exact ag_fun I (po_id st) (by omega) (c_chosen (d := 28) hp) (fun _ _ z => z) rfl hI (Or.inl ⟨_, rfl, rfl, rfl⟩) rs_v
  · refine zCall_mono _ _ _ _ _ _ _ _ (fun h1 o z => ?_) (k_chosenX (d := 27) st hxx)
    obtain ⟨rfl, rfl⟩ := z
    exact ag_fun I (po_id st) (by omega) (c_chosenX (d := 28) hx) (fun _ _ z => z) rfl hI (rel1 rfl) (rs_e (by decide))
theorem ag_pin (I : lwI h g K A q qa po c n a b v f r) (x : Int32) : zCall 29 82 [zR (some (K 0)), zI x] h 1 6 (agQ h K q qa po 142 [zI x] (c, n, a, b, v, f, r) cd1 false [2]) := by
  have st := I.1
  have hI := I.2.1
  have hv := hI.1.1
  rcases ve_cs x hv with ⟨i, hi, e⟩ | ⟨hx, hxx⟩
  · subst e
    have pk := pk_at hI.1 hi
    refine zCall_wid (mc := 0) (ms := 0) (by omega) (by omega) (zCall_mono _ _ _ _ _ _ _ _ (fun h1 o z => ?_) (k_X9_pin (d := 27) st hI hi))
    obtain ⟨rfl, p⟩ := z
    refine ag_fun I p (by omega) (c_pin (d := 27) hv hi pk.1 pk.2) (fun _ _ z => z) rfl (rVs_21 hI (fun j hj => rset_n _ _ _ hj) (fun k hk => ?_)) (Or.inl ⟨_, rfl, rfl, rfl⟩) rs_v
    by_cases e : k = pkN r i
    · rw [e, rset_at]; exact Or.inr ⟨i, hi, rfl⟩
    · rw [rset_ne _ _ _ e]; exact hI.2.1.2.2.2 k hk
  · refine zCall_mono _ _ _ _ _ _ _ _ (fun h1 o z => ?_) (k_pinX (d := 27) st hxx)
    obtain ⟨rfl, rfl⟩ := z
    exact ag_fun I (po_id st) (by omega) (c_pinX (d := 27) hx) (fun _ _ z => z) rfl hI (rel1 rfl) (rs_e (by decide))
theorem ag_compare (I : lwI h g K A q qa po c n a b v f r) (x y : Int32) : zCall 29 86 [zR (some (K 0)), zI x, zI y] h 1 6 (agQ h K q qa po 146 [zI x, zI y] (c, n, a, b, v, f, r) cd1 false [2]) := by
  have st := I.1
  have hI := I.2.1
  have hv := hI.1.1
  rcases ve_cs x hv with ⟨i, hi, e⟩ | ⟨hx, hxx⟩
  · subst e
    rcases ve_cs y hv with ⟨j, hj, e⟩ | ⟨hy, hyy⟩
    · subst e
      refine zCall_wid (mc := 0) (ms := 0) (by omega) (by omega) (zCall_mono _ _ _ _ _ _ _ _ (fun h1 o z => ?_) (k_X9_compare (d := 25) st hi hj))
      obtain ⟨rfl, rfl⟩ := z
      exact ag_fun I (po_id st) (by omega) (c_compare (d := 25) hv hi hj (hI.1.2.1 i hi) (hI.1.2.1 j hj)) (fun _ _ z => z) rfl hI (Or.inl ⟨_, rfl, by rw [ord_eq], rfl⟩) rs_v
    · refine zCall_mono _ _ _ _ _ _ _ _ (fun h1 o z => ?_) (k_compareY (d := 25) st hi hyy)
      obtain ⟨rfl, rfl⟩ := z
      exact ag_fun I (po_id st) (by omega) (c_compareX (d := 27) (by rw [hy, Bool.and_false])) (fun _ _ z => z) rfl hI (rel1 rfl) (rs_e (by decide))
  · rcases ve_cs y hv with ⟨j, hj, e⟩ | ⟨hy, hyy⟩
    · subst e
      refine zCall_mono _ _ _ _ _ _ _ _ (fun h1 o z => ?_) (k_compareX (d := 25) st hxx hj)
      obtain ⟨rfl, rfl⟩ := z
      exact ag_fun I (po_id st) (by omega) (c_compareX (d := 27) (by rw [hx, Bool.false_and])) (fun _ _ z => z) rfl hI (rel1 rfl) (rs_e (by decide))
    · refine zCall_mono _ _ _ _ _ _ _ _ (fun h1 o z => ?_) (k_compareXY (d := 25) st hxx hyy)
      obtain ⟨rfl, rfl⟩ := z
      exact ag_fun I (po_id st) (by omega) (c_compareX (d := 27) (by rw [hx, Bool.false_and])) (fun _ _ z => z) rfl hI (rel1 rfl) (rs_e (by decide))
theorem ag_needs (I : lwI h g K A q qa po c n a b v f r) (x y : Int32) : zCall 29 87 [zR (some (K 0)), zI x, zI y] h 1 6 (agQ h K q qa po 147 [zI x, zI y] (c, n, a, b, v, f, r) cd1 false [2]) := by
  have st := I.1
  have hI := I.2.1
  have hv := hI.1.1
  rcases ve_cs x hv with ⟨i, hi, e⟩ | ⟨hx, hxx⟩
  · subst e
    obtain ⟨m5, hM, _⟩ := nM_at hI.1 (show i < 40 by omega)
    rcases in_cs y (show nM r i < 2 ^ 31 by omega) with ⟨j, hj, e⟩ | ⟨hy, hyy⟩
    · subst e
      refine zCall_wid (mc := 0) (ms := 0) (by omega) (by omega) (zCall_mono _ _ _ _ _ _ _ _ (fun h1 o z => ?_) (k_X9_needs (d := 27) st hi hj))
      obtain ⟨rfl, rfl⟩ := z
      exact ag_fun I (po_id st) (by omega) (c_needs (d := 27) hv hi m5 hj hM) (fun _ _ z => z) rfl hI (Or.inl ⟨_, rfl, rfl, rfl⟩) rs_v
    · refine zCall_wid (mc := 0) (ms := 0) (by omega) (by omega) (zCall_mono _ _ _ _ _ _ _ _ (fun h1 o z => ?_) (k_needsN (d := 27) st hi hyy))
      obtain ⟨rfl, rfl⟩ := z
      exact ag_fun I (po_id st) (by omega) (c_needsN (d := 27) hv hi hM hy) (fun _ _ z => z) rfl hI (Or.inl ⟨_, rfl, rfl, rfl⟩) rs_v
  · refine zCall_mono _ _ _ _ _ _ _ _ (fun h1 o z => ?_) (k_needsX (d := 27) (y := y) st hxx)
    obtain ⟨rfl, rfl⟩ := z
    exact ag_fun I (po_id st) (by omega) (c_needsX (d := 27) hx) (fun _ _ z => z) rfl hI (rel1 rfl) (rs_e (by decide))
theorem ag_fileByte (I : lwI h g K A q qa po c n a b v f r) (x : Int32) : zCall 29 90 [zR (some (K 0)), zI x] h 1 6 (agQ h K q qa po 151 [zI x] (c, n, a, b, v, f, r) cd1 false [2]) := by
  have st := I.1
  have hI := I.2.1
  obtain ⟨fc, _, _, hf, _⟩ := st.2.2.1
  rcases in_cs x (show f < 2 ^ 31 by omega) with ⟨i, hi, e⟩ | ⟨hx, hxx⟩
  · subst e
    refine zCall_wid (mc := 0) (ms := 0) (by omega) (by omega) (zCall_mono _ _ _ _ _ _ _ _ (fun h1 o z => ?_) (k_X9_fileByte (d := 28) st hi))
    obtain ⟨rfl, rfl⟩ := z
    exact ag_fun I (po_id st) (by omega) (c_fileByte (d := 28) (by omega) hi) (fun _ _ z => z) rfl hI (Or.inl ⟨_, rfl, rfl, rfl⟩) rs_v
  · refine zCall_mono _ _ _ _ _ _ _ _ (fun h1 o z => ?_) (k_fileByteX (d := 28) st hxx)
    obtain ⟨rfl, rfl⟩ := z
    exact ag_fun I (po_id st) (by omega) (c_fileByteX (d := 28) hx) (fun _ _ z => z) rfl hI (rel1 rfl) (rs_e (by decide))
end
