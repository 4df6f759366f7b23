/-- which of the first m needs of version i is on package k -/
def ndX (r : rA) (i k : Nat) : Nat → Option Nat
  | 0 => none
  | m + 1 => match ndX r i k m with
    | some j => some j
    | none => if r 13 (5 * i + m) = nI k then some m else none
/-- what a release stands for, but its own cell -/
def relB (g : zH) (r : rA) (i pv pw pr pd m : Nat) : Prop := vrAt g pv (rowV r i) ∧ (∃ len fb, r 18 i = nI len ∧ len ≤ 24 ∧ g pw = some (zaI 0 len fb) ∧ ∀ j, j < len → fb j = r 19 (24 * i + j)) ∧ (∃ fd, g pd = some (zaI 1 5 fd) ∧ ∀ j, j < m → fd j = r 13 (5 * i + j)) ∧ (∃ f, g pr = some (zaR 5 8 f) ∧ ∀ k, k < 8 → (ndX r i k m = none → f k = none) ∧ ∀ j, ndX r i k m = some j → ∃ q, f k = some q ∧ rqAt g q (qR r (8 + 5 * i + j)))
theorem relB_mono {g h : zH} (l : hle g h) {r : rA} {i pv pw pr pd m : Nat} (k : relB g r i pv pw pr pd m) : relB h r i pv pw pr pd m := by
  obtain ⟨a, ⟨len, fb, b1, b2, b3, b4⟩, ⟨fd, c1, c2⟩, ⟨f, d1, d2⟩⟩ := k
  exact ⟨vrAt_mono l a, ⟨len, fb, b1, b2, l _ _ b3, b4⟩, ⟨fd, l _ _ c1, c2⟩, ⟨f, l _ _ d1, fun k hk => ⟨(d2 k hk).1, fun j hj => by obtain ⟨q, x, y⟩ := (d2 k hk).2 j hj; exact ⟨q, x, rqAt_mono l y⟩⟩⟩⟩
/-- the release at a stands for version i -/
def relI (h g : zH) (r : rA) (i a : Nat) : Prop := ∃ pv pw pr pd pk m y, h a = some (rlO pk pv pw pr pd m y) ∧ g a = none ∧ (r 16 i = nI pk ∧ pk < 8) ∧ r 17 i = bI y ∧ (r 14 i = nI m ∧ m ≤ 5) ∧ relB g r i pv pw pr pd m
/-- the registry stands for the first v versions -/
def rgI (h g : zH) (r : rA) (v pg pl : Nat) (A : Nat → Nat) : Prop := h pg = some (zO 2 [zR (some pl), zI (nI v)]) ∧ (∃ f, h pl = some (zaR 4 40 f) ∧ ∀ i, i < v → f i = some (A i)) ∧ v ≤ 40 ∧ (∀ i, i < v → relI h g r i (A i)) ∧ hle g h
theorem rel_cell {h g : zH} {r : rA} {i a : Nat} (k : relI h g r i a) : ∃ fs, h a = some (zO 3 fs) := by
  obtain ⟨_, _, _, _, _, _, _, e, _⟩ := k
  exact ⟨_, e⟩
theorem in_of {x : Int32} {v : Nat} (hv : v < 2 ^ 31) (h0 : ¬ x < 0) (h1 : ¬ nI v ≤ x) : ∃ i, i < v ∧ x = nI i := by
  obtain ⟨j, hj, e⟩ := nI_of h0
  subst e
  exact ⟨j, Nat.lt_of_not_le (fun g => h1 ((nI_leI hv hj).mpr g)), rfl⟩
/-- all in one heap -/
theorem relI_h {h g : zH} {r : rA} {i a : Nat} (l : hle g h) (k : relI h g r i a) : ∃ pv pw pr pd pk m y, h a = some (rlO pk pv pw pr pd m y) ∧ g a = none ∧ (r 16 i = nI pk ∧ pk < 8) ∧ r 17 i = bI y ∧ (r 14 i = nI m ∧ m ≤ 5) ∧ relB h r i pv pw pr pd m := by
  obtain ⟨pv, pw, pr, pd, pk, m, y, a, b, c, d, e, f⟩ := k
  exact ⟨pv, pw, pr, pd, pk, m, y, a, b, c, d, e, relB_mono l f⟩
def nM (r : rA) (i : Nat) : Nat := (r 14 i).toNatClampNeg
def pkN (r : rA) (i : Nat) : Nat := (r 16 i).toNatClampNeg
/-- has version i a need of package k -/
def hnB (r : rA) (i k : Nat) : Bool := (ndX r i k (nM r i)).isSome
/-- does version a not go with version b -/
def exB (r : rA) (a b : Nat) : Bool := match ndX r a (pkN r b) (nM r a) with
  | none => false
  | some j => !imF (qR r (8 + 5 * a + j)) (rowV r b)
def hiF (r : rA) (v : Nat) (x : Option Nat) (i : Nat) : Nat := match x with
  | none => i
  | some j => if ordV (rowV r j) (rowV r i) < 0 then i else j
set_option maxHeartbeats 1000000 in
theorem k_X2_at {d : Nat} {h : zH} {g : zH} {r : rA} {v pg pl : Nat} {A : Nat → Nat} {i : Nat} (hr : rgI h g r v pg pl A) (hi : i < v) : zPure (d + 1) 28 [zR (some pg), zI (nI i)] h (some (zR (some ((A i))))) := by
  obtain ⟨h1, ⟨f, h2, hf⟩, hv, hrel, hg⟩ := hr
  refine zCall.of (d := d) (T := tb_28) (L := [some (zR (some pg)), some (zI (nI i))]) (Nat.le_of_ble_eq_true rfl) rfl rfl ?_
  refine z_ild rfl rfl ?_
  refine z_ifN (by omega) rfl (fun h_1 => ?_) (fun h_1 => ?_)
  · replace h_1 : i < 0 := h_1
    omega
  · replace h_1 := Nat.not_lt.mp h_1
    refine z_ild rfl rfl ?_
    refine z_ald rfl rfl ?_
    refine z_get rfl h1 rfl ?_
    refine z_cmpN (by omega) (by omega) rfl (fun h_2 => ?_) (fun h_2 => ?_)
    · replace h_2 : v ≤ i := h_2
      omega
    · replace h_2 := Nat.not_le.mp h_2
      refine z_ald rfl rfl ?_
      refine z_get rfl h1 rfl ?_
      refine z_ild rfl rfl ?_
      refine z_aald rfl h2 (by omega) (by omega) ?_
      refine z_top (v2 := zR (some ((A i)))) (congrArg zR (hf i hi)) ?_
      refine z_go rfl ?_
      refine z_ret rfl ⟨_, rfl⟩ ?_
      exact ⟨rfl, rfl⟩
set_option maxHeartbeats 1000000 in
theorem k_atN {d : Nat} {h : zH} {g : zH} {r : rA} {v pg pl : Nat} {A : Nat → Nat} {x : Int32} (hr : rgI h g r v pg pl A) (hx : ∀ i, i < v → ¬ x = nI i) : zPure (d + 1) 28 [zR (some pg), zI (x)] h (some (zR none)) := by
  obtain ⟨h1, ⟨f, h2, hf⟩, hv, hrel, hg⟩ := hr
  refine zCall.of (d := d) (T := tb_28) (L := [some (zR (some pg)), some (zI (x))]) (Nat.le_of_ble_eq_true rfl) rfl rfl ?_
  refine z_ild rfl rfl ?_
  refine z_if rfl (fun h_1 => ?_) (fun h_1 => ?_)
  · replace h_1 : (x) < 0 := h_1
    refine z_nul rfl ?_
    refine z_ret rfl ⟨_, rfl⟩ ?_
    exact ⟨rfl, rfl⟩
  · replace h_1 : ¬ ((x) < 0) := h_1
    refine z_ild rfl rfl ?_
    refine z_ald rfl rfl ?_
    refine z_get rfl h1 rfl ?_
    refine z_cmp rfl (fun h_2 => ?_) (fun h_2 => ?_)
    · replace h_2 : (nI v) ≤ (x) := h_2
      refine z_nul rfl ?_
      refine z_ret rfl ⟨_, rfl⟩ ?_
      exact ⟨rfl, rfl⟩
    · replace h_2 : ¬ ((nI v) ≤ (x)) := h_2
      exact absurd (in_of (by omega) h_1 h_2) (fun z => by obtain ⟨i, a, b⟩ := z; exact hx i a b)
set_option maxHeartbeats 1000000 in
theorem k_X2_isFull {d : Nat} {h : zH} {g : zH} {r : rA} {v pg pl : Nat} {A : Nat → Nat} (hr : rgI h g r v pg pl A) : zPure (d + 1) 29 [zR (some pg)] h (some (zI (bI (decide (v = 40))))) := by
  obtain ⟨h1, ⟨f, h2, hf⟩, hv, hrel, hg⟩ := hr
  refine zCall.of (d := d) (T := tb_29) (L := [some (zR (some pg))]) (Nat.le_of_ble_eq_true rfl) rfl rfl ?_
  refine z_ald rfl rfl ?_
  refine z_get rfl h1 rfl ?_
  refine z_ico (x := (nI 40)) rfl rfl ?_
  refine z_cmpN (by omega) (by omega) rfl (fun h_1 => ?_) (fun h_1 => ?_)
  · replace h_1 : ¬ v = 40 := h_1
    refine z_ico (x := (nI 0)) rfl rfl ?_
    refine z_ret rfl ⟨_, rfl, Or.inl rfl⟩ ?_
    exact ⟨rfl, rt_f (decide_eq_false h_1)⟩
  · replace h_1 : v = 40 := Decidable.of_not_not h_1
    refine z_ico (x := (nI 1)) rfl rfl ?_
    refine z_go rfl ?_
    refine z_ret rfl ⟨_, rfl, Or.inr rfl⟩ ?_
    exact ⟨rfl, rt_t (decide_eq_true h_1)⟩
set_option maxHeartbeats 1000000 in
theorem k_need {d : Nat} {h : zH} {g : zH} {r : rA} {i a : Nat} {k : Nat} (hg : hle g h) (hr : relI h g r i a) (hk : k < nM r i) : zPure (d + 1) 37 [zR (some a), zI (nI k)] h (some (zI (r 13 (5 * i + k)))) := by
  obtain ⟨pv, pw, pr, pd, pk, m, y, c, _, ⟨e16, pk8⟩, e17, ⟨e14, m5⟩, ⟨tv, _, ⟨fd, cd, td⟩, ⟨fr, cr, tr⟩⟩⟩ := relI_h hg hr
  obtain ⟨fsv, cv⟩ := vr_cell tv
  rw [nM, e14, nI_clamp (by omega)] at hk
  refine zCall.of (d := d) (T := tb_37) (L := [some (zR (some a)), some (zI (nI k))]) (Nat.le_of_ble_eq_true rfl) rfl rfl ?_
  refine z_ild rfl rfl ?_
  refine z_ifN (by omega) rfl (fun h_1 => ?_) (fun h_1 => ?_)
  · replace h_1 : k < 0 := h_1
    omega
  · replace h_1 := Nat.not_lt.mp h_1
    refine z_ild rfl rfl ?_
    refine z_ald rfl rfl ?_
    refine z_get rfl c rfl ?_
    refine z_cmpN (by omega) (by omega) rfl (fun h_2 => ?_) (fun h_2 => ?_)
    · replace h_2 : m ≤ k := h_2
      omega
    · replace h_2 := Nat.not_le.mp h_2
      refine z_ald rfl rfl ?_
      refine z_get rfl c rfl ?_
      refine z_ild rfl rfl ?_
      refine z_iald rfl cd (by omega) (by omega) ?_
      refine z_top (v2 := zI (r 13 (5 * i + k))) (congrArg zI (td k hk)) ?_
      refine z_go rfl ?_
      refine z_ret rfl ⟨_, rfl⟩ ?_
      exact ⟨rfl, rfl⟩
set_option maxHeartbeats 1000000 in
theorem k_needN {d : Nat} {h : zH} {g : zH} {r : rA} {i a : Nat} {x : Int32} (hg : hle g h) (hr : relI h g r i a) (hx : ∀ k, k < nM r i → ¬ x = nI k) : zPure (d + 1) 37 [zR (some a), zI (x)] h (some (zI (-1))) := by
  obtain ⟨pv, pw, pr, pd, pk, m, y, c, _, ⟨e16, pk8⟩, e17, ⟨e14, m5⟩, ⟨tv, _, ⟨fd, cd, td⟩, ⟨fr, cr, tr⟩⟩⟩ := relI_h hg hr
  obtain ⟨fsv, cv⟩ := vr_cell tv
  rw [nM, e14, nI_clamp (by omega)] at hx
  refine zCall.of (d := d) (T := tb_37) (L := [some (zR (some a)), some (zI (x))]) (Nat.le_of_ble_eq_true rfl) rfl rfl ?_
  refine z_ild rfl rfl ?_
  refine z_if rfl (fun h_1 => ?_) (fun h_1 => ?_)
  · replace h_1 : (x) < 0 := h_1
    refine z_ico (x := (-1)) rfl rfl ?_
    refine z_ret rfl ⟨_, rfl⟩ ?_
    exact ⟨rfl, rfl⟩
  · replace h_1 : ¬ ((x) < 0) := h_1
    refine z_ild rfl rfl ?_
    refine z_ald rfl rfl ?_
    refine z_get rfl c rfl ?_
    refine z_cmp rfl (fun h_2 => ?_) (fun h_2 => ?_)
    · replace h_2 : (nI m) ≤ (x) := h_2
      refine z_ico (x := (-1)) rfl rfl ?_
      refine z_ret rfl ⟨_, rfl⟩ ?_
      exact ⟨rfl, rfl⟩
    · replace h_2 : ¬ ((nI m) ≤ (x)) := h_2
      exact absurd (in_of (by omega) h_1 h_2) (fun z => by obtain ⟨i, a, b⟩ := z; exact hx i a b)
set_option maxHeartbeats 1000000 in
theorem k_X3_hasNeedOf {d : Nat} {h : zH} {g : zH} {r : rA} {i a : Nat} {k : Nat} (hg : hle g h) (hr : relI h g r i a) (hk : k < 8) : zPure (d + 2) 38 [zR (some a), zI (nI k)] h (some (zI (bI (hnB r i k)))) := by
  obtain ⟨pv, pw, pr, pd, pk, m, y, c, _, ⟨e16, pk8⟩, e17, ⟨e14, m5⟩, ⟨tv, _, ⟨fd, cd, td⟩, ⟨fr, cr, tr⟩⟩⟩ := relI_h hg hr
  obtain ⟨fsv, cv⟩ := vr_cell tv
  refine zCall.of (d := d + 1) (T := tb_38) (L := [some (zR (some a)), some (zI (nI k))]) (Nat.le_of_ble_eq_true rfl) rfl rfl ?_
  refine z_ild rfl rfl ?_
  refine z_callF (as := [zI (nI k)]) (r := []) (v := some (zI (bI (isPk (nI k))))) rfl rfl rfl (Nat.le_of_ble_eq_true rfl) (by omega) (by omega) (rc1 rfl) k_X9_isPack ?_
  refine z_ifB0 rfl (fun b_1 => ?_) (fun b_1 => ?_)
  · rw [isPk_n hk] at b_1; cases b_1
  · refine z_ald rfl rfl ?_
    refine z_get rfl c rfl ?_
    refine z_ild rfl rfl ?_
    refine z_aald rfl cr (by omega) (by omega) ?_
    refine z_nl rfl (fun h_2 => ?_) (fun h_2 => ?_)
    · skip
      refine z_ico (x := (nI 0)) rfl rfl ?_
      refine z_ret rfl ⟨_, rfl, Or.inl rfl⟩ ?_
      exact ⟨rfl, rt_f (by rw [hnB, nM, e14, nI_clamp (by omega)]; cases z : ndX r i k m with
        | none => rfl
        | some j => obtain ⟨q, e, _⟩ := (tr k hk).2 j z; rw [h_2] at e; cases e)⟩
    · skip
      refine z_ico (x := (nI 1)) rfl rfl ?_
      refine z_go rfl ?_
      refine z_ret rfl ⟨_, rfl, Or.inr rfl⟩ ?_
      exact ⟨rfl, rt_t (by rw [hnB, nM, e14, nI_clamp (by omega)]; cases z : ndX r i k m with
        | some j => rfl
        | none => exact absurd ((tr k hk).1 z) h_2)⟩
set_option maxHeartbeats 1000000 in
theorem k_X3_excludes {d : Nat} {h : zH} {g : zH} {r : rA} {i j a b : Nat} (hg : hle g h) (hr : relI h g r i a) (hs : relI h g r j b) : zPure (d + 6) 39 [zR (some a), zR (some b)] h (some (zI (bI (exB r i j)))) := by
  obtain ⟨pv, pw, pr, pd, pk, m, y, c, _, ⟨e16, pk8⟩, e17, ⟨e14, m5⟩, ⟨tv, _, ⟨fd, cd, td⟩, ⟨fr, cr, tr⟩⟩⟩ := relI_h hg hr
  obtain ⟨fsv, cv⟩ := vr_cell tv
  obtain ⟨pvb, pwb, prb, pdb, pkb, mb, yb, cb, _, ⟨e16b, pk8b⟩, e17b, ⟨e14b, m5b⟩, ⟨tvb, _, ⟨fdb, cdb, tdb⟩, ⟨frb, crb, trb⟩⟩⟩ := relI_h hg hs
  obtain ⟨fsvb, cvb⟩ := vr_cell tvb
  refine zCall.of (d := d + 5) (T := tb_39) (L := [some (zR (some a)), some (zR (some b)), none]) (Nat.le_of_ble_eq_true rfl) rfl rfl ?_
  refine z_ald rfl rfl ?_
  refine z_get rfl c rfl ?_
  refine z_ald rfl rfl ?_
  refine z_get rfl cb rfl ?_
  refine z_aald rfl cr (by omega) (by omega) ?_
  refine z_ast (ls' := [some (zR (some a)), some (zR (some b)), some (zR (fr pkb))]) rfl (Nat.le_of_ble_eq_true rfl) rfl ?_
  refine z_ald rfl rfl ?_
  refine z_nl rfl (fun h_1 => ?_) (fun h_1 => ?_)
  · skip
    refine z_ico (x := (nI 0)) rfl rfl ?_
    refine z_ret rfl ⟨_, rfl, Or.inl rfl⟩ ?_
    have eb : pkN r j = pkb := by rw [pkN, e16b, nI_clamp (by omega)]
    exact ⟨rfl, rt_f (by rw [exB, nM, e14, nI_clamp (by omega), eb]; cases z : ndX r i pkb m with
      | none => rfl
      | some x => obtain ⟨q, e, _⟩ := (tr pkb pk8b).2 x z; rw [h_1] at e; cases e)⟩
  · obtain ⟨xj, ez⟩ : ∃ xj, ndX r i pkb m = some xj := by
      cases ez : ndX r i pkb m with
      | none => exact absurd ((tr pkb pk8b).1 ez) h_1
      | some xj => exact ⟨xj, rfl⟩
    obtain ⟨q, eq, tq⟩ := (tr pkb pk8b).2 xj ez
    obtain ⟨fsq, cq⟩ := rq_cell tq
    rw [eq]
    refine z_ald rfl rfl ?_
    refine z_ald rfl rfl ?_
    refine z_get rfl cb rfl ?_
    refine z_callF (as := [zR (some q), zR (some pvb)]) (r := []) (v := some (zI (bI (imF (qR r (8 + 5 * i + xj)) (rowV r j))))) rfl rfl rfl (Nat.le_of_ble_eq_true rfl) (by omega) (by omega) (rc0 rfl cq) (k_X4_isMetBy tq tvb) ?_
    refine z_ifB1 rfl (fun b_2 => ?_) (fun b_2 => ?_)
    · refine z_ico (x := (nI 0)) rfl rfl ?_
      refine z_ret rfl ⟨_, rfl, Or.inl rfl⟩ ?_
      have eb : pkN r j = pkb := by rw [pkN, e16b, nI_clamp (by omega)]
      exact ⟨rfl, rt_f (by rw [exB, nM, e14, nI_clamp (by omega), eb, ez]; dsimp only; rw [b_2]; rfl)⟩
    · refine z_ico (x := (nI 1)) rfl rfl ?_
      refine z_go rfl ?_
      refine z_ret rfl ⟨_, rfl, Or.inr rfl⟩ ?_
      have eb : pkN r j = pkb := by rw [pkN, e16b, nI_clamp (by omega)]
      exact ⟨rfl, rt_t (by rw [exB, nM, e14, nI_clamp (by omega), eb, ez]; dsimp only; rw [b_2]; rfl)⟩
