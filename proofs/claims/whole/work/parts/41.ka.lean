theorem rc0 {j p : Nat} {t fs : List zV} {h : zH} (hk : zK j = 0) (hp : h p = some (zO (zci j) fs)) : zrcv (zK j) (zci j) (zR (some p) :: t) h := by rw [hk]; exact ⟨p, t, fs, rfl, hp⟩
theorem rc1 {j : Nat} {as : List zV} {h : zH} (hk : zK j = 1) : zrcv (zK j) (zci j) as h := by rw [hk]; trivial
theorem rc2 {j p : Nat} {t : List zV} {h : zH} (hk : zK j = 2) : zrcv (zK j) (zci j) (zR (some p) :: t) h := by rw [hk]; exact ⟨p, t, rfl⟩
def cmp3 (x y : Int32) : Int32 := if x < y then -1 else if x = y then nI 0 else nI 1
/-- the number of digits -/
def dgN (w : Nat → Int32) : Nat → Nat
  | 0 => 0
  | m + 1 => 10 * dgN w m + ((w m).toNatClampNeg - 48)
theorem isDg_ex {x : Int32} (h : isDg x = true) : ∃ k, k < 10 ∧ x = nI (48 + k) := by
  have h1 : ¬ x < nI 48 ∧ ¬ nI 57 < x := by simpa [isDg] using h
  have h0 : ¬ x < 0 := fun e => h1.1 (by rw [Int32.lt_iff_toInt_lt] at e ⊢; rw [nI_toInt (by omega)]; simp at e; omega)
  obtain ⟨j, hj, e⟩ := nI_of h0
  subst e
  have g1 : 48 ≤ j := Nat.not_lt.mp (fun g => h1.1 ((nI_ltI hj (by omega)).mpr g))
  have g2 : j ≤ 57 := Nat.not_lt.mp (fun g => h1.2 ((nI_ltI (by omega) hj).mpr g))
  exact ⟨j - 48, by omega, by rw [show 48 + (j - 48) = j by omega]⟩
theorem alld_at {w : Nat → Int32} : ∀ m, alld w m 0 = true → ∀ j, j < m → isDg (w j) = true
  | 0, _, j, hj => absurd hj (by omega)
  | m + 1, h, j, hj => by
    rw [alld_s, Nat.zero_add] at h
    have h1 : alld w m 0 = true ∧ isDg (w m) = true := by simpa using h
    by_cases e : j = m
    · rw [e]; exact h1.2
    · exact alld_at m h1.1 j (by omega)
theorem alld_of {w : Nat → Int32} : ∀ m, (∀ j, j < m → isDg (w j) = true) → alld w m 0 = true
  | 0, _ => rfl
  | m + 1, h => by
    rw [alld_s, Nat.zero_add, alld_of m (fun j hj => h j (by omega)), h m (by omega)]
    rfl
theorem dgN_lt {w : Nat → Int32} : ∀ m, alld w m 0 = true → dgN w m < 10 ^ m
  | 0, _ => by simp [dgN]
  | m + 1, h => by
    have hm := alld_at _ h m (by omega)
    have ih := dgN_lt m (alld_of m (fun j hj => alld_at _ h j (by omega)))
    obtain ⟨k, hk, e⟩ := isDg_ex hm
    rw [dgN, e, nI_clamp (by omega), Nat.pow_succ]
    omega
theorem dgv_N {w : Nat → Int32} : ∀ m, m ≤ 9 → alld w m 0 = true → dgv w 0 m = nI (dgN w m)
  | 0, _, _ => rfl
  | m + 1, h9, h => by
    have hm := alld_at _ h m (by omega)
    have ih := dgv_N m (by omega) (alld_of m (fun j hj => alld_at _ h j (by omega)))
    obtain ⟨k, hk, e⟩ := isDg_ex hm
    rw [dgv, dgN, ih, Nat.zero_add, e, pk_mul, nI_add, pk_sub (by omega), nI_clamp (by omega)]
    congr 1
    omega
theorem dgN_b {w : Nat → Int32} {m : Nat} (h9 : m ≤ 9) (h : alld w m 0 = true) : dgN w m < 2 ^ 31 := by
  have h1 := dgN_lt m h
  have h2 : 10 ^ m ≤ 10 ^ 9 := Nat.pow_le_pow_right (by omega) h9
  omega
theorem dgN_low {w : Nat → Int32} (h0 : ¬ w 0 = nI 48) : ∀ m, alld w (m + 1) 0 = true → 10 ^ m ≤ dgN w (m + 1)
  | 0, h => by
    obtain ⟨k, hk, e⟩ := isDg_ex (alld_at _ h 0 (by omega))
    have : k ≠ 0 := fun g => h0 (by rw [e, g])
    rw [dgN, dgN, e, nI_clamp (by omega)]
    omega
  | m + 1, h => by
    have ih := dgN_low h0 m (alld_of _ (fun j hj => alld_at _ h j (by omega)))
    rw [dgN, Nat.pow_succ]
    omega
theorem dgN_dif {x y : Nat → Int32} {k : Nat} (he : ∀ j, j < k → x j = y j) : ∀ m, alld x (k + m) 0 = true → alld y (k + m) 0 = true → dgN x k = dgN y k
  | _, _, _ => by
    have g : ∀ i, i ≤ k → dgN x i = dgN y i := by
      intro i
      induction i with
      | zero => intro _; rfl
      | succ i ih => intro hi; rw [dgN, dgN, ih (by omega), he i (by omega)]
    exact g k (Nat.le_refl _)
theorem dgN_lt2 {x y : Nat → Int32} {k : Nat} (he : ∀ j, j < k → x j = y j) (hk : x k < y k) : ∀ m, alld x (k + 1 + m) 0 = true → alld y (k + 1 + m) 0 = true → dgN x (k + 1 + m) < dgN y (k + 1 + m)
  | 0, hx, hy => by
    obtain ⟨a, ha, ea⟩ := isDg_ex (alld_at _ hx k (by omega))
    obtain ⟨b, hb, eb⟩ := isDg_ex (alld_at _ hy k (by omega))
    rw [ea, eb] at hk
    have := (nI_ltI (by omega) (by omega)).mp hk
    rw [Nat.add_zero, dgN, dgN, dgN_dif he 0 (alld_of _ (fun j hj => alld_at _ hx j (by omega))) (alld_of _ (fun j hj => alld_at _ hy j (by omega))), ea, eb, nI_clamp (by omega), nI_clamp (by omega)]
    omega
  | m + 1, hx, hy => by
    have ih := dgN_lt2 he hk m (alld_of _ (fun j hj => alld_at _ hx j (by omega))) (alld_of _ (fun j hj => alld_at _ hy j (by omega)))
    obtain ⟨a, ha, ea⟩ := isDg_ex (alld_at _ hx (k + 1 + m) (by omega))
    rw [show k + 1 + (m + 1) = (k + 1 + m) + 1 by omega, dgN, dgN, ea, nI_clamp (by omega)]
    omega
theorem cmp3_lt {a b : Nat} (hb : b < 2 ^ 31) (h : a < b) : cmp3 (nI a) (nI b) = -1 := by rw [cmp3, if_pos ((nI_ltI (by omega) hb).mpr h)]
theorem cmp3_gt {a b : Nat} (ha : a < 2 ^ 31) (h : b < a) : cmp3 (nI a) (nI b) = nI 1 := by
  rw [cmp3, if_neg (fun g => by have := (nI_ltI ha (by omega)).mp g; omega), if_neg (fun g => by have := (nI_eq ha (by omega)).mp g; omega)]
theorem cmp3_eq (x : Int32) : cmp3 x x = nI 0 := by rw [cmp3, if_neg (fun g => by rw [Int32.lt_iff_toInt_lt] at g; omega), if_pos rfl]
/-- two words of digits, of one length -/
theorem bcF_num {x y : Nat → Int32} {m : Nat} (h9 : m ≤ 9) (hx : alld x m 0 = true) (hy : alld y m 0 = true) : ∀ (j k : Nat), m < k + j → k ≤ m → (∀ i, i < k → x i = y i) → bcF x y m m j k = cmp3 (nI (dgN x m)) (nI (dgN y m))
  | 0, k, h1, h2, _ => absurd h1 (by omega)
  | j + 1, k, h1, h2, he => by
    rw [bcF]
    by_cases hk : k < m
    · rw [if_pos ⟨hk, hk⟩]
      by_cases e : x k = y k
      · rw [if_pos e]
        exact bcF_num h9 hx hy j (k + 1) (by omega) (by omega) (fun i hi => by by_cases g : i = k; (rw [g]; exact e); exact he i (by omega))
      · rw [if_neg e]
        by_cases g : y k ≤ x k
        · rw [if_pos g]
          have g2 : y k < x k := by
            rw [Int32.lt_iff_toInt_lt]
            rw [Int32.le_iff_toInt_le] at g
            have : x k ≠ y k := e
            have : (x k).toInt ≠ (y k).toInt := fun q => e (Int32.toInt_inj.mp q)
            omega
          have := dgN_lt2 (fun i hi => (he i hi).symm) g2 (m - (k + 1)) (by rw [show k + 1 + (m - (k + 1)) = m by omega]; exact hy) (by rw [show k + 1 + (m - (k + 1)) = m by omega]; exact hx)
          rw [show k + 1 + (m - (k + 1)) = m by omega] at this
          rw [cmp3_gt (dgN_b h9 hx) this]
        · rw [if_neg g]
          have g2 : x k < y k := by
            rw [Int32.lt_iff_toInt_lt]
            rw [Int32.le_iff_toInt_le] at g
            omega
          have := dgN_lt2 he g2 (m - (k + 1)) (by rw [show k + 1 + (m - (k + 1)) = m by omega]; exact hx) (by rw [show k + 1 + (m - (k + 1)) = m by omega]; exact hy)
          rw [show k + 1 + (m - (k + 1)) = m by omega] at this
          rw [cmp3_lt (dgN_b h9 hy) this]
    · rw [if_neg (fun g => hk g.1), if_pos rfl]
      have hkm : k = m := by omega
      have : dgN x m = dgN y m := dgN_dif (k := m) (fun i hi => he i (by omega)) 0 hx hy
      rw [this, cmp3_eq]
def wnum (w : Nat → Int32) (m : Nat) : Int32 := if alld w m 0 = true then dgv w 0 m else -1
/-- a sound word -/
def wgood (w : Nat → Int32) (m : Nat) : Prop := 0 < m ∧ m ≤ 24 ∧ (alld w m 0 = true → m ≤ 9 ∧ (1 < m → ¬ w 0 = nI 48))
theorem wnum_t {w : Nat → Int32} {m : Nat} (h : wgood w m) (ha : alld w m 0 = true) : wnum w m = nI (dgN w m) ∧ ¬ wnum w m = -1 := by
  have e : wnum w m = nI (dgN w m) := by rw [wnum, if_pos ha, dgv_N m (h.2.2 ha).1 ha]
  exact ⟨e, by rw [e]; exact nI_ne1 (dgN_b (h.2.2 ha).1 ha)⟩
theorem wnum_iff {w : Nat → Int32} {m : Nat} (h : wgood w m) : wnum w m = -1 ↔ alld w m 0 = false := by
  constructor
  · intro e
    by_cases ha : alld w m 0 = true
    · exact absurd e (wnum_t h ha).2
    · simpa using ha
  · intro e
    rw [wnum, if_neg (by rw [e]; decide)]
theorem cwF_num {x y : Nat → Int32} {la lb : Nat} (hx : wgood x la) (hy : wgood y lb) (ax : alld x la 0 = true) (ay : alld y lb 0 = true) : cmp3 (wnum x la) (wnum y lb) = cwF x y la lb := by
  rw [(wnum_t hx ax).1, (wnum_t hy ay).1, cwF, if_pos (by rw [ax, ay])]
  have h1 := (hx.2.2 ax).1
  have h2 := (hy.2.2 ay).1
  by_cases e : la = lb
  · subst e
    rw [if_neg (fun g => g.2 rfl)]
    exact (bcF_num h1 ax ay _ 0 (by omega) (by omega) (fun i hi => absurd hi (by omega))).symm
  · rw [if_pos ⟨ax, e⟩]
    by_cases g : lb ≤ la
    · rw [if_pos g]
      have hl : 1 < la := by have := hy.1; omega
      have a1 := dgN_lt lb ay
      have a2 := dgN_low ((hx.2.2 ax).2 hl) (la - 1) (by rw [show la - 1 + 1 = la by omega]; exact ax)
      rw [show la - 1 + 1 = la by omega] at a2
      have a3 : 10 ^ lb ≤ 10 ^ (la - 1) := Nat.pow_le_pow_right (by omega) (by omega)
      exact cmp3_gt (dgN_b h1 ax) (by omega)
    · rw [if_neg g]
      have hl : 1 < lb := by have := hx.1; omega
      have a1 := dgN_lt la ax
      have a2 := dgN_low ((hy.2.2 ay).2 hl) (lb - 1) (by rw [show lb - 1 + 1 = lb by omega]; exact ay)
      rw [show lb - 1 + 1 = lb by omega] at a2
      have a3 : 10 ^ la ≤ 10 ^ (lb - 1) := Nat.pow_le_pow_right (by omega) (by omega)
      exact cmp3_lt (dgN_b h2 ay) (by omega)
/-- a word object -/
def wdAt (h : zH) (p : Nat) (w : Nat → Int32) (m : Nat) : Prop := ∃ pb fb, h p = some (zO 8 [zR (some pb), zI (wnum w m)]) ∧ h pb = some (zaI 0 m fb) ∧ (∀ j, j < m → fb j = w j) ∧ wgood w m
set_option maxHeartbeats 1000000 in
theorem k_compare3 {d : Nat} {h : zH} {x y : Int32}  : zPure (d + 1) 0 [zI (x), zI (y)] h (some (zI (cmp3 x y))) := by
  refine zCall.of (d := d) (T := tb_0) (L := [some (zI (x)), some (zI (y))]) (Nat.le_of_ble_eq_true rfl) rfl rfl ?_
  refine z_ild rfl rfl ?_
  refine z_ild rfl rfl ?_
  refine z_cmp rfl (fun h_1 => ?_) (fun h_1 => ?_)
  · replace h_1 : (y) ≤ (x) := h_1
    refine z_ild rfl rfl ?_
    refine z_ild rfl rfl ?_
    refine z_cmp rfl (fun h_2 => ?_) (fun h_2 => ?_)
    · replace h_2 : ¬ (x) = (y) := h_2
      refine z_ico (x := (nI 1)) rfl rfl ?_
      refine z_ret rfl ⟨_, rfl⟩ ?_
      exact ⟨rfl, by rw [cmp3, if_neg (Int32.not_lt.mpr h_1), if_neg h_2]⟩
    · replace h_2 : (x) = (y) := Decidable.of_not_not h_2
      refine z_ico (x := (nI 0)) rfl rfl ?_
      refine z_go rfl ?_
      refine z_ret rfl ⟨_, rfl⟩ ?_
      exact ⟨rfl, by rw [cmp3, if_neg (Int32.not_lt.mpr h_1), if_pos h_2]⟩
  · replace h_1 : ¬ ((y) ≤ (x)) := h_1
    refine z_ico (x := (-1)) rfl rfl ?_
    refine z_go rfl ?_
    refine z_ret rfl ⟨_, rfl⟩ ?_
    exact ⟨rfl, by rw [cmp3, if_pos (Int32.not_le.mp h_1)]⟩
set_option maxHeartbeats 1000000 in
theorem kl_word {d : Nat} {Q : zQ} {h : zH} {p1 b1 p2 b2 la lb : Nat} {x y f1 f2 : Nat → Int32} (h1 : h p1 = some (zO 8 [zR (some b1), zI (wnum x la)])) (h2 : h b1 = some (zaI 0 la f1)) (h3 : h p2 = some (zO 8 [zR (some b2), zI (wnum y lb)])) (h4 : h b2 = some (zaI 0 lb f2)) (hla : la ≤ 24) (hlb : lb ≤ 24) (g1 : ∀ j, j < la → f1 j = x j) (g2 : ∀ j, j < lb → f2 j = y j) (hQ : Q h (.inl (some (zI (bcF x y la lb (la + 1) 0))))) : ∀ k, k ≤ la → ∀ (hb : bcF x y la lb (la + 1) 0 = bcF x y la lb (la + 1 - k) k), zEv (d + 1) tb_72 0 0 Q 50 [some (zR (some p1)), some (zR (some p2)), some (zI (nI k))] [] h 0 0 := by
  refine dn la (fun k hk ih hb => ?_)
  refine z_ild rfl rfl ?_
  refine z_ald rfl rfl ?_
  refine z_get rfl h1 rfl ?_
  refine z_len (m := la) rfl (by rw [h2]; rfl) ?_
  refine z_cmpN (by omega) (by omega) rfl (fun h_1 => ?_) (fun h_1 => ?_)
  · replace h_1 : la ≤ k := h_1
    refine z_ald rfl rfl ?_
    refine z_get rfl h1 rfl ?_
    refine z_len (m := la) rfl (by rw [h2]; rfl) ?_
    refine z_ald rfl rfl ?_
    refine z_get rfl h3 rfl ?_
    refine z_len (m := lb) rfl (by rw [h4]; rfl) ?_
    refine z_callF (as := [zI (nI la), zI (nI lb)]) (r := []) (v := some (zI (cmp3 (nI la) (nI lb)))) rfl rfl rfl (Nat.le_of_ble_eq_true rfl) (by omega) (by omega) (rc1 rfl) k_compare3 ?_
    refine z_ret rfl ⟨_, rfl⟩ ?_
    have h9 : bcF x y la lb (la + 1) 0 = cmp3 (nI la) (nI lb) := by
      rw [hb, show la + 1 - k = (la - k) + 1 by omega, bcF, if_neg (fun g => by omega)]
      by_cases e : la = lb
      · rw [if_pos e, e, cmp3_eq]
      · rw [if_neg e]
        by_cases e2 : lb ≤ la
        · rw [if_pos e2, cmp3_gt (by omega) (by omega)]
        · rw [if_neg e2, cmp3_lt (by omega) (by omega)]
    rw [h9] at hQ
    exact hQ
  · replace h_1 := Nat.not_le.mp h_1
    refine z_ild rfl rfl ?_
    refine z_ald rfl rfl ?_
    refine z_get rfl h3 rfl ?_
    refine z_len (m := lb) rfl (by rw [h4]; rfl) ?_
    refine z_cmpN (by omega) (by omega) rfl (fun h_2 => ?_) (fun h_2 => ?_)
    · replace h_2 : lb ≤ k := h_2
      refine z_ald rfl rfl ?_
      refine z_get rfl h1 rfl ?_
      refine z_len (m := la) rfl (by rw [h2]; rfl) ?_
      refine z_ald rfl rfl ?_
      refine z_get rfl h3 rfl ?_
      refine z_len (m := lb) rfl (by rw [h4]; rfl) ?_
      refine z_callF (as := [zI (nI la), zI (nI lb)]) (r := []) (v := some (zI (cmp3 (nI la) (nI lb)))) rfl rfl rfl (Nat.le_of_ble_eq_true rfl) (by omega) (by omega) (rc1 rfl) k_compare3 ?_
      refine z_ret rfl ⟨_, rfl⟩ ?_
      have h9 : bcF x y la lb (la + 1) 0 = cmp3 (nI la) (nI lb) := by
        rw [hb, show la + 1 - k = (la - k) + 1 by omega, bcF, if_neg (fun g => by omega)]
        by_cases e : la = lb
        · rw [if_pos e, e, cmp3_eq]
        · rw [if_neg e]
          by_cases e2 : lb ≤ la
          · rw [if_pos e2, cmp3_gt (by omega) (by omega)]
          · rw [if_neg e2, cmp3_lt (by omega) (by omega)]
      rw [h9] at hQ
      exact hQ
    · replace h_2 := Nat.not_le.mp h_2
      refine z_ald rfl rfl ?_
      refine z_get rfl h1 rfl ?_
      refine z_ild rfl rfl ?_
      refine z_iald rfl h2 (by omega) (by omega) ?_
      refine z_ald rfl rfl ?_
      refine z_get rfl h3 rfl ?_
      refine z_ild rfl rfl ?_
      refine z_iald rfl h4 (by omega) (by omega) ?_
      refine z_cmp rfl (fun h_3 => ?_) (fun h_3 => ?_)
      · replace h_3 : (f1 k) = (f2 k) := h_3
        refine z_inc (x' := (nI (k + 1))) (ls' := [some (zR (some p1)), some (zR (some p2)), some (zI (nI (k + 1)))]) rfl rfl (nI_1 _) rfl ?_
        refine z_go rfl ?_
        refine ih (by omega) ?_
        rw [hb, show la + 1 - k = (la + 1 - (k + 1)) + 1 by omega, bcF, if_pos ⟨h_1, h_2⟩, if_pos (by rw [← g1 k h_1, ← g2 k h_2]; exact h_3)]
      · replace h_3 : ¬ ((f1 k) = (f2 k)) := h_3
        refine z_ald rfl rfl ?_
        refine z_get rfl h1 rfl ?_
        refine z_ild rfl rfl ?_
        refine z_iald rfl h2 (by omega) (by omega) ?_
        refine z_ald rfl rfl ?_
        refine z_get rfl h3 rfl ?_
        refine z_ild rfl rfl ?_
        refine z_iald rfl h4 (by omega) (by omega) ?_
        refine z_cmp rfl (fun h_4 => ?_) (fun h_4 => ?_)
        · replace h_4 : (f2 k) ≤ (f1 k) := h_4
          refine z_ico (x := (nI 1)) rfl rfl ?_
          refine z_ret rfl ⟨_, rfl⟩ ?_
          rw [hb, show la + 1 - k = (la - k) + 1 by omega, bcF, if_pos ⟨h_1, h_2⟩, if_neg (by rw [← g1 k h_1, ← g2 k h_2]; exact h_3), if_pos (by rw [← g1 k h_1, ← g2 k h_2]; exact h_4)] at hQ
          exact hQ
        · replace h_4 : ¬ ((f2 k) ≤ (f1 k)) := h_4
          refine z_ico (x := (-1)) rfl rfl ?_
          refine z_go rfl ?_
          refine z_ret rfl ⟨_, rfl⟩ ?_
          rw [hb, show la + 1 - k = (la - k) + 1 by omega, bcF, if_pos ⟨h_1, h_2⟩, if_neg (by rw [← g1 k h_1, ← g2 k h_2]; exact h_3), if_neg (by rw [← g1 k h_1, ← g2 k h_2]; exact h_4)] at hQ
          exact hQ
set_option maxHeartbeats 1000000 in
theorem k_X8_order {d : Nat} {h : zH} {p1 b1 p2 b2 la lb : Nat} {x y f1 f2 : Nat → Int32} (h1 : h p1 = some (zO 8 [zR (some b1), zI (wnum x la)])) (h2 : h b1 = some (zaI 0 la f1)) (h3 : h p2 = some (zO 8 [zR (some b2), zI (wnum y lb)])) (h4 : h b2 = some (zaI 0 lb f2)) (g1 : ∀ j, j < la → f1 j = x j) (g2 : ∀ j, j < lb → f2 j = y j) (gx : wgood x la) (gy : wgood y lb) : zPure (d + 2) 72 [zR (some p1), zR (some p2)] h (some (zI (cwF x y la lb))) := by
  have ax : ¬ wnum x la = -1 → alld x la 0 = true := fun e => by by_cases q : alld x la 0 = true; exact q; exact absurd ((wnum_iff gx).mpr (by simpa using q)) e
  have ay : ¬ wnum y lb = -1 → alld y lb 0 = true := fun e => by by_cases q : alld y lb 0 = true; exact q; exact absurd ((wnum_iff gy).mpr (by simpa using q)) e
  have nx := wnum_iff gx
  have ny := wnum_iff gy
  have hla := gx.2.1
  have hlb := gy.2.1
  refine zCall.of (d := d + 1) (T := tb_72) (L := [some (zR (some p1)), some (zR (some p2)), none]) (Nat.le_of_ble_eq_true rfl) rfl rfl ?_
  refine z_ald rfl rfl ?_
  refine z_get rfl h1 rfl ?_
  refine z_ico (x := (-1)) rfl rfl ?_
  refine z_cmp rfl (fun h_1 => ?_) (fun h_1 => ?_)
  · replace h_1 : (wnum x la) = (-1) := h_1
    refine z_ald rfl rfl ?_
    refine z_get rfl h1 rfl ?_
    refine z_ico (x := (-1)) rfl rfl ?_
    refine z_cmp rfl (fun h_2 => ?_) (fun h_2 => ?_)
    · replace h_2 : (wnum x la) = (-1) := h_2
      refine z_ald rfl rfl ?_
      refine z_get rfl h3 rfl ?_
      refine z_ico (x := (-1)) rfl rfl ?_
      refine z_cmp rfl (fun h_3 => ?_) (fun h_3 => ?_)
      · replace h_3 : (wnum y lb) = (-1) := h_3
        refine z_ico (x := (nI 0)) rfl rfl ?_
        refine z_ist (ls' := [some (zR (some p1)), some (zR (some p2)), some (zI (nI 0))]) rfl (Nat.le_of_ble_eq_true rfl) rfl ?_
        have q1 := nx.mp h_1
        have q2 := ny.mp h_3
        have h9 : cwF x y la lb = bcF x y la lb (la + 1) 0 := by rw [cwF, if_pos (by rw [q1, q2]), if_neg (fun g => by rw [q1] at g; cases g.1)]
        rw [h9]
        exact kl_word h1 h2 h3 h4 hla hlb g1 g2 ⟨rfl, rfl⟩ 0 (by omega) rfl
      · replace h_3 : ¬ ((wnum y lb) = (-1)) := h_3
        refine z_ico (x := (nI 1)) rfl rfl ?_
        refine z_ret rfl ⟨_, rfl⟩ ?_
        have q1 := nx.mp h_1
        have q2 := ay h_3
        exact ⟨rfl, by rw [cwF, if_neg (by rw [q1, q2]; decide), if_neg (by rw [q1]; decide)]⟩
    · replace h_2 : ¬ ((wnum x la) = (-1)) := h_2
      exact absurd h_1 h_2
  · replace h_1 : ¬ ((wnum x la) = (-1)) := h_1
    refine z_ald rfl rfl ?_
    refine z_get rfl h3 rfl ?_
    refine z_ico (x := (-1)) rfl rfl ?_
    refine z_cmp rfl (fun h_4 => ?_) (fun h_4 => ?_)
    · replace h_4 : (wnum y lb) = (-1) := h_4
      refine z_ald rfl rfl ?_
      refine z_get rfl h1 rfl ?_
      refine z_ico (x := (-1)) rfl rfl ?_
      refine z_cmp rfl (fun h_5 => ?_) (fun h_5 => ?_)
      · replace h_5 : (wnum x la) = (-1) := h_5
        exact absurd h_5 h_1
      · replace h_5 : ¬ ((wnum x la) = (-1)) := h_5
        refine z_ico (x := (-1)) rfl rfl ?_
        refine z_ret rfl ⟨_, rfl⟩ ?_
        have q1 := ax h_1
        have q2 := ny.mp h_4
        exact ⟨rfl, by rw [cwF, if_neg (by rw [q1, q2]; decide), if_pos q1]⟩
    · replace h_4 : ¬ ((wnum y lb) = (-1)) := h_4
      refine z_ald rfl rfl ?_
      refine z_get rfl h1 rfl ?_
      refine z_ald rfl rfl ?_
      refine z_get rfl h3 rfl ?_
      refine z_callF (as := [zI (wnum x la), zI (wnum y lb)]) (r := []) (v := some (zI (cmp3 (wnum x la) (wnum y lb)))) rfl rfl rfl (Nat.le_of_ble_eq_true rfl) (by omega) (by omega) (rc1 rfl) k_compare3 ?_
      refine z_ret rfl ⟨_, rfl⟩ ?_
      exact ⟨rfl, by rw [cwF_num gx gy (ax h_1) (ay h_4)]⟩
