/-! Where it all begins; row by row; the end. -/
theorem ri0 {k i : Nat} (h1 : k ≠ 21) (h2 : k ≠ 22) : riA 8 k i = nI 0 := by
  rw [riA, if_neg (by omega)]; rfl
theorem st0 {h : zH} {K A : Nat → Nat} (inj : ∀ i j, i < 15 → j < 15 → K i = K j → i = j) (c0 : h (K 0) = some (zO 9 [zR (some (K 1)), zR (some (K 3)), zR (some (K 5)), zR (some (K 7)), zR (some (K 12)), zR (some (K 13)), zR (some (K 14))])) (c1 : h (K 1) = some (zO 0 [zR (some (K 2)), zI (nI 0)])) (c2 : h (K 2) = some (zaI 0 160 (fun _ => 0))) (c3 : h (K 3) = some (zO 0 [zR (some (K 4)), zI (nI 0)])) (c4 : h (K 4) = some (zaI 0 216 (fun _ => 0))) (c5 : h (K 5) = some (zO 2 [zR (some (K 6)), zI (nI 0)])) (c6 : h (K 6) = some (zaR 4 40 (fun _ => none))) (c7 : h (K 7) = some (srO (K 5) (K 8) (K 9) (K 10) (K 11) 0)) (c8 : h (K 8) = some (zaI 1 48 (kIni 8))) (c9 : h (K 9) = some (zaJ 8 (oIni 8))) (c10 : h (K 10) = some (zaJ 48 (fun _ => 0))) (c11 : h (K 11) = some (zaJ 8 (fun _ => 0))) (c12 : h (K 12) = some (zaR 5 8 (fun _ => none))) (c13 : h (K 13) = some (zaI 1 8 (upTo (fun _ => 0) (-1) 8))) (c14 : h (K 14) = some (zaI 1 8 (upTo (fun _ => 0) (-1) 8))) : stC h (fun _ => none) K A 0 0 0 (riA 8) := by
  refine ⟨⟨fun _ _ => rfl, inj, c0⟩, ⟨_, c1, c2, by omega, fun j hj => absurd hj (by omega), fun j _ => ?_⟩, ⟨_, c3, c4, by omega, fun j hj => absurd hj (by omega)⟩, ⟨c5, ⟨_, c6, fun i hi => absurd hi (by omega)⟩, by omega, fun i hi => absurd hi (by omega), fun y e z => by cases z⟩, ⟨_, _, _, _, _, c7, c8, c9, c10, c11, ⟨fun o ho => ?_, fun p hp o ho => ?_, fun p hp => ?_⟩, fun a ha b hb => ?_⟩, ⟨_, c12, fun p hp => ⟨fun _ => rfl, fun e => ?_⟩⟩, ⟨_, c13, fun p hp => ?_⟩, ⟨_, c14, fun p hp => ?_⟩⟩
  · decide +kernel
  · rcases ho with ho | ⟨h1, h2⟩
    · omega
    · refine ⟨h2, ?_, ?_⟩
      · rw [kIni, if_pos ⟨h1, h2⟩, kpR, if_neg (by omega)]
      · rw [kpR, if_neg (by omega)]; omega
  · rw [oIni, if_pos hp, tst_sh (by omega) ho, decide_eq_true_eq]
    constructor
    · intro e
      refine ⟨Or.inr (by omega), ?_⟩
      rw [kpR, if_neg (by omega)]; omega
    · rintro ⟨h1 | h1, h2⟩
      · omega
      · rw [kpR, if_neg (by omega)] at h2; omega
  · refine ⟨Or.inr (by omega), ?_⟩
    rw [kpR, if_neg (by omega)]; omega
  · constructor
    · intro e
      rw [tst_0] at e; cases e
    · rintro ⟨h1 | h1, h2 | h2, h3⟩
      · omega
      · omega
      · omega
      · rw [clR, if_neg (by omega), if_neg (by omega)] at h3; cases h3
  · rw [w0, ri0 (by omega) (by omega)] at e; exact absurd e (by decide +kernel)
  · rw [upTo, if_pos hp, riA, if_pos (Or.inl rfl), if_pos hp]
  · rw [upTo, if_pos hp, riA, if_pos (Or.inr rfl), if_pos hp]
theorem rVs0 : rVs (riA 8) 0 := by
  have a : ∀ i, i < 40 → ∃ m, m ≤ 5 ∧ riA 8 14 i = nI m ∧ ∀ k, k < m → ∃ x, x < 8 ∧ riA 8 13 (5 * i + k) = nI x := fun i _ => ⟨0, by omega, ri0 (by omega) (by omega), fun k hk => absurd hk (by omega)⟩
  have b : ∀ y, cnt (riA 8) y = 0 := fun y => by rw [cnt, ri0 (by omega) (by omega)]; decide +kernel
  refine ⟨⟨by omega, fun i hi => absurd hi (by omega), fun i hi => absurd hi (by omega), a, fun i hi => absurd hi (by omega)⟩, ⟨fun y _ => ⟨by rw [b]; exact ri0 (by omega) (by omega), by rw [b]; omega, fun m hm => by rw [b] at hm; omega⟩, fun k _ => ?_, fun i hi => absurd hi (by omega), fun p hp => Or.inl ?_⟩, fun p hp => Or.inl ?_, fun i hi => absurd hi (by omega), ri0 (by omega) (by omega), fun i hi => absurd hi (by omega), fun i _ _ => ri0 (by omega) (by omega)⟩
  · rw [w0, ri0 (by omega) (by omega)]; decide +kernel
  · rw [riA, if_pos (Or.inl rfl), if_pos hp]
  · rw [riA, if_pos (Or.inr rfl), if_pos hp]
theorem sw_cs (x : Int32) : zswt 3 997 x = 997 ∨ zswt 3 997 x ∈ [120, 220, 276, 367, 403, 466, 510, 566, 579, 635, 648, 711, 767, 835, 903, 928, 941] := by
  have key : ∀ m, m < 17 → [120, 220, 276, 367, 403, 466, 510, 566, 579, 635, 648, 711, 767, 835, 903, 928, 941].getD m 0 ∈ [120, 220, 276, 367, 403, 466, 510, 566, 579, 635, 648, 711, 767, 835, 903, 928, 941] := by decide
  show (if x.toInt < 0 ∨ 16 < x.toInt then 997 else [120, 220, 276, 367, 403, 466, 510, 566, 579, 635, 648, 711, 767, 835, 903, 928, 941].getD (x.toInt - 0).toNat 0) = 997 ∨ (if x.toInt < 0 ∨ 16 < x.toInt then 997 else [120, 220, 276, 367, 403, 466, 510, 566, 579, 635, 648, 711, 767, 835, 903, 928, 941].getD (x.toInt - 0).toNat 0) ∈ _
  by_cases c : x.toInt < 0 ∨ 16 < x.toInt
  · exact Or.inl (if_pos c)
  · rw [if_neg c]
    exact Or.inr (key _ (by omega))
theorem sm_lt {L k : Nat} (hL : L < 4) (hk : k ≤ 64) : nI L - nI 4 < nI (4 * k) := by
  have a : nI L - nI 4 < 0 := by
    have : L = 0 ∨ L = 1 ∨ L = 2 ∨ L = 3 := by omega
    rcases this with rfl | rfl | rfl | rfl <;> decide +kernel
  have b : ¬ nI (4 * k) < 0 := nI_pos (by omega)
  rw [Int32.lt_iff_toInt_lt] at a b ⊢
  omega
section
variable {K : Nat → Nat} {q : Nat} {qa : Nat → Nat} {po B L : Nat} {xs : Nat → Int32}
set_option maxRecDepth 20000 in
set_option maxHeartbeats 2000000 in
theorem lw_loop (hL : L ≤ 256) : ∀ k, k ≤ 64 → ∀ (h : zH) (o5 o6 : Option zV) (c0 c s : Nat), lwV h K q qa po c0 → c ≤ 41 + 6900 * k → s ≤ 38513 + 13892 * k → lEv 29 B L xs 600128 7301098 23 [some (zR (some B)), some (zR (some (K 0))), some (zR (some q)), some (zR (some po)), some (zI (nI (4 * k))), o5, o6] [] h c s := by
  refine dn 64 (fun k hk IH h o5 o6 c0 c s V hc hs => ?_)
  have ex : ∀ (h : zH) (o5 o6 : Option zV) (c s : Nat), lEv 29 B L xs 600128 7301098 1003 [some (zR (some B)), some (zR (some (K 0))), some (zR (some q)), some (zR (some po)), some (zI (nI (4 * k))), o5, o6] [] h c s := fun h o5 o6 c s => by
    refine l_ico (x := 1) rfl rfl ?_
    exact l_end rfl
  have bd : 4 * k + 4 ≤ L → lEv 29 B L xs 600128 7301098 32 [some (zR (some B)), some (zR (some (K 0))), some (zR (some q)), some (zR (some po)), some (zI (nI (4 * k))), o5, o6] [] h c s := fun hk4 => by
    have nx : ∀ (h : zH) (o5 o6 : Option zV) (c0 c s : Nat), lwV h K q qa po c0 → c ≤ 41 + 6900 * (k + 1) → s ≤ 38513 + 13892 * (k + 1) → lEv 29 B L xs 600128 7301098 997 [some (zR (some B)), some (zR (some (K 0))), some (zR (some q)), some (zR (some po)), some (zI (nI (4 * k))), o5, o6] [] h c s := fun h o5 o6 c0 c s V hc hs => by
      refine l_inc (x' := nI (4 * (k + 1))) (ls' := [some (zR (some B)), some (zR (some (K 0))), some (zR (some q)), some (zR (some po)), some (zI (nI (4 * (k + 1)))), o5, o6]) rfl rfl (nI_add (4 * k) 4) rfl ?_
      refine l_go rfl ?_
      exact IH (by omega) h o5 o6 c0 c s V hc hs
    have hc9 : c + 6900 ≤ 600128 := by omega
    have hs9 : s + 13892 ≤ 7301098 := by omega
    have hc8 : c + 6900 ≤ 41 + 6900 * (k + 1) := by omega
    have hs8 : s + 13892 ≤ 38513 + 13892 * (k + 1) := Nat.le_trans (Nat.add_le_add_right hs 13892) (Nat.le_of_eq (by rw [Nat.mul_succ, Nat.add_assoc]))
    have kt : lkt K q qa po B L xs 600128 7301098 k c s := fun o5 o6 h' c0 V => nx h' o5 o6 c0 (c + 6900) (s + 13892) V hc8 hs8
    refine l_ald rfl rfl ?_
    refine l_ild rfl rfl ?_
    refine l_sld rfl (by omega) ?_
    refine l_ico (x := nI 31) rfl rfl ?_
    refine l_ibi (v := xs (4 * k) &&& nI 31) rfl rfl ?_
    rcases sw_cs (xs (4 * k) &&& nI 31) with e | e
    · exact l_sw rfl e (nx h o5 o6 c0 c s V (by omega) (by omega))
    · simp only [List.mem_cons, List.not_mem_nil, or_false] at e
      rcases e with e | e | e | e | e | e | e | e | e | e | e | e | e | e | e | e | e
      · exact l_sw rfl e (lc_feed V hk4 hc9 hs9 kt)
      · exact l_sw rfl e (lc_publish V hk4 hc9 hs9 kt)
      · exact l_sw rfl e (lc_yank V hk4 hc9 hs9 kt)
      · exact l_sw rfl e (lc_want V hk4 hc9 hs9 kt)
      · exact l_sw rfl e (lc_drop V hk4 hc9 hs9 kt)
      · exact l_sw rfl e (lc_solve V hk4 hc9 hs9 kt)
      · exact l_sw rfl e (lc_chosen V hk4 hc9 hs9 kt)
      · exact l_sw rfl e (lc_lock V hk4 hc9 hs9 kt)
      · exact l_sw rfl e (lc_pin V hk4 hc9 hs9 kt)
      · exact l_sw rfl e (lc_unlock V hk4 hc9 hs9 kt)
      · exact l_sw rfl e (lc_meets V hk4 hc9 hs9 kt)
      · exact l_sw rfl e (lc_best V hk4 hc9 hs9 kt)
      · exact l_sw rfl e (lc_compare V hk4 hc9 hs9 kt)
      · exact l_sw rfl e (lc_needs V hk4 hc9 hs9 kt)
      · exact l_sw rfl e (lc_told V hk4 hc9 hs9 kt)
      · exact l_sw rfl e (lc_write V hk4 hc9 hs9 kt)
      · exact l_sw rfl e (lc_fileByte V hk4 hc9 hs9 kt)
  refine l_ild rfl rfl ?_
  refine l_ald rfl rfl ?_
  refine l_slen rfl ?_
  refine l_ico (x := nI 4) rfl rfl ?_
  by_cases h4 : 4 ≤ L
  · refine l_ibi (v := nI (L - 4)) rfl (pk_sub h4) ?_
    refine l_cmpN (by omega) (by omega) rfl (fun _ => ex _ _ _ _ _) (fun e => ?_)
    replace e := Nat.not_lt.mp e
    exact bd (by omega)
  · refine l_ibi (v := nI L - nI 4) rfl rfl ?_
    exact l_cmp rfl (fun _ => ex _ _ _ _ _) (fun e => absurd (sm_lt (by omega) hk) e)
set_option maxRecDepth 20000 in
set_option maxHeartbeats 2000000 in
/-- the whole of the law, in the pure machine -/
theorem lw_all (hL : L ≤ 256) : lEv 29 B L xs 600128 7301098 0 [some (zR (some B)), none, none, none, none, none, none] [] (fun _ => none) 0 0 := by
  refine l_new rfl (by decide) (by decide) ?_
  intro x h1 x0 x1 x2
  replace x1 : h1 x = some (zO 9 [zR none, zR none, zR none, zR none, zR none, zR none, zR none]) := x1
  refine l_dup rfl rfl ?_
  refine l_call (as := [zR (some x)]) (r := [zR (some x)]) (mc' := 14) (ms' := 564) rfl (by decide) rfl rfl (Nat.le_of_ble_eq_true rfl) (by decide) (by decide) (rc2 rfl) (k_X9_init (d := 28) (g := fun _ => none) (fun y e z => by cases z) rfl x1) (fun h' e z => by cases z.1) (fun h2 u z => ?_)
  obtain ⟨u0, K, hK0, inj, xe, c0, c1, c2, c3, c4, c5, c6, c7, c8, c9, c10, c11, c12, c13, c14⟩ := z
  cases u0
  subst hK0
  refine l_ast (ls' := [some (zR (some B)), some (zR (some (K 0))), none, none, none, none, none]) rfl (Nat.le_of_ble_eq_true rfl) rfl ?_
  refine l_new rfl (by decide) (by decide) ?_
  intro q h3 q0 q1 q2
  refine l_dup rfl rfl ?_
  refine l_call (as := [zR (some q)]) (r := [zR (some q)]) (mc' := 24) (ms' := 37911) rfl (by decide) rfl rfl (Nat.le_of_ble_eq_true rfl) (by decide) (by decide) (rc2 rfl) (k_X10_init (d := 29) q1) (fun h' e z => by cases z.1) (fun h4 u z => ?_)
  obtain ⟨u1, qa, r1, r2, r3⟩ := z
  cases u1
  refine l_ast (ls' := [some (zR (some B)), some (zR (some (K 0))), some (zR (some q)), none, none, none, none]) rfl (Nat.le_of_ble_eq_true rfl) rfl ?_
  refine l_ico (x := nI 1) rfl rfl ?_
  refine l_newI (e := zaJ 1 (fun _ => 0)) rfl (by decide) (by decide) (by decide) rfl ?_
  intro po h5 p0 p1 p2
  refine l_ast (ls' := [some (zR (some B)), some (zR (some (K 0))), some (zR (some q)), some (zR (some po)), none, none, none]) rfl (Nat.le_of_ble_eq_true rfl) rfl ?_
  refine l_ico (x := nI (4 * 0)) rfl rfl ?_
  refine l_ist (ls' := [some (zR (some B)), some (zR (some (K 0))), some (zR (some q)), some (zR (some po)), some (zI (nI (4 * 0))), none, none]) rfl (Nat.le_of_ble_eq_true rfl) rfl ?_
  have nn : ∀ i, i < 15 → h2 (K i) ≠ none := fun i hi => match i, hi with
    | 0, _ => some_nn c0
    | 1, _ => some_nn c1
    | 2, _ => some_nn c2
    | 3, _ => some_nn c3
    | 4, _ => some_nn c4
    | 5, _ => some_nn c5
    | 6, _ => some_nn c6
    | 7, _ => some_nn c7
    | 8, _ => some_nn c8
    | 9, _ => some_nn c9
    | 10, _ => some_nn c10
    | 11, _ => some_nn c11
    | 12, _ => some_nn c12
    | 13, _ => some_nn c13
    | 14, _ => some_nn c14
    | n + 15, z => absurd z (by omega)
  have nq : ∀ i, i < 15 → K i ≠ q := fun i hi e => nn i hi (by rw [e]; exact q0)
  have t3 : ∀ i, i < 15 → h3 (K i) = h2 (K i) := fun i hi => q2 _ (nq i hi)
  have na : ∀ i, i < 15 → ∀ k t n, rarr k = some (t, n) → K i ≠ qa k := fun i hi k t n hk e => nn i hi (by rw [← t3 i hi, e]; exact r2 k t n hk)
  have t4 : ∀ i, i < 15 → h4 (K i) = h2 (K i) := fun i hi => (r3 _ (nq i hi) (na i hi)).trans (t3 i hi)
  have np : ∀ i, i < 15 → K i ≠ po := fun i hi e => nn i hi (by rw [← t4 i hi, e]; exact p0)
  have tr : ∀ i, i < 15 → h5 (K i) = h2 (K i) := fun i hi => (p2 _ (np i hi)).trans (t4 i hi)
  have n1 : ¬ po = q := fun e => by rw [e, r1.1] at p0; cases p0
  have n2 : ∀ k t m, rarr k = some (t, m) → ¬ po = qa k := fun k t m hk e => by rw [e, r1.2.1 k t m hk] at p0; cases p0
  have I : lwI h5 (fun _ => none) K (fun _ => 0) q qa po 0 0 0 false 0 0 (riA 8) := by
    refine ⟨st0 inj ((tr 0 (by omega)).trans c0) ((tr 1 (by omega)).trans c1) ((tr 2 (by omega)).trans c2) ((tr 3 (by omega)).trans c3) ((tr 4 (by omega)).trans c4) ((tr 5 (by omega)).trans c5) ((tr 6 (by omega)).trans c6) ((tr 7 (by omega)).trans c7) ((tr 8 (by omega)).trans c8) ((tr 9 (by omega)).trans c9) ((tr 10 (by omega)).trans c10) ((tr 11 (by omega)).trans c11) ((tr 12 (by omega)).trans c12) ((tr 13 (by omega)).trans c13) ((tr 14 (by omega)).trans c14), rVs0, ⟨(p2 q (fun e => n1 e.symm)).trans r1.1, fun k t m hk => (p2 _ (fun e => n2 k t m hk e.symm)).trans (r1.2.1 k t m hk), r1.2.2⟩, ⟨_, p1⟩, fun y hy => ⟨rfl, fun i hi e => ?_⟩, fun i j hi => absurd hi (by omega), n1, n2⟩
    rcases hy with e1 | e1 | ⟨k, t, m, hk, e1⟩
    · exact nq i hi (e.symm.trans e1)
    · exact np i hi (e.symm.trans e1)
    · exact na i hi k t m hk (e.symm.trans e1)
  exact lw_loop hL 0 (by omega) h5 none none 0 _ _ ⟨_, _, _, _, _, _, _, _, I⟩ (by omega) (by omega)
end
