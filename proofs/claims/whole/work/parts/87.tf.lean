/-! Bytes of a long. -/
def lbB (x : Int64) (k : Nat) : BitVec 8 := (x.toBitVec >>> (8 * k)).setWidth 8
def bby (x : Int64) (k : Nat) : Int32 := (Int64.toInt32 (zlsh 2 x (nI (8 * k)))).toInt8.toInt32
theorem zl2_bv (x : Int64) {o : Nat} (h : o < 64) : (zlsh 2 x (nI o)).toBitVec = x.toBitVec >>> o := by
  have e := sh_amt ⟨o, h⟩
  show ((x.toUInt64 >>> ((nI o).toInt64.toUInt64 &&& Int64.toUInt64 63)).toInt64).toBitVec = _
  have : (x.toUInt64 >>> ((nI o).toInt64.toUInt64 &&& Int64.toUInt64 63)).toBitVec = x.toBitVec >>> o := by
    rw [UInt64.toBitVec_shiftRight, e]
    show x.toUInt64.toBitVec >>> (BitVec.ofNat 64 o % 64) = _
    have : (BitVec.ofNat 64 o % 64).toNat = o := by
      simp
      omega
    rw [BitVec.ushiftRight_eq', this]
    rfl
  exact this
theorem sh_amt1 : ∀ o : Fin 64, (((nI o).toInt64 &&& 63).toBitVec.smod 64).toNat = o.val := by decide +kernel
theorem zl1_bv (x : Int64) {o : Nat} (h : o < 64) : (zlsh 1 x (nI o)).toBitVec = x.toBitVec.sshiftRight o := by
  have e := sh_amt1 ⟨o, h⟩
  show (x >>> ((nI o).toInt64 &&& 63)).toBitVec = _
  rw [Int64.toBitVec_shiftRight]
  show x.toBitVec.sshiftRight (((nI o).toInt64 &&& 63).toBitVec.smod 64).toNat = _
  rw [e]
theorem bit255 : ∀ i : Fin 64, (255 : Int64).toBitVec.getLsbD i = decide (i.val < 8) := by decide +kernel
theorem fby_bv (x : Int64) {k : Nat} (hk : k < 8) : (fby x k).toBitVec = (lbB x k).setWidth 32 := by
  refine BitVec.eq_of_getLsbD_eq (fun i hi => ?_)
  have e : (fby x k).toBitVec = ((zlsh 1 x (nI (8 * k)) &&& 255).toBitVec).signExtend 32 := rfl
  rw [e, BitVec.getLsbD_signExtend, Int64.toBitVec_and, BitVec.getLsbD_and, zl1_bv x (by omega), bit255 ⟨i, by omega⟩, BitVec.getLsbD_setWidth, lbB, BitVec.getLsbD_setWidth, BitVec.getLsbD_ushiftRight, BitVec.getLsbD_sshiftRight]
  simp only [hi, decide_true, Bool.true_and]
  rw [if_pos (by omega)]
  by_cases c : i < 8
  · have c2 : 8 * k + i < 64 := by omega
    have c3 : ¬ 64 ≤ i := by omega
    simp [c, c2, c3]
  · simp [c]
theorem bby_bv (x : Int64) {k : Nat} (hk : k < 8) : (bby x k).toBitVec = (lbB x k).signExtend 32 := by
  have e : (bby x k).toBitVec = (((zlsh 2 x (nI (8 * k))).toBitVec.signExtend 32).signExtend 8).signExtend 32 := rfl
  have e2 : ((zlsh 2 x (nI (8 * k))).toBitVec.signExtend 32).signExtend 8 = lbB x k := by
    refine BitVec.eq_of_getLsbD_eq (fun i hi => ?_)
    rw [BitVec.getLsbD_signExtend, BitVec.getLsbD_signExtend, zl2_bv x (by omega), lbB, BitVec.getLsbD_setWidth]
    have c : i < 32 := by omega
    have c2 : i < 64 := by omega
    simp [hi, c, c2]
  rw [e, e2]
theorem by_all : ∀ b : Fin 256, (Int32.ofBitVec ((BitVec.ofFin b : BitVec 8).signExtend 32) = Int32.ofBitVec ((BitVec.ofFin b : BitVec 8).setWidth 32) ∨ (Int32.ofBitVec ((BitVec.ofFin b : BitVec 8).signExtend 32) < 0 ∧ nI 127 < Int32.ofBitVec ((BitVec.ofFin b : BitVec 8).setWidth 32))) ∧ fits .byte (.int (Int32.ofBitVec ((BitVec.ofFin b : BitVec 8).signExtend 32))) = true ∧ (Int32.ofBitVec ((BitVec.ofFin b : BitVec 8).signExtend 32)).toInt8.toInt32 = Int32.ofBitVec ((BitVec.ofFin b : BitVec 8).signExtend 32) := by decide +kernel
theorem by_rel (x : Int64) {k : Nat} (hk : k < 8) : (bby x k = fby x k ∨ (bby x k < 0 ∧ nI 127 < fby x k)) ∧ fits .byte (.int (bby x k)) = true ∧ (bby x k).toInt8.toInt32 = bby x k := by
  have h := by_all (lbB x k).toFin
  have e1 : Int32.ofBitVec ((lbB x k).signExtend 32) = bby x k := Int32.toBitVec_inj.mp ((bby_bv x hk).symm)
  have e2 : Int32.ofBitVec ((lbB x k).setWidth 32) = fby x k := Int32.toBitVec_inj.mp ((fby_bv x hk).symm)
  rw [show (BitVec.ofFin (lbB x k).toFin : BitVec 8) = lbB x k from rfl, e1, e2] at h
  exact h
/-- the text, with k bytes of x behind -/
def tcF (tc : Nat → Int32) (n : Nat) (x : Int64) (k : Nat) : Nat → Int32 := fun j => if n ≤ j ∧ j < n + k then bby x (j - n) else tc j
theorem tcF_0 (tc : Nat → Int32) (n : Nat) (x : Int64) : tcF tc n x 0 = tc := by
  funext j
  exact if_neg (by omega)
theorem tcF_s (tc : Nat → Int32) (n : Nat) (x : Int64) (k : Nat) : upd (tcF tc n x k) (n + k) (bby x k) = tcF tc n x (k + 1) := by
  funext j
  unfold upd tcF
  by_cases e : j = n + k
  · rw [if_pos e, if_pos (by omega), show j - n = k by omega]
  · rw [if_neg e]
    by_cases c : n ≤ j ∧ j < n + k
    · rw [if_pos c, if_pos (by omega)]
    · rw [if_neg c, if_neg (by omega)]
theorem tc_ok {r : rA} {tc : Nat → Int32} {n m : Nat} {x : Int64} (hm : m ≤ 8) (h : txR n (r 2) tc) (hf : ∀ j, j < 160 → fits .byte (.int (tc j)) = true) : txR (n + m) (rput r 2 n (fby x) m 2) (tcF tc n x m) ∧ ∀ j, j < 160 → fits .byte (.int (tcF tc n x m j)) = true := by
  constructor
  · intro j hj
    have e : rput r 2 n (fby x) m 2 j = if n ≤ j ∧ j < n + m then fby x (j - n) else r 2 j := by simp [rput]
    rw [e]
    unfold tcF
    by_cases c : n ≤ j ∧ j < n + m
    · rw [if_pos c, if_pos c]; exact (by_rel x (by omega)).1
    · rw [if_neg c, if_neg c]; exact h j (by omega)
  · intro j hj
    unfold tcF
    by_cases c : n ≤ j ∧ j < n + m
    · rw [if_pos c]; exact (by_rel x (by omega)).2.1
    · rw [if_neg c]; exact hf j hj
theorem fd_of {y : Int32} (h1 : ¬ y < nI 1) (h2 : y ≤ nI 8) : ∃ m, 1 ≤ m ∧ m ≤ 8 ∧ y = nI m := by
  have h0 : ¬ y < 0 := fun e => h1 (by rw [Int32.lt_iff_toInt_lt] at e ⊢; rw [nI_toInt (by omega)]; simp at e; omega)
  obtain ⟨j, hj, e⟩ := nI_of h0
  subst e
  exact ⟨j, Nat.not_lt.mp (fun g => h1 ((nI_ltI hj (by omega)).mpr g)), (nI_leI hj (by omega)).mp h2, rfl⟩
theorem fd_cs (y : Int32) : (∃ m, 1 ≤ m ∧ m ≤ 8 ∧ y = nI m ∧ isIn y (nI 1) (nI 8) = true) ∨ (isIn y (nI 1) (nI 8) = false ∧ ∀ m, 1 ≤ m → m ≤ 8 → ¬ y = nI m) := by
  have key : ∀ m, 1 ≤ m → m ≤ 8 → isIn (nI m) (nI 1) (nI 8) = true := fun m a b => by
    unfold isIn
    rw [decide_eq_false (fun g => by have := (nI_ltI (a := m) (b := 1) (by omega) (by omega)).mp g; omega), decide_eq_false (fun g => by have := (nI_ltI (a := 8) (b := m) (by omega) (by omega)).mp g; omega)]
    rfl
  cases e : isIn y (nI 1) (nI 8) with
  | true =>
    have e' := e
    unfold isIn at e
    rw [Bool.and_eq_true] at e
    have h1 : ¬ y < nI 1 := by simpa using e.1
    have h2 : ¬ nI 8 < y := by simpa using e.2
    obtain ⟨m, a, b, c⟩ := fd_of h1 (i_le_n.mp h2)
    exact Or.inl ⟨m, a, b, c, rfl⟩
  | false => exact Or.inr ⟨rfl, fun m a b c => by rw [c, key m a b] at e; cases e⟩
set_option maxHeartbeats 1000000 in
theorem kl_fd {d : Nat} {Q : zQ}  {K : Nat → Nat} {n m : Nat} {x : Int64} {tc : Nat → Int32} (hm8 : m ≤ 8) (hnm : n + m ≤ 160)  : ∀ k, k ≤ m → ∀ (h : zH) (hX : h (K 0) = some (zO 9 [zR (some (K 1)), zR (some (K 3)), zR (some (K 5)), zR (some (K 7)), zR (some (K 12)), zR (some (K 13)), zR (some (K 14))])) (hT1 : h (K 1) = some (zO 0 [zR (some (K 2)), zI (nI (n + k))])) (hT2 : h (K 2) = some (zaI 0 160 (tcF tc n x k))) (hQ : ∀ h', h' (K 1) = some (zO 0 [zR (some (K 2)), zI (nI (n + m))]) → h' (K 2) = some (zaI 0 160 (tcF tc n x m)) → (∀ y, y ≠ K 1 → y ≠ K 2 → h' y = h y) → Q h' (.inl (some (zI (nI (n + m)))))), zEv (d + 1) tb_74 0 0 Q 45 [some (zR (some (K 0))), some (zJ x), none, some (zI (nI m)), some (zI (nI k))] [] h 0 0 := by
  refine dn m (fun k hk ih h hX hT1 hT2 hQ => ?_)
  refine z_ild rfl rfl ?_
  refine z_ild rfl rfl ?_
  refine z_cmpN (by omega) (by omega) rfl (fun h_1 => ?_) (fun h_1 => ?_)
  · replace h_1 : m ≤ k := h_1
    refine z_ald rfl rfl ?_
    refine z_get rfl hX rfl ?_
    refine z_get rfl hT1 rfl ?_
    refine z_ret rfl ⟨_, rfl⟩ ?_
    have e : k = m := by omega
    subst e
    exact hQ _ hT1 hT2 (fun _ _ _ => rfl)
  · replace h_1 := Nat.not_le.mp h_1
    refine z_ald rfl rfl ?_
    refine z_get rfl hX rfl ?_
    refine z_lld rfl rfl ?_
    refine z_ico (x := (nI 8)) rfl rfl ?_
    refine z_ild rfl rfl ?_
    refine z_ibi (v := (nI (8 * k))) rfl (pk_mul _ _) ?_
    refine z_lsh (v := zlsh 2 x (nI (8 * k))) rfl rfl ?_
    refine z_l2i (v := Int64.toInt32 (zlsh 2 x (nI (8 * k)))) rfl rfl ?_
    refine z_i2b (v := (Int32.toInt8 (Int64.toInt32 (zlsh 2 x (nI (8 * k))))).toInt32) rfl rfl ?_
    refine z_top (v2 := zI (bby x k)) (congrArg zI rfl) ?_
    refine z_call (as := [zR (some (K 1)), zI (bby x k)]) (r := []) (mc' := 0) (ms' := 0) rfl rfl rfl (Nat.le_of_ble_eq_true rfl) (by omega) (by omega) (rc0 rfl hT1) (k_X0_append hT1 hT2 (by omega) (by omega) (by_rel x (by omega)).2.2) (by rintro _ _ ⟨e, _⟩; cases e) ?_
    rintro g_2 _ ⟨e9, e_3, e_4, f_5⟩; cases e9
    · skip
      have k_6 := (f_5 (K 0) (zne hX hT1 (by nofun)) (zne hX hT2 (by nofun))).trans hX
      refine z_inc (x' := (nI (k + 1))) (ls' := [some (zR (some (K 0))), some (zJ x), none, some (zI (nI m)), some (zI (nI (k + 1)))]) rfl rfl (nI_1 _) rfl ?_
      refine z_go rfl ?_
      refine ih (by omega) _ k_6 e_3 ?_ (fun h' e1 e2 f => hQ h' e1 e2 (fun y hy hz => (f y hy hz).trans (f_5 y hy hz)))
      rw [← tcF_s]
      exact e_4
set_option maxHeartbeats 1000000 in
theorem k_X9_feed {d : Nat} {h : zH} {g : zH} {K A : Nat → Nat} {n v f : Nat} {r : rA} {x : Int64} {m : Nat} (st : stC h g K A n v f r) (hI : rVs r v) (hm1 : 1 ≤ m) (hm8 : m ≤ 8) (hm : n + m ≤ 160) : zCall (d + 2) 74 [zR (some (K 0)), zJ x, zI (nI m)] h 0 0 (fun h' o => o = .inl (some (zI (nI (n + m)))) ∧ poC h g K A v h' (n + m) v f (rput r 2 n (fby x) m)) := by
  have st0 := st
  obtain ⟨hx, ⟨tc, hT1, hT2, hn, htx, htf⟩, ⟨fc, hF1, hF2, hf6, hfc⟩, hr, ⟨Kf, O, C, T, fo, hS1, hS2, hS3, hS4, hS5, hsr, hcs⟩, ⟨fR, hR1, hrt⟩, ⟨fP, hP1, hpp⟩, ⟨fC, hC1, hcc⟩⟩ := st
  have hX := hx.2.2
  have hr0 := hr
  obtain ⟨hG1, ⟨fl, hG2, hfl⟩, hv, hrel, hg⟩ := hr
  refine zCall.of (d := d + 1) (T := tb_74) (L := [some (zR (some (K 0))), some (zJ x), none, some (zI (nI m)), none]) (Nat.le_of_ble_eq_true rfl) rfl rfl ?_
  refine z_ild rfl rfl ?_
  refine z_ico (x := (nI 1)) rfl rfl ?_
  refine z_cmpN (by omega) (by omega) rfl (fun h_1 => ?_) (fun h_1 => ?_)
  · replace h_1 : m < 1 := h_1
    omega
  · replace h_1 := Nat.not_lt.mp h_1
    refine z_ild rfl rfl ?_
    refine z_ico (x := (nI 8)) rfl rfl ?_
    refine z_cmpN (by omega) (by omega) rfl (fun h_2 => ?_) (fun h_2 => ?_)
    · replace h_2 : m ≤ 8 := h_2
      refine z_ald rfl rfl ?_
      refine z_get rfl hX rfl ?_
      refine z_get rfl hT1 rfl ?_
      refine z_ild rfl rfl ?_
      refine z_ibi (v := (nI (n + m))) rfl (nI_add _ _) ?_
      refine z_ico (x := (nI 160)) rfl rfl ?_
      refine z_cmpN (by omega) (by omega) rfl (fun h_3 => ?_) (fun h_3 => ?_)
      · replace h_3 : n + m ≤ 160 := h_3
        refine z_ico (x := (nI 0)) rfl rfl ?_
        refine z_ist (ls' := [some (zR (some (K 0))), some (zJ x), none, some (zI (nI m)), some (zI (nI 0))]) rfl (Nat.le_of_ble_eq_true rfl) rfl ?_
        refine kl_fd (tc := tc) (by omega) hm 0 (by omega) _ hX hT1 (by rw [tcF_0]; exact hT2) (fun h' e1 e2 f => ⟨rfl, ?_⟩)
        have tk := tc_ok (r := r) (m := m) (x := x) (by omega) htx htf
        exact st_T st0 hI (fun y hy => f y (fun z => hy (Or.inl z)) (fun z => hy (Or.inr z))) (fun j hj => rput_n hj) ⟨_, e1, e2, hm, tk.1, tk.2⟩
      · replace h_3 := Nat.not_le.mp h_3
        omega
    · replace h_2 := Nat.not_le.mp h_2
      omega
set_option maxHeartbeats 1000000 in
theorem k_feed2 {d : Nat} {h : zH} {g : zH} {K A : Nat → Nat} {n v f : Nat} {r : rA} {x : Int64} {m : Nat} (st : stC h g K A n v f r) (hm1 : 1 ≤ m) (hm8 : m ≤ 8) (hm : 160 < n + m) : zCall (d + 2) 74 [zR (some (K 0)), zJ x, zI (nI m)] h 1 6 (fun h' o => h' = h ∧ o = .inr 1) := by
  have st0 := st
  obtain ⟨hx, ⟨tc, hT1, hT2, hn, htx, htf⟩, ⟨fc, hF1, hF2, hf6, hfc⟩, hr, ⟨Kf, O, C, T, fo, hS1, hS2, hS3, hS4, hS5, hsr, hcs⟩, ⟨fR, hR1, hrt⟩, ⟨fP, hP1, hpp⟩, ⟨fC, hC1, hcc⟩⟩ := st
  have hX := hx.2.2
  have hr0 := hr
  obtain ⟨hG1, ⟨fl, hG2, hfl⟩, hv, hrel, hg⟩ := hr
  refine zCall.of (d := d + 1) (T := tb_74) (L := [some (zR (some (K 0))), some (zJ x), none, some (zI (nI m)), none]) (Nat.le_of_ble_eq_true rfl) rfl rfl ?_
  refine z_ild rfl rfl ?_
  refine z_ico (x := (nI 1)) rfl rfl ?_
  refine z_cmpN (by omega) (by omega) rfl (fun h_1 => ?_) (fun h_1 => ?_)
  · replace h_1 : m < 1 := h_1
    omega
  · replace h_1 := Nat.not_lt.mp h_1
    refine z_ild rfl rfl ?_
    refine z_ico (x := (nI 8)) rfl rfl ?_
    refine z_cmpN (by omega) (by omega) rfl (fun h_2 => ?_) (fun h_2 => ?_)
    · replace h_2 : m ≤ 8 := h_2
      refine z_ald rfl rfl ?_
      refine z_get rfl hX rfl ?_
      refine z_get rfl hT1 rfl ?_
      refine z_ild rfl rfl ?_
      refine z_ibi (v := (nI (n + m))) rfl (nI_add _ _) ?_
      refine z_ico (x := (nI 160)) rfl rfl ?_
      refine z_cmpN (by omega) (by omega) rfl (fun h_3 => ?_) (fun h_3 => ?_)
      · replace h_3 : n + m ≤ 160 := h_3
        omega
      · replace h_3 := Nat.not_le.mp h_3
        refine z_thr rfl (by omega) (by omega) (Nat.le_of_ble_eq_true rfl) ?_
        exact ⟨rfl, rfl⟩
    · replace h_2 := Nat.not_le.mp h_2
      omega
set_option maxHeartbeats 1000000 in
theorem k_feed1 {d : Nat} {h : zH} {g : zH} {K A : Nat → Nat} {n v f : Nat} {r : rA} {x : Int64} {y : Int32} (st : stC h g K A n v f r) (hy : ∀ m, 1 ≤ m → m ≤ 8 → ¬ y = nI m) : zCall (d + 2) 74 [zR (some (K 0)), zJ x, zI (y)] h 1 6 (fun h' o => h' = h ∧ o = .inr 0) := by
  have st0 := st
  obtain ⟨hx, ⟨tc, hT1, hT2, hn, htx, htf⟩, ⟨fc, hF1, hF2, hf6, hfc⟩, hr, ⟨Kf, O, C, T, fo, hS1, hS2, hS3, hS4, hS5, hsr, hcs⟩, ⟨fR, hR1, hrt⟩, ⟨fP, hP1, hpp⟩, ⟨fC, hC1, hcc⟩⟩ := st
  have hX := hx.2.2
  have hr0 := hr
  obtain ⟨hG1, ⟨fl, hG2, hfl⟩, hv, hrel, hg⟩ := hr
  refine zCall.of (d := d + 1) (T := tb_74) (L := [some (zR (some (K 0))), some (zJ x), none, some (zI (y)), none]) (Nat.le_of_ble_eq_true rfl) rfl rfl ?_
  refine z_ild rfl rfl ?_
  refine z_ico (x := (nI 1)) rfl rfl ?_
  refine z_cmp rfl (fun h_1 => ?_) (fun h_1 => ?_)
  · replace h_1 : (y) < (nI 1) := h_1
    refine z_thr rfl (by omega) (by omega) (Nat.le_of_ble_eq_true rfl) ?_
    exact ⟨rfl, rfl⟩
  · replace h_1 : ¬ ((y) < (nI 1)) := h_1
    refine z_ild rfl rfl ?_
    refine z_ico (x := (nI 8)) rfl rfl ?_
    refine z_cmp rfl (fun h_2 => ?_) (fun h_2 => ?_)
    · replace h_2 : (y) ≤ (nI 8) := h_2
      exact absurd (fd_of h_1 h_2) (fun z => by obtain ⟨m, a, b, c⟩ := z; exact hy m a b c)
    · replace h_2 : ¬ ((y) ≤ (nI 8)) := h_2
      refine z_thr rfl (by omega) (by omega) (Nat.le_of_ble_eq_true rfl) ?_
      exact ⟨rfl, rfl⟩
