theorem at_ahd {n e c : Nat} {t : Nat → Int32} (hc : c < 128) : ahd n e false t = nI c ↔ atc n t e c := by
  constructor
  · intro h
    exact (ahd_eq h (nI_ne1 (by omega))).2
  · intro h
    rw [ahd_in h.1]; exact h.2
theorem not_at {n e c : Nat} {t : Nat → Int32} (h : n ≤ e) : ¬ atc n t e c := fun g => by have := g.1; omega
/-- how many points stand between words -/
def cwN (t : Nat → Int32) (n : Nat) : Nat → Nat → Nat
  | 0, _ => 0
  | k + 1, a => if atc n t (spn isWd t n a) 46 then cwN t n k (spn isWd t n a + 1) + 1 else 0
theorem cwN_y {t : Nat → Int32} {n k j a : Nat} (hk : k = j + 1) (h : atc n t (spn isWd t n a) 46) : cwN t n k a = cwN t n j (spn isWd t n a + 1) + 1 := by rw [hk, cwN, if_pos h]
theorem cwN_n {t : Nat → Int32} {n k a : Nat} (h : ¬ atc n t (spn isWd t n a) 46) : cwN t n k a = 0 := by
  cases k with
  | zero => rfl
  | succ k => rw [cwN, if_neg h]
theorem cwN_le {t : Nat → Int32} {n : Nat} : ∀ (k a : Nat), a ≤ n → cwN t n k a ≤ n - a
  | 0, _, _ => Nat.zero_le _
  | k + 1, a, h => by
    have h1 : a ≤ spn isWd t n a := spn_ge
    rw [cwN]
    split
    · rename_i g
      have := cwN_le (t := t) (n := n) k (spn isWd t n a + 1) (by have := g.1; omega)
      have := g.1
      omega
    · omega
theorem wrF_bad {nb : Bool} {t : Nat → Int32} {n k a : Nat} (hk : 0 < k) (h : wbad nb t (spn isWd t n a - a) a = true) : wrF nb t n k a = (spn isWd t n a, true) := by
  obtain ⟨j, e⟩ : ∃ j, k = j + 1 := ⟨k - 1, by omega⟩
  rw [e, wrF, if_pos h]
theorem wrF_end {nb : Bool} {t : Nat → Int32} {n k a : Nat} (hk : 0 < k) (h : wbad nb t (spn isWd t n a - a) a = false) (hp : ¬ atc n t (spn isWd t n a) 46) : wrF nb t n k a = (spn isWd t n a, false) := by
  obtain ⟨j, e⟩ : ∃ j, k = j + 1 := ⟨k - 1, by omega⟩
  rw [e, wrF, if_neg (by rw [h]; nofun), if_neg (fun g => hp ((at_ahd (by omega)).mp g))]
theorem wrF_go {nb : Bool} {t : Nat → Int32} {n k j a : Nat} (hk : k = j + 1) (h : wbad nb t (spn isWd t n a - a) a = false) (hp : atc n t (spn isWd t n a) 46) : wrF nb t n k a = wrF nb t n j (spn isWd t n a + 1) := by
  rw [hk, wrF, if_neg (by rw [h]; nofun), if_pos ((at_ahd (by omega)).mpr hp)]
theorem wbad_0 {t : Nat → Int32} {m a : Nat} (h : m = 0) {nb : Bool} : wbad nb t m a = true := by simp [wbad, h]
theorem wbad_f {t : Nat → Int32} {m a : Nat} (h : ¬ m = 0) : wbad false t m a = false := by simp [wbad, h]
/-- where the words begin -/
def psF (t : Nat → Int32) (n a : Nat) : Nat → Nat
  | 0 => a
  | i + 1 => spn isWd t n (psF t n a i) + 1
/-- words behind '-': where they end, whether they are no good -/
def bwE (t : Nat → Int32) (n a : Nat) : Nat := if atc n t a 45 then (wr true t n (a + 1)).1 else a
def bwB (t : Nat → Int32) (n a : Nat) : Prop := atc n t a 45 ∧ (wr true t n (a + 1)).2 = true
def wsP (g : zH) (q : Nat) (t : Nat → Int32) (n a : Nat) : Prop := ∃ L f, g q = some (zaR 7 L f) ∧ ((¬ atc n t a 45 ∧ L = 0) ∨ (atc n t a 45 ∧ L = cwN t n (n + 1 - (a + 1)) (a + 1) + 1 ∧ psF t n (a + 1) L = bwE t n a + 1 ∧ ∀ i, i < L → ∃ r, f i = some r ∧ wd0 g r (fun j => t (psF t n (a + 1) i + j)) (spn isWd t n (psF t n (a + 1) i) - psF t n (a + 1) i)))
theorem wsP_mono {g h : zH} (l : hle g h) {q : Nat} {t : Nat → Int32} {n a : Nat} (k : wsP g q t n a) : wsP h q t n a := by
  obtain ⟨L, f, a, b⟩ := k
  refine ⟨L, f, l _ _ a, ?_⟩
  rcases b with b | ⟨b1, b2, b4, b5⟩
  · exact Or.inl b
  · exact Or.inr ⟨b1, b2, b4, fun i hi => by obtain ⟨r, x, y⟩ := b5 i hi; exact ⟨r, x, wd0_mono l y⟩⟩
theorem va_up_s (f : Nat → Option Nat) (i : Nat) (v : Option Nat) : va_up f i v i = v := by simp [va_up]
theorem va_up_n (f : Nat → Option Nat) {i j : Nat} (v : Option Nat) (h : j ≠ i) : va_up f i v j = f j := by simp [va_up, h]
/-- what is behind '+': where it ends, whether it is no good -/
def pbE (t : Nat → Int32) (n a : Nat) : Nat := if atc n t a 43 then (wr false t n (a + 1)).1 else a
def pbB (t : Nat → Int32) (n a : Nat) : Prop := atc n t a 43 ∧ (wr false t n (a + 1)).2 = true
theorem pbE_le {t : Nat → Int32} {n a : Nat} (h : a ≤ n) : a ≤ pbE t n a ∧ pbE t n a ≤ n := by
  unfold pbE
  split
  · rename_i g
    have := wr_le (nb := false) (t := t) (n := n) (a := a + 1) (by have := g.1; omega)
    omega
  · omega
theorem bwE_le {t : Nat → Int32} {n a : Nat} (h : a ≤ n) : a ≤ bwE t n a ∧ bwE t n a ≤ n := by
  unfold bwE
  split
  · rename_i g
    have := wr_le (nb := true) (t := t) (n := n) (a := a + 1) (by have := g.1; omega)
    omega
  · omega
theorem hs_word {s a b e n L ms : Nat} (h1 : s + 2 * (L + 1) + (n - b) ≤ ms) (h2 : b ≤ e) (h3 : e ≤ n) : s + (e - b + 2) ≤ ms := by omega
/-- the first k words are laid in an array -/
def wlT (g : zH) (f : Nat → Option Nat) (t : Nat → Int32) (n a k : Nat) : Prop := ∀ i, i < k → ∃ r, f i = some r ∧ wd0 g r (fun j => t (psF t n a i + j)) (spn isWd t n (psF t n a i) - psF t n a i)
theorem wlT_mono {g h : zH} (l : hle g h) {f : Nat → Option Nat} {t : Nat → Int32} {n a k : Nat} (w : wlT g f t n a k) : wlT h f t n a k := fun i hi => by obtain ⟨r, x, y⟩ := w i hi; exact ⟨r, x, wd0_mono l y⟩
theorem wl_step {g g' : zH} {f : Nat → Option Nat} {t : Nat → Int32} {n a k q : Nat} (w : wlT g f t n a k) (l : hle g g') (tq : wd0 g' q (fun j => t (psF t n a k + j)) (spn isWd t n (psF t n a k) - psF t n a k)) : wlT g' (va_up f k (some q)) t n a (k + 1) := by
  intro i hi
  by_cases e : i = k
  · subst e
    exact ⟨q, va_up_s _ _ _, tq⟩
  · obtain ⟨r, x, y⟩ := w i (by omega)
    exact ⟨r, by rw [va_up_n _ _ e]; exact x, wd0_mono l y⟩
theorem wr_fst {x : Nat × Bool} {e : Nat} {b : Bool} (h : x = (e, b)) : x.1 = e ∧ x.2 = b := by rw [h]; exact ⟨rfl, rfl⟩
set_option maxHeartbeats 1000000 in
theorem kl_cw {d : Nat} {Q : zQ}  {p pb pn n a : Nat} {t tc : Nat → Int32} (hx : txR n t tc) (hn : n ≤ 160) (ha : a ≤ n)  : ∀ k, k ≤ n → ∀ (h : zH) (b : Nat) (h1 : h p = some (rdO pb n b pn)) (h2 : h pb = some (zaI 0 160 tc)) (hb : a + k ≤ b) (hbn : b ≤ n) (hQ : ∀ h', h' p = some (rdO pb n a pn) → (∀ y, y ≠ p → h' y = h y) → Q h' (.inl (some (zI (nI (k + 1 + cwN t n (n + 1 - a - k) b)))))), zEv (d + 1) tb_19 0 0 Q 9 [some (zR (some p)), some (zI (nI a)), some (zI (nI (k + 1))), some (zI (nI k))] [] h 0 0 := by
  refine dn n (fun k hk ih h b h1 h2 hb hbn hQ => ?_)
  refine z_ild rfl rfl ?_
  refine z_ald rfl rfl ?_
  refine z_get rfl h1 rfl ?_
  refine z_cmpN (by omega) (by omega) rfl (fun h_1 => ?_) (fun h_1 => ?_)
  · replace h_1 : n ≤ k := h_1
    have h9 : cwN t n (n + 1 - a - k) b = 0 := cwN_n (by rw [spn_end (by omega)]; exact not_at (by omega))
    rw [h9, Nat.add_zero] at hQ
    refine z_ald rfl rfl ?_
    refine z_ild rfl rfl ?_
    refine z_put (e := zO 1 [zR (some pb), zI (nI n), zI (nI a), zR (some pn)]) rfl h1 (Nat.le_of_ble_eq_true rfl) ⟨_, rfl⟩ rfl ?_
    intro g_2 e_3 f_4
    have k_5 := (f_4 pb (zne h2 h1 (by nofun))).trans h2
    refine z_ild rfl rfl ?_
    refine z_ret rfl ⟨_, rfl⟩ ?_
    exact hQ _ e_3 (fun y hy => f_4 y hy)
  · replace h_1 := Nat.not_le.mp h_1
    refine z_ald rfl rfl ?_
    refine z_call (as := [zR (some p)]) (r := []) (mc' := 0) (ms' := 0) rfl rfl rfl (Nat.le_of_ble_eq_true rfl) (by omega) (by omega) (rc0 rfl h1) (k_X1_skipWord hx hn (a := b) (by omega) h1 h2) (by rintro _ _ ⟨e, _⟩; cases e) ?_
    rintro g_6 _ ⟨e9, e_7, f_8⟩; cases e9
    · skip
      have e_7_a : b ≤ spn isWd t n b := spn_ge
      have e_7_b : spn isWd t n b ≤ n := spn_le (by omega)
      have k_9 := (f_8 pb (zne h2 h1 (by nofun))).trans h2
      refine z_ald rfl rfl ?_
      refine z_ico (x := (nI 46)) rfl rfl ?_
      refine z_call (as := [zR (some p), zI (nI 46)]) (r := []) (mc' := 0) (ms' := 0) rfl rfl rfl (Nat.le_of_ble_eq_true rfl) (by omega) (by omega) (rc0 rfl e_7) (k_X1_take hx hn (a := spn isWd t n b) (c := 46) (by omega) e_7 k_9 (by omega)) (by rintro _ _ (⟨e, _⟩ | ⟨e, _⟩) <;> cases e) ?_
      rintro g_10 _ (⟨e9, x_11, e_12, f_13⟩ | ⟨e9, x_11, e8⟩) <;> cases e9
      · skip
        have k_14 := (f_13 pb (zne k_9 e_7 (by nofun))).trans k_9
        have l_x_11 := x_11.1
        refine z_ifN (by omega) rfl (fun h_15 => ?_) (fun h_15 => ?_)
        · replace h_15 : ¬ 1 = 0 := h_15
          refine z_inc (x' := (nI (k + 1 + 1))) (ls' := [some (zR (some p)), some (zI (nI a)), some (zI (nI (k + 1 + 1))), some (zI (nI k))]) rfl rfl (nI_1 _) rfl ?_
          refine z_inc (x' := (nI (k + 1))) (ls' := [some (zR (some p)), some (zI (nI a)), some (zI (nI (k + 1 + 1))), some (zI (nI (k + 1)))]) rfl rfl (nI_1 _) rfl ?_
          refine z_go rfl ?_
          exact ih (by omega) _ _ e_12 k_14 (by omega) (by omega) (fun h' e f => by have h8 := hQ h' e (fun y hy => (f y hy).trans ((f_13 y hy).trans (f_8 y hy))); rw [cwN_y (j := n + 1 - a - (k + 1)) (by omega) x_11] at h8; rw [show k + 1 + 1 + cwN t n (n + 1 - a - (k + 1)) (spn isWd t n b + 1) = k + 1 + (cwN t n (n + 1 - a - (k + 1)) (spn isWd t n b + 1) + 1) by omega]; exact h8)
        · replace h_15 : 1 = 0 := Decidable.of_not_not h_15
          omega
      · skip
        cases e8
        refine z_ifN (by omega) rfl (fun h_16 => ?_) (fun h_16 => ?_)
        · replace h_16 : ¬ 0 = 0 := h_16
          omega
        · replace h_16 : 0 = 0 := Decidable.of_not_not h_16
          refine z_go rfl ?_
          have h9 : cwN t n (n + 1 - a - k) b = 0 := cwN_n x_11
          rw [h9, Nat.add_zero] at hQ
          refine z_ald rfl rfl ?_
          refine z_ild rfl rfl ?_
          refine z_put (e := zO 1 [zR (some pb), zI (nI n), zI (nI a), zR (some pn)]) rfl e_7 (Nat.le_of_ble_eq_true rfl) ⟨_, rfl⟩ rfl ?_
          intro g_17 e_18 f_19
          have k_20 := (f_19 pb (zne k_9 e_7 (by nofun))).trans k_9
          refine z_ild rfl rfl ?_
          refine z_ret rfl ⟨_, rfl⟩ ?_
          exact hQ _ e_18 (fun y hy => (f_19 y hy).trans (f_8 y hy))
set_option maxHeartbeats 1000000 in
theorem k_X1_countWords {d : Nat} {h : zH} {p pb pn n a : Nat} {t tc : Nat → Int32} (hx : txR n t tc) (hn : n ≤ 160) (ha : a ≤ n) (h1 : h p = some (rdO pb n a pn)) (h2 : h pb = some (zaI 0 160 tc)) : zPure (d + 2) 19 [zR (some p)] h (some (zI (nI (cwN t n (n + 1 - a) a + 1)))) := by
  refine zCall.of (d := d + 1) (T := tb_19) (L := [some (zR (some p)), none, none, none]) (Nat.le_of_ble_eq_true rfl) rfl rfl ?_
  refine z_ald rfl rfl ?_
  refine z_get rfl h1 rfl ?_
  refine z_ist (ls' := [some (zR (some p)), some (zI (nI a)), none, none]) rfl (Nat.le_of_ble_eq_true rfl) rfl ?_
  refine z_ico (x := (nI 1)) rfl rfl ?_
  refine z_ist (ls' := [some (zR (some p)), some (zI (nI a)), some (zI (nI 1)), none]) rfl (Nat.le_of_ble_eq_true rfl) rfl ?_
  refine z_ico (x := (nI 0)) rfl rfl ?_
  refine z_ist (ls' := [some (zR (some p)), some (zI (nI a)), some (zI (nI 1)), some (zI (nI 0))]) rfl (Nat.le_of_ble_eq_true rfl) rfl ?_
  exact kl_cw hx hn ha 0 (by omega) h a h1 h2 (by omega) ha (fun h' e f => ⟨funext (fun y => by by_cases q : y = p; (rw [q, e, h1]); exact f y q), by rw [Nat.sub_zero, Nat.zero_add, Nat.add_comm]⟩)
set_option maxHeartbeats 1000000 in
theorem kl_sb {d : Nat} {Q : zQ}  {p pb pn n a : Nat} {t tc : Nat → Int32} (hx : txR n t tc) (hn : n ≤ 160) (ha : a ≤ n) (ha1 : 0 < a)  : ∀ k, k ≤ n → ∀ (h : zH) (b : Nat) (x2 : Option zV) (h1 : h p = some (rdO pb n b pn)) (h2 : h pb = some (zaI 0 160 tc)) (hb : a + k ≤ b) (hbn : b ≤ n) (hQ1 : (wrF false t n (n + 1 - a - k) b).2 = false → ∀ h', h' p = some (rdO pb n (wrF false t n (n + 1 - a - k) b).1 pn) → (∀ y, y ≠ p → h' y = h y) → Q h' (.inl (some (zI (nI 1))))) (hQ2 : (wrF false t n (n + 1 - a - k) b).2 = true → ∀ h' b', b' ≤ n → h' p = some (rdO pb n b' pn) → (∀ y, y ≠ p → h' y = h y) → Q h' (.inl (some (zI (nI 0))))), zEv (d + 1) tb_21 0 0 Q 13 [some (zR (some p)), some (zI (nI k)), x2] [] h 0 0 := by
  refine dn n (fun k hk ih h b x2 h1 h2 hb hbn hQ1 hQ2 => ?_)
  refine z_ild rfl rfl ?_
  refine z_ald rfl rfl ?_
  refine z_get rfl h1 rfl ?_
  refine z_cmpN (by omega) (by omega) rfl (fun h_1 => ?_) (fun h_1 => ?_)
  · replace h_1 : n ≤ k := h_1
    refine z_ico (x := (nI 0)) rfl rfl ?_
    refine z_ret rfl ⟨_, rfl, Or.inl rfl⟩ ?_
    omega
  · replace h_1 := Nat.not_le.mp h_1
    refine z_ald rfl rfl ?_
    refine z_get rfl h1 rfl ?_
    refine z_ist (ls' := [some (zR (some p)), some (zI (nI k)), some (zI (nI b))]) rfl (Nat.le_of_ble_eq_true rfl) rfl ?_
    refine z_ald rfl rfl ?_
    refine z_call (as := [zR (some p)]) (r := []) (mc' := 0) (ms' := 0) rfl rfl rfl (Nat.le_of_ble_eq_true rfl) (by omega) (by omega) (rc0 rfl h1) (k_X1_skipWord hx hn (a := b) (by omega) h1 h2) (by rintro _ _ ⟨e, _⟩; cases e) ?_
    rintro g_2 _ ⟨e9, e_3, f_4⟩; cases e9
    · skip
      have e_3_a : b ≤ spn isWd t n b := spn_ge
      have e_3_b : spn isWd t n b ≤ n := spn_le (by omega)
      have k_5 := (f_4 pb (zne h2 h1 (by nofun))).trans h2
      refine z_ald rfl rfl ?_
      refine z_get rfl e_3 rfl ?_
      refine z_ild rfl rfl ?_
      refine z_cmpN (by omega) (by omega) rfl (fun h_6 => ?_) (fun h_6 => ?_)
      · replace h_6 : ¬ spn isWd t n b = b := h_6
        refine z_ald rfl rfl ?_
        refine z_ico (x := (nI 46)) rfl rfl ?_
        refine z_call (as := [zR (some p), zI (nI 46)]) (r := []) (mc' := 0) (ms' := 0) rfl rfl rfl (Nat.le_of_ble_eq_true rfl) (by omega) (by omega) (rc0 rfl e_3) (k_X1_take hx hn (a := spn isWd t n b) (c := 46) (by omega) e_3 k_5 (by omega)) (by rintro _ _ (⟨e, _⟩ | ⟨e, _⟩) <;> cases e) ?_
        rintro g_7 _ (⟨e9, x_8, e_9, f_10⟩ | ⟨e9, x_8, e8⟩) <;> cases e9
        · skip
          have k_11 := (f_10 pb (zne k_5 e_3 (by nofun))).trans k_5
          have l_x_8 := x_8.1
          refine z_ifN (by omega) rfl (fun h_12 => ?_) (fun h_12 => ?_)
          · replace h_12 : ¬ 1 = 0 := h_12
            refine z_inc (x' := (nI (k + 1))) (ls' := [some (zR (some p)), some (zI (nI (k + 1))), some (zI (nI b))]) rfl rfl (nI_1 _) rfl ?_
            refine z_go rfl ?_
            have h8 := wrF_go (k := n + 1 - a - k) (j := n + 1 - a - (k + 1)) (by omega) (wbad_f (t := t) (m := spn isWd t n b - b) (a := b) (by omega)) x_8
            rw [h8] at hQ1 hQ2
            exact ih (by omega) _ _ _ e_9 k_11 (by omega) (by omega) (fun g h' e f => hQ1 g h' e (fun y hy => (f y hy).trans ((f_10 y hy).trans (f_4 y hy)))) (fun g h' b' q e f => hQ2 g h' b' q e (fun y hy => (f y hy).trans ((f_10 y hy).trans (f_4 y hy))))
          · replace h_12 : 1 = 0 := Decidable.of_not_not h_12
            omega
        · skip
          cases e8
          refine z_ifN (by omega) rfl (fun h_13 => ?_) (fun h_13 => ?_)
          · replace h_13 : ¬ 0 = 0 := h_13
            omega
          · replace h_13 : 0 = 0 := Decidable.of_not_not h_13
            refine z_ico (x := (nI 1)) rfl rfl ?_
            refine z_ret rfl ⟨_, rfl, Or.inr rfl⟩ ?_
            rw [wrF_end (by omega) (wbad_f (by omega)) x_8] at hQ1
            exact hQ1 rfl _ e_3 (fun y hy => f_4 y hy)
      · replace h_6 : spn isWd t n b = b := Decidable.of_not_not h_6
        refine z_ico (x := (nI 0)) rfl rfl ?_
        refine z_ret rfl ⟨_, rfl, Or.inl rfl⟩ ?_
        rw [wrF_bad (by omega) (wbad_0 (by omega))] at hQ2
        exact hQ2 rfl _ _ (by omega) e_3 (fun y hy => f_4 y hy)
set_option maxHeartbeats 1000000 in
theorem k_X1_skipBuild {d : Nat} {h : zH} {p pb pn n a : Nat} {t tc : Nat → Int32} (hx : txR n t tc) (hn : n ≤ 160) (ha : a ≤ n) (h1 : h p = some (rdO pb n a pn)) (h2 : h pb = some (zaI 0 160 tc)) : zCall (d + 2) 21 [zR (some p)] h 0 0 (fun h' o => (o = .inl (some (zI (nI 1))) ∧ ¬ pbB t n a ∧ h' p = some (rdO pb n (pbE t n a) pn) ∧ (∀ y, y ≠ p → h' y = h y)) ∨ (o = .inl (some (zI (nI 0))) ∧ pbB t n a ∧ ∃ b, b ≤ n ∧ h' p = some (rdO pb n b pn) ∧ (∀ y, y ≠ p → h' y = h y))) := by
  refine zCall.of (d := d + 1) (T := tb_21) (L := [some (zR (some p)), none, none]) (Nat.le_of_ble_eq_true rfl) rfl rfl ?_
  refine z_ald rfl rfl ?_
  refine z_ico (x := (nI 43)) rfl rfl ?_
  refine z_call (as := [zR (some p), zI (nI 43)]) (r := []) (mc' := 0) (ms' := 0) rfl rfl rfl (Nat.le_of_ble_eq_true rfl) (by omega) (by omega) (rc0 rfl h1) (k_X1_take hx hn (a := a) (c := 43) (by omega) h1 h2 (by omega)) (by rintro _ _ (⟨e, _⟩ | ⟨e, _⟩) <;> cases e) ?_
  rintro g_1 _ (⟨e9, x_2, e_3, f_4⟩ | ⟨e9, x_2, e8⟩) <;> cases e9
  · skip
    have k_5 := (f_4 pb (zne h2 h1 (by nofun))).trans h2
    have l_x_2 := x_2.1
    refine z_ifN (by omega) rfl (fun h_6 => ?_) (fun h_6 => ?_)
    · replace h_6 : ¬ 1 = 0 := h_6
      refine z_ico (x := (nI 0)) rfl rfl ?_
      refine z_ist (ls' := [some (zR (some p)), some (zI (nI 0)), none]) rfl (Nat.le_of_ble_eq_true rfl) rfl ?_
      have h9 : pbE t n a = (wr false t n (a + 1)).1 := if_pos x_2
      refine kl_sb (d := d) (a := a + 1) hx hn (by omega) (by omega) 0 (by omega) _ (a + 1) _ e_3 k_5 (by omega) (by omega) (fun g h' e f => Or.inl ⟨rfl, fun q => ?_, ?_, fun y hy => (f y hy).trans (f_4 y hy)⟩) (fun g h' b' q e f => Or.inr ⟨rfl, ⟨x_2, g⟩, b', q, e, fun y hy => (f y hy).trans (f_4 y hy)⟩)
      · have h8 : (wr false t n (a + 1)).2 = false := g
        rw [q.2] at h8
        cases h8
      · rw [h9]; exact e
    · replace h_6 : 1 = 0 := Decidable.of_not_not h_6
      omega
  · skip
    cases e8
    refine z_ifN (by omega) rfl (fun h_7 => ?_) (fun h_7 => ?_)
    · replace h_7 : ¬ 0 = 0 := h_7
      omega
    · replace h_7 : 0 = 0 := Decidable.of_not_not h_7
      refine z_ico (x := (nI 1)) rfl rfl ?_
      refine z_ret rfl ⟨_, rfl, Or.inr rfl⟩ ?_
      exact Or.inl ⟨rfl, fun g => x_2 g.1, by rw [pbE, if_neg x_2]; exact h1, fun _ _ => rfl⟩
set_option maxHeartbeats 2000000 in
theorem kl_wds {d : Nat} {Q : zQ}  {p pb pn n a ar L mc ms : Nat} {t tc : Nat → Int32} {g0 h0 : zH} (hx : txR n t tc) (hn : n ≤ 160) (ha : a ≤ n) (ha1 : 0 < a) (hf : ∀ j, j < 160 → fits .byte (.int (tc j)) = true) (hLn : L + 1 ≤ n) (ar0 : h0 ar = none) (hQ1 : (wrF true t n (n + 1 - a) a).2 = false → ∀ h' g' f', h' p = some (rdO pb n (spn isWd t n (psF t n a L)) pn) → h' ar = some (zaR 7 (L + 1) f') → wlT g' f' t n a (L + 1) → ext (fun y => y = p) g0 h0 g' h' → g' p = none → g' ar = none → (wrF true t n (n + 1 - a) a).1 = spn isWd t n (psF t n a L) → Q h' (.inl (some (zR (some ar))))) (hQ2 : (wrF true t n (n + 1 - a) a).2 = true → ∀ h' g' b, b ≤ n → h' p = some (rdO pb n b pn) → ext (fun y => y = p) g0 h0 g' h' → Q h' (.inl (some (zR none))))  : ∀ k, k ≤ L → ∀ (h g : zH) (f : Nat → Option Nat) (x3 : Option zV) (c0 s0 : Nat) (h1 : h p = some (rdO pb n (psF t n a k) pn)) (h2 : h pb = some (zaI 0 160 tc)) (h4 : h ar = some (zaR 7 (L + 1) f)) (x : ext (fun y => y = p) g0 h0 g h) (gp : g p = none) (ga : g ar = none) (hb : a + k ≤ psF t n a k ∧ psF t n a k ≤ n) (hw : wrF true t n (n + 1 - a) a = wrF true t n (n + 1 - a - k) (psF t n a k)) (hL : L - k = cwN t n (n + 1 - a - k) (psF t n a k)) (tr : wlT g f t n a k) (hc : c0 + 2 * (L + 1 - k) ≤ mc) (hs : s0 + 2 * (L + 1 - k) + (n - psF t n a k) ≤ ms), zEv (d + 4) tb_18 mc  ms  Q 44 [some (zR (some p)), some (zR (some ar)), some (zI (nI k)), x3] [] h c0 s0 := by
  refine dn L (fun k hk ih h g f x3 c0 s0 h1 h2 h4 x gp ga hb hw hL tr hc hs => ?_)
  refine z_ald rfl rfl ?_
  refine z_call (as := [zR (some p)]) (r := []) (mc' := 2) (ms' := (spn isWd t n (psF t n a k) - (psF t n a k) + 2)) rfl rfl rfl (Nat.le_of_ble_eq_true rfl) (by omega) (hs_word (L := L - k) (a := 0) (by omega) spn_ge (spn_le (by omega))) (rc0 rfl h1) (k_X1_word hx hn (a := psF t n a k) (by omega) h1 h2 hf (by omega) x.2.1 gp) (by rintro _ _ (⟨_, _, e, _⟩ | ⟨e, _⟩) <;> cases e) ?_
  rintro g_1 _ (⟨q_3, u_4, e9, x_2, e_5, x_7, t_8⟩ | ⟨e9, x_2, e_5, f_6⟩) <;> cases e9
  · skip
    have e_5_a : psF t n a k ≤ spn isWd t n (psF t n a k) := spn_ge
    have e_5_b : spn isWd t n (psF t n a k) ≤ n := spn_le (by omega)
    have k_9 := (x_7.2.2.2.2 pb (some_nn h2) (zne h2 h1 (by nofun))).trans h2
    have k_10 := (x_7.2.2.2.2 ar (some_nn h4) (zne h4 h1 (by nofun))).trans h4
    have n_11 := x_7.2.2.1 p gp (some_nn h1)
    have n_12 := x_7.2.2.1 ar ga (some_nn h4)
    have x_13 := ext_call x x_7 (fun y e => by rw [show y = p from e]; exact (Or.inr rfl))
    obtain ⟨fs_q_3, cw_q_3⟩ := wd0_cell (wd0_mono x_13.2.1 t_8)
    refine z_ast (ls' := [some (zR (some p)), some (zR (some ar)), some (zI (nI k)), some (zR (some q_3))]) rfl (Nat.le_of_ble_eq_true rfl) rfl ?_
    refine z_ald rfl rfl ?_
    refine z_nnP rfl ?_
    refine z_ald rfl rfl ?_
    refine z_ild rfl rfl ?_
    refine z_ald rfl rfl ?_
    refine z_aast rfl k_10 (by omega) (by omega) (fun q e => by cases e; exact ⟨_, cw_q_3⟩) ?_
    intro g_14 e_15 f_16
    have k_17 := (f_16 pb (zne k_9 k_10 (by nofun))).trans k_9
    have k_18 := (f_16 p (zne e_5 k_10 (by nofun))).trans e_5
    have k_19 := (f_16 q_3 (zne cw_q_3 k_10 (by nofun))).trans cw_q_3
    have x_20 := ext_mut x_13 f_16 (Or.inl ar0) n_12 e_15
    refine z_inc (x' := (nI (k + 1))) (ls' := [some (zR (some p)), some (zR (some ar)), some (zI (nI (k + 1))), some (zR (some q_3))]) rfl rfl (nI_1 _) rfl ?_
    refine z_go rfl ?_
    refine z_ild rfl rfl ?_
    refine z_ald rfl rfl ?_
    refine z_len (m := (L + 1)) rfl (by rw [e_15]; rfl) ?_
    refine z_cmpN (by omega) (by omega) rfl (fun h_21 => ?_) (fun h_21 => ?_)
    · replace h_21 : (L + 1) ≤ k + 1 := h_21
      refine z_ald rfl rfl ?_
      refine z_ret rfl ⟨_, rfl⟩ ?_
      have h6 : L = k := by omega
      subst h6
      have h7 : ¬ atc n t (spn isWd t n (psF t n a L)) 46 := fun z => by
        rw [cwN_y (j := n + 1 - a - (L + 1)) (by omega) z] at hL
        omega
      have hw := wr_fst (hw.trans (wrF_end (by omega) x_2 h7))
      exact hQ1 hw.2 _ _ _ k_18 e_15 (wl_step tr x_7.1 t_8) x_20 n_11 n_12 hw.1
    · replace h_21 := Nat.not_le.mp h_21
      refine z_ild rfl rfl ?_
      refine z_ifN (by omega) rfl (fun h_22 => ?_) (fun h_22 => ?_)
      · replace h_22 : k + 1 ≤ 0 := h_22
        omega
      · replace h_22 := Nat.not_le.mp h_22
        refine z_ald rfl rfl ?_
        refine z_ico (x := (nI 46)) rfl rfl ?_
        refine z_call (as := [zR (some p), zI (nI 46)]) (r := []) (mc' := 0) (ms' := 0) rfl rfl rfl (Nat.le_of_ble_eq_true rfl) (by omega) (by omega) (rc0 rfl k_18) (k_X1_take hx hn (a := spn isWd t n (psF t n a k)) (c := 46) (by omega) k_18 k_17 (by omega)) (by rintro _ _ (⟨e, _⟩ | ⟨e, _⟩) <;> cases e) ?_
        rintro g_23 _ (⟨e9, x_24, e_25, f_26⟩ | ⟨e9, x_24, e8⟩) <;> cases e9
        · skip
          have k_27 := (f_26 pb (zne k_17 k_18 (by nofun))).trans k_17
          have k_28 := (f_26 q_3 (zne k_19 k_18 (by nofun))).trans k_19
          have k_29 := (f_26 ar (zne e_15 k_18 (by nofun))).trans e_15
          have x_30 := ext_mut x_20 f_26 (Or.inr rfl) n_11 e_25
          have l_x_24 := x_24.1
          refine z_ifN (by omega) rfl (fun h_31 => ?_) (fun h_31 => ?_)
          · replace h_31 : ¬ 1 = 0 := h_31
            have h8 := wrF_go (k := n + 1 - a - k) (j := n + 1 - a - (k + 1)) (by omega) x_2 x_24
            have h7 := cwN_y (k := n + 1 - a - k) (j := n + 1 - a - (k + 1)) (by omega) x_24
            exact ih (by omega) _ _ _ _ _ _ e_25 k_27 k_29 x_30 n_11 n_12 ⟨by show a + (k + 1) ≤ spn isWd t n (psF t n a k) + 1; omega, by show spn isWd t n (psF t n a k) + 1 ≤ n; omega⟩ (hw.trans h8) (by show L - (k + 1) = cwN t n (n + 1 - a - (k + 1)) (spn isWd t n (psF t n a k) + 1); omega) (wl_step tr x_7.1 t_8) (by omega) (by show _ + 2 * (L + 1 - (k + 1)) + (n - (spn isWd t n (psF t n a k) + 1)) ≤ ms; omega)
          · replace h_31 : 1 = 0 := Decidable.of_not_not h_31
            omega
        · skip
          cases e8
          refine z_ifN (by omega) rfl (fun h_32 => ?_) (fun h_32 => ?_)
          · replace h_32 : ¬ 0 = 0 := h_32
            omega
          · replace h_32 : 0 = 0 := Decidable.of_not_not h_32
            refine z_nul rfl ?_
            refine z_ret rfl ⟨_, rfl⟩ ?_
            exact absurd (hL.trans (cwN_n x_24)) (by omega)
  · skip
    have k_33 := (f_6 pb (zne h2 h1 (by nofun))).trans h2
    have k_34 := (f_6 ar (zne h4 h1 (by nofun))).trans h4
    have x_35 := ext_mut x f_6 (Or.inr rfl) gp e_5
    refine z_ast (ls' := [some (zR (some p)), some (zR (some ar)), some (zI (nI k)), some (zR none)]) rfl (Nat.le_of_ble_eq_true rfl) rfl ?_
    refine z_ald rfl rfl ?_
    refine z_nnZ rfl ?_
    refine z_nul rfl ?_
    refine z_ret rfl ⟨_, rfl⟩ ?_
    have hw := wr_fst (hw.trans (wrF_bad (by omega) x_2))
    exact hQ2 hw.2 _ _ _ (spn_le (by omega)) e_5 x_35
set_option maxHeartbeats 2000000 in
theorem k_X1_words {d : Nat} {h : zH} {p pb pn n a : Nat} {t tc : Nat → Int32} {g : zH} (hx : txR n t tc) (hn : n ≤ 160) (ha : a ≤ n) (h1 : h p = some (rdO pb n a pn)) (h2 : h pb = some (zaI 0 160 tc)) (hf : ∀ j, j < 160 → fits .byte (.int (tc j)) = true) (hg : hle g h) (gp : g p = none) : zCall (d + 5) 18 [zR (some p)] h (2 * n + 1) (4 * n) (fun h' o => (∃ q g', o = .inl (some (zR (some q))) ∧ ¬ bwB t n a ∧ h' p = some (rdO pb n (bwE t n a) pn) ∧ ext (fun y => y = p) g h g' h' ∧ wsP g' q t n a) ∨ (o = .inl (some (zR none)) ∧ bwB t n a ∧ ∃ b g', b ≤ n ∧ h' p = some (rdO pb n b pn) ∧ ext (fun y => y = p) g h g' h')) := by
  refine zCall.of (d := d + 4) (T := tb_18) (L := [some (zR (some p)), none, none, none]) (Nat.le_of_ble_eq_true rfl) rfl rfl ?_
  have x0 : ext (fun y => y = p) g h g h := ext_refl hg
  refine z_ald rfl rfl ?_
  refine z_ico (x := (nI 45)) rfl rfl ?_
  refine z_call (as := [zR (some p), zI (nI 45)]) (r := []) (mc' := 0) (ms' := 0) rfl rfl rfl (Nat.le_of_ble_eq_true rfl) (by omega) (by omega) (rc0 rfl h1) (k_X1_take hx hn (a := a) (c := 45) (by omega) h1 h2 (by omega)) (by rintro _ _ (⟨e, _⟩ | ⟨e, _⟩) <;> cases e) ?_
  rintro g_1 _ (⟨e9, x_2, e_3, f_4⟩ | ⟨e9, x_2, e8⟩) <;> cases e9
  · skip
    have k_5 := (f_4 pb (zne h2 h1 (by nofun))).trans h2
    have x_6 := ext_mut x0 f_4 (Or.inr rfl) gp e_3
    have l_x_2 := x_2.1
    refine z_ifN (by omega) rfl (fun h_7 => ?_) (fun h_7 => ?_)
    · replace h_7 : 1 = 0 := h_7
      omega
    · replace h_7 : ¬ (1 = 0) := h_7
      refine z_ald rfl rfl ?_
      refine z_callF (as := [zR (some p)]) (r := []) (v := some (zI (nI (cwN t n (n + 1 - (a + 1)) (a + 1) + 1)))) rfl rfl rfl (Nat.le_of_ble_eq_true rfl) (by omega) (by omega) (rc0 rfl e_3) (k_X1_countWords hx hn (a := a + 1) (by omega) e_3 k_5) ?_
      have hcw := cwN_le (t := t) (n := n) (n + 1 - (a + 1)) (a + 1) (by omega)
      refine z_go rfl ?_
      refine z_newR rfl (by omega) (by omega) (by omega) ?_
      intro q_8 g_9 h_10 e_11 f_12
      have k_13 := (f_12 pb (zn0 k_5 h_10)).trans k_5
      have k_14 := (f_12 p (zn0 e_3 h_10)).trans e_3
      have n_16 := ext_new x_6 h_10
      have n_17 := ext_gn x_6 h_10
      have x_15 := ext_mut x_6 f_12 (Or.inl n_16) n_17 e_11
      refine z_ast (ls' := [some (zR (some p)), some (zR (some q_8)), none, none]) rfl (Nat.le_of_ble_eq_true rfl) rfl ?_
      refine z_ico (x := (nI 0)) rfl rfl ?_
      refine z_ist (ls' := [some (zR (some p)), some (zR (some q_8)), some (zI (nI 0)), none]) rfl (Nat.le_of_ble_eq_true rfl) rfl ?_
      refine z_ild rfl rfl ?_
      refine z_ald rfl rfl ?_
      refine z_len (m := cwN t n (n + 1 - (a + 1)) (a + 1) + 1) rfl (by rw [e_11]; rfl) ?_
      refine z_cmpN (by omega) (by omega) rfl (fun h_18 => ?_) (fun h_18 => ?_)
      · replace h_18 : cwN t n (n + 1 - (a + 1)) (a + 1) + 1 ≤ 0 := h_18
        omega
      · replace h_18 := Nat.not_le.mp h_18
        refine z_ild rfl rfl ?_
        refine z_ifN (by omega) rfl (fun h_19 => ?_) (fun h_19 => ?_)
        · replace h_19 : 0 ≤ 0 := h_19
          have h9 : bwE t n a = (wr true t n (a + 1)).1 := if_pos x_2
          refine kl_wds (d := d) (a := a + 1) (g0 := g) (h0 := h) (L := cwN t n (n + 1 - (a + 1)) (a + 1)) hx hn (by omega) (by omega) hf (by omega) n_16 ?_ ?_ 0 (by omega) _ _ _ _ _ _ k_14 k_13 e_11 x_15 gp n_17 ⟨Nat.le_refl _, by show a + 1 ≤ n; omega⟩ rfl rfl (fun i hi => absurd hi (by omega)) (by omega) (by show _ + (n - (a + 1)) ≤ _; omega)
          · intro w1 h' g' f' e1 e2 e3 e4 e5 e6 e7
            obtain ⟨u, u1, u2, u3, u4⟩ := ext_frzE e4 (Or.inl n_16) e6 e2
            refine Or.inl ⟨_, u, rfl, fun q => ?_, ?_, u1, _, _, u3, Or.inr ⟨x_2, rfl, ?_, fun i hi => wlT_mono u2 e3 i hi⟩⟩
            · have w2 : (wr true t n (a + 1)).2 = false := w1
              rw [q.2] at w2
              cases w2
            · rw [h9]; exact e1.trans (by rw [← e7]; rfl)
            · rw [h9]; exact congrArg (· + 1) e7.symm
          · intro w1 h' g' b' e0 e1 e2
            exact Or.inr ⟨rfl, ⟨x_2, w1⟩, b', g', e0, e1, e2⟩
        · replace h_19 := Nat.not_le.mp h_19
          omega
  · skip
    cases e8
    refine z_ifN (by omega) rfl (fun h_20 => ?_) (fun h_20 => ?_)
    · replace h_20 : 0 = 0 := h_20
      refine z_ico (x := (nI 0)) rfl rfl ?_
      refine z_newR rfl (by omega) (by omega) (by omega) ?_
      intro q_21 g_22 h_23 e_24 f_25
      have k_26 := (f_25 p (zn0 h1 h_23)).trans h1
      have k_27 := (f_25 pb (zn0 h2 h_23)).trans h2
      have n_29 := ext_new x0 h_23
      have n_30 := ext_gn x0 h_23
      have x_28 := ext_mut x0 f_25 (Or.inl n_29) n_30 e_24
      refine z_ast (ls' := [some (zR (some p)), some (zR (some q_21)), none, none]) rfl (Nat.le_of_ble_eq_true rfl) rfl ?_
      refine z_ico (x := (nI 0)) rfl rfl ?_
      refine z_ist (ls' := [some (zR (some p)), some (zR (some q_21)), some (zI (nI 0)), none]) rfl (Nat.le_of_ble_eq_true rfl) rfl ?_
      refine z_ild rfl rfl ?_
      refine z_ald rfl rfl ?_
      refine z_len (m := 0) rfl (by rw [e_24]; rfl) ?_
      refine z_cmpN (by omega) (by omega) rfl (fun h_31 => ?_) (fun h_31 => ?_)
      · replace h_31 : 0 ≤ 0 := h_31
        refine z_ald rfl rfl ?_
        refine z_ret rfl ⟨_, rfl⟩ ?_
        obtain ⟨u_32, x_33, l_34, c_35, o_36⟩ := ext_frzE x_28 (Or.inl n_29) n_30 e_24
        have n_37 := (o_36 p (zne k_26 e_24 (by nofun))).trans gp
        exact Or.inl ⟨_, _, rfl, fun q => x_2 q.1, by rw [bwE, if_neg x_2]; exact k_26, x_33, _, _, c_35, Or.inl ⟨x_2, rfl⟩⟩
      · replace h_31 := Nat.not_le.mp h_31
        omega
    · replace h_20 : ¬ (0 = 0) := h_20
      omega
