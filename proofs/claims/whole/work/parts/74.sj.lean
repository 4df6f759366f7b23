/-- the root stands in an array -/
def rtI (h : zH) (r : rA) (f : Nat → Option Nat) : Prop := ∀ p, p < 8 → (w0 r p = false → f p = none) ∧ (w0 r p = true → ∃ q, f p = some q ∧ rqAt h q (qR r p))
/-- may version i be given, as far as the root and yanking go -/
def opC (r : rA) (i : Nat) : Bool := (decide (r 17 i = 0) || decide (r 21 (pkN r i) = nI i)) && (!w0 r (pkN r i) || imF (qR r (pkN r i)) (rowV r i))
def opA (r : rA) : Nat → Int64
  | 0 => 0
  | p + 1 => if w0 r p = true then opA r p else opA r p ||| zlsh 0 1 (nI (40 + p))
def opB (r : rA) : Nat → Int64
  | 0 => opA r 8
  | i + 1 => if opC r i = true then opB r i ||| zlsh 0 1 (nI i) else opB r i
theorem opA_iff {r : rA} {o : Nat} (ho : o < 64) : ∀ k, k ≤ 8 → (tst (opA r k) o = true ↔ ∃ p, p < k ∧ o = 40 + p ∧ w0 r p = false)
  | 0, _ => by
    rw [opA, tst_0]
    exact ⟨fun h => (by cases h), fun ⟨p, h, _⟩ => absurd h (Nat.not_lt_zero _)⟩
  | k + 1, hk => by
    have ih := opA_iff (r := r) ho k (by omega)
    rw [opA]
    by_cases w : w0 r k = true
    · rw [if_pos w, ih]
      exact ⟨fun ⟨p, a, b⟩ => ⟨p, by omega, b⟩, fun ⟨p, a, b, c⟩ => ⟨p, by
        have : p ≠ k := fun z => by rw [z, w] at c; cases c
        omega, b, c⟩⟩
    · rw [if_neg w, tst_or, tst_sh (by omega) ho, Bool.or_eq_true, ih]
      constructor
      · rintro (⟨p, a, b⟩ | g)
        · exact ⟨p, by omega, b⟩
        · exact ⟨k, by omega, of_decide_eq_true g, Bool.eq_false_iff.mpr w⟩
      · intro ⟨p, a, b, c⟩
        by_cases e : p = k
        · right; rw [b, e]; exact decide_eq_true rfl
        · left; exact ⟨p, by omega, b, c⟩
theorem opB_iff {r : rA} {o : Nat} (ho : o < 64) : ∀ k, k ≤ 40 → (tst (opB r k) o = true ↔ (o < k ∧ opC r o = true) ∨ ∃ p, p < 8 ∧ o = 40 + p ∧ w0 r p = false)
  | 0, _ => by
    rw [opB, opA_iff ho 8 (Nat.le_refl _)]
    exact ⟨Or.inr, fun g => g.elim (fun g => absurd g.1 (Nat.not_lt_zero _)) id⟩
  | k + 1, hk => by
    have ih := opB_iff (r := r) ho k (by omega)
    rw [opB]
    by_cases w : opC r k = true
    · rw [if_pos w, tst_or, tst_sh (by omega) ho, Bool.or_eq_true, ih]
      constructor
      · rintro ((g | g) | g)
        · exact Or.inl ⟨by omega, g.2⟩
        · exact Or.inr g
        · have e := of_decide_eq_true g
          subst e
          exact Or.inl ⟨by omega, w⟩
      · rintro (⟨a, b⟩ | g)
        · by_cases e : o = k
          · right; exact decide_eq_true e
          · left; left; exact ⟨by omega, b⟩
        · left; right; exact g
    · rw [if_neg w, ih]
      constructor
      · rintro (g | g)
        · exact Or.inl ⟨by omega, g.2⟩
        · exact Or.inr g
      · rintro (⟨a, b⟩ | g)
        · exact Or.inl ⟨by
            have : o ≠ k := fun z => w (z ▸ b)
            omega, b⟩
        · exact Or.inr g
set_option maxHeartbeats 1000000 in
theorem kl_o1 {d : Nat} {Q : zQ} {h : zH} {g : zH} {r : rA} {s pg po pt pc pp pl pr pi v : Nat} {A : Nat → Nat} {fo : Int64} {fR : Nat → Option Nat} {fP : Nat → Int32} (hr : rgI h g r v pg pl A) (hs : h s = some (srO pg po pt pc pp fo)) (hR : h pr = some (zaR 5 8 fR)) (hP : h pi = some (zaI 1 8 fP)) (hrt : rtI h r fR) (hpi : ∀ p, p < 8 → fP p = r 21 p) (hQ : zEv (d + 5) tb_48 0 0 Q 35 [some (zR (some s)), some (zR (some pr)), some (zR (some pi)), some (zJ (opA r 8)), none, some (zI (nI 8)), none, none] [] h 0 0) : ∀ k, k ≤ 8 → zEv (d + 5) tb_48 0 0 Q 5 [some (zR (some s)), some (zR (some pr)), some (zR (some pi)), some (zJ (opA r k)), none, some (zI (nI k)), none, none] [] h 0 0 := by
  refine dn 8 (fun k hk ih  => ?_)
  refine z_ild rfl rfl ?_
  refine z_ico (x := (nI 8)) rfl rfl ?_
  refine z_cmpN (by omega) (by omega) rfl (fun h_1 => ?_) (fun h_1 => ?_)
  · replace h_1 : 8 ≤ k := h_1
    have e : k = 8 := by omega
    subst e
    exact hQ
  · replace h_1 := Nat.not_le.mp h_1
    refine z_ald rfl rfl ?_
    refine z_ild rfl rfl ?_
    refine z_aald rfl hR (by omega) (by omega) ?_
    refine z_nn rfl (fun h_2 => ?_) (fun h_2 => ?_)
    · skip
      refine z_inc (x' := (nI (k + 1))) (ls' := [some (zR (some s)), some (zR (some pr)), some (zR (some pi)), some (zJ (opA r k)), none, some (zI (nI (k + 1))), none, none]) rfl rfl (nI_1 _) rfl ?_
      refine z_go rfl ?_
      have w9 : w0 r k = true := bt_f (fun z => h_2 ((hrt k (by omega)).1 z))
      have h9 : opA r (k + 1) = opA r k := by rw [opA, if_pos w9]
      rw [h9] at ih
      exact ih (by omega)
    · skip
      refine z_lld rfl rfl ?_
      refine z_lco (x := 1) rfl rfl ?_
      refine z_ico (x := (nI 40)) rfl rfl ?_
      refine z_ild rfl rfl ?_
      refine z_ibi (v := (nI (40 + k))) rfl (nI_add _ _) ?_
      refine z_lsh (v := zlsh 0 1 (nI (40 + k))) rfl rfl ?_
      refine z_lbi (v := (opA r k) ||| (zlsh 0 1 (nI (40 + k)))) rfl rfl ?_
      refine z_lst (ls' := [some (zR (some s)), some (zR (some pr)), some (zR (some pi)), some (zJ ((opA r k) ||| (zlsh 0 1 (nI (40 + k))))), none, some (zI (nI k)), none, none]) rfl (Nat.le_of_ble_eq_true rfl) rfl ?_
      refine z_inc (x' := (nI (k + 1))) (ls' := [some (zR (some s)), some (zR (some pr)), some (zR (some pi)), some (zJ ((opA r k) ||| (zlsh 0 1 (nI (40 + k))))), none, some (zI (nI (k + 1))), none, none]) rfl rfl (nI_1 _) rfl ?_
      refine z_go rfl ?_
      have w9 : ¬ w0 r k = true := fun z => by obtain ⟨q, e, _⟩ := (hrt k (by omega)).2 z; rw [h_2] at e; cases e
      have h9 : opA r (k + 1) = opA r k ||| zlsh 0 1 (nI (40 + k)) := by rw [opA, if_neg w9]
      rw [h9] at ih
      exact ih (by omega)
set_option maxHeartbeats 1000000 in
theorem kl_o2 {d : Nat} {Q : zQ} {h : zH} {g : zH} {r : rA} {s pg po pt pc pp pl pr pi v : Nat} {A : Nat → Nat} {fo : Int64} {fR : Nat → Option Nat} {fP : Nat → Int32} (hr : rgI h g r v pg pl A) (hs : h s = some (srO pg po pt pc pp fo)) (hR : h pr = some (zaR 5 8 fR)) (hP : h pi = some (zaI 1 8 fP)) (hrt : rtI h r fR) (hpi : ∀ p, p < 8 → fP p = r 21 p) (h1 : h pg = some (zO 2 [zR (some pl), zI (nI v)])) (hv : v ≤ 40) (hQ : Q h (.inl (some (zJ (opB r v))))) : ∀ k, k ≤ v → ∀ (x6 x7 : Option zV), zEv (d + 5) tb_48 0 0 Q 38 [some (zR (some s)), some (zR (some pr)), some (zR (some pi)), some (zJ (opB r k)), none, some (zI (nI k)), x6, x7] [] h 0 0 := by
  refine dn v (fun k hk ih x6 x7 => ?_)
  refine z_ild rfl rfl ?_
  refine z_ald rfl rfl ?_
  refine z_get rfl hs rfl ?_
  refine z_get rfl h1 rfl ?_
  refine z_cmpN (by omega) (by omega) rfl (fun h_1 => ?_) (fun h_1 => ?_)
  · replace h_1 : v ≤ k := h_1
    refine z_lld rfl rfl ?_
    refine z_ret rfl ⟨_, rfl⟩ ?_
    have e : k = v := by omega
    subst e
    exact hQ
  · replace h_1 := Nat.not_le.mp h_1
    refine z_ald rfl rfl ?_
    refine z_get rfl hs rfl ?_
    refine z_ild rfl rfl ?_
    refine z_callF (as := [zR (some pg), zI (nI k)]) (r := []) (v := some (zR (some ((A k))))) rfl rfl rfl (Nat.le_of_ble_eq_true rfl) (by omega) (by omega) (rc0 rfl h1) (k_X2_at hr (by omega)) ?_
    have hg := hr.2.2.2.2
    obtain ⟨pvR, pwR, prR, pdR, pkR, mR, yR, cR, _, ⟨e16R, pk8R⟩, e17R, ⟨e14R, m5R⟩, ⟨tvR, _, ⟨fdR, cdR, tdR⟩, ⟨frR, crR, trR⟩⟩⟩ := relI_h hg (hr.2.2.2.1 k (by omega))
    obtain ⟨fsvR, cvR⟩ := vr_cell tvR
    have ek : pkN r k = pkR := by rw [pkN, e16R, nI_clamp (by omega)]
    refine z_ast (ls' := [some (zR (some s)), some (zR (some pr)), some (zR (some pi)), some (zJ (opB r k)), none, some (zI (nI k)), some (zR (some ((A k)))), x7]) rfl (Nat.le_of_ble_eq_true rfl) rfl ?_
    refine z_ald rfl rfl ?_
    refine z_nlP rfl ?_
    refine z_ald rfl rfl ?_
    refine z_get rfl cR rfl ?_
    refine z_ifB0 rfl (fun b_2 => ?_) (fun b_2 => ?_)
    · refine z_ald rfl rfl ?_
      refine z_ald rfl rfl ?_
      refine z_get rfl cR rfl ?_
      refine z_aald rfl hR (by omega) (by omega) ?_
      refine z_ast (ls' := [some (zR (some s)), some (zR (some pr)), some (zR (some pi)), some (zJ (opB r k)), none, some (zI (nI k)), some (zR (some ((A k)))), some (zR (fR pkR))]) rfl (Nat.le_of_ble_eq_true rfl) rfl ?_
      refine z_ald rfl rfl ?_
      refine z_nl rfl (fun h_3 => ?_) (fun h_3 => ?_)
      · have w9 : w0 r pkR = false := Bool.eq_false_iff.mpr (fun z => by obtain ⟨q, e, _⟩ := (hrt pkR pk8R).2 z; rw [h_3] at e; cases e)
        refine z_lld rfl rfl ?_
        refine z_lco (x := 1) rfl rfl ?_
        refine z_ild rfl rfl ?_
        refine z_lsh (v := zlsh 0 1 (nI k)) rfl rfl ?_
        refine z_lbi (v := (opB r k) ||| (zlsh 0 1 (nI k))) rfl rfl ?_
        refine z_lst (ls' := [some (zR (some s)), some (zR (some pr)), some (zR (some pi)), some (zJ ((opB r k) ||| (zlsh 0 1 (nI k)))), none, some (zI (nI k)), some (zR (some ((A k)))), some (zR (fR pkR))]) rfl (Nat.le_of_ble_eq_true rfl) rfl ?_
        refine z_inc (x' := (nI (k + 1))) (ls' := [some (zR (some s)), some (zR (some pr)), some (zR (some pi)), some (zJ ((opB r k) ||| (zlsh 0 1 (nI k)))), none, some (zI (nI (k + 1))), some (zR (some ((A k)))), some (zR (fR pkR))]) rfl rfl (nI_1 _) rfl ?_
        refine z_go rfl ?_
        have u17 : decide (r 17 k = 0) = !yR := by rw [e17R]; cases yR <;> rfl
        have c1 : (decide (r 17 k = 0) || decide (r 21 (pkN r k) = nI k)) = true := by rw [u17, b_2]; rfl
        have c9 : opC r k = true := by rw [opC, c1, ek, w9]; rfl
        have h9 : opB r (k + 1) = opB r k ||| zlsh 0 1 (nI k) := by rw [opB, if_pos c9]
        refine z_ok (ls' := [some (zR (some s)), some (zR (some pr)), some (zR (some pi)), some (zJ (opB r (k + 1))), none, some (zI (nI (k + 1))), some (zR (some (A k))), some (zR (fR pkR))]) (by rw [h9]) ?_
        exact ih (by omega) _ _
      · have w9 : w0 r pkR = true := bt_f (fun z => h_3 ((hrt pkR pk8R).1 z))
        obtain ⟨q, eq, tq⟩ := (hrt pkR pk8R).2 w9
        obtain ⟨fsq, cq⟩ := rq_cell tq
        rw [eq]
        refine z_ald rfl rfl ?_
        refine z_ald rfl rfl ?_
        refine z_get rfl cR rfl ?_
        refine z_callF (as := [zR (some q), zR (some pvR)]) (r := []) (v := some (zI (bI (imF (qR r pkR) (rowV r k))))) rfl rfl rfl (Nat.le_of_ble_eq_true rfl) (by omega) (by omega) (rc0 rfl cq) (k_X4_isMetBy tq tvR) ?_
        refine z_ifB0 rfl (fun b_4 => ?_) (fun b_4 => ?_)
        · refine z_inc (x' := (nI (k + 1))) (ls' := [some (zR (some s)), some (zR (some pr)), some (zR (some pi)), some (zJ (opB r k)), none, some (zI (nI (k + 1))), some (zR (some ((A k)))), some (zR (some q))]) rfl rfl (nI_1 _) rfl ?_
          refine z_go rfl ?_
          have u17 : decide (r 17 k = 0) = !yR := by rw [e17R]; cases yR <;> rfl
          have c1 : (decide (r 17 k = 0) || decide (r 21 (pkN r k) = nI k)) = true := by rw [u17, b_2]; rfl
          have c9 : opC r k = false := by rw [opC, c1, ek, w9, b_4]; rfl
          have h9 : opB r (k + 1) = opB r k := by rw [opB, if_neg (by rw [c9]; nofun)]
          refine z_ok (ls' := [some (zR (some s)), some (zR (some pr)), some (zR (some pi)), some (zJ (opB r (k + 1))), none, some (zI (nI (k + 1))), some (zR (some (A k))), some (zR (some q))]) (by rw [h9]) ?_
          exact ih (by omega) _ _
        · refine z_lld rfl rfl ?_
          refine z_lco (x := 1) rfl rfl ?_
          refine z_ild rfl rfl ?_
          refine z_lsh (v := zlsh 0 1 (nI k)) rfl rfl ?_
          refine z_lbi (v := (opB r k) ||| (zlsh 0 1 (nI k))) rfl rfl ?_
          refine z_lst (ls' := [some (zR (some s)), some (zR (some pr)), some (zR (some pi)), some (zJ ((opB r k) ||| (zlsh 0 1 (nI k)))), none, some (zI (nI k)), some (zR (some ((A k)))), some (zR (some q))]) rfl (Nat.le_of_ble_eq_true rfl) rfl ?_
          refine z_inc (x' := (nI (k + 1))) (ls' := [some (zR (some s)), some (zR (some pr)), some (zR (some pi)), some (zJ ((opB r k) ||| (zlsh 0 1 (nI k)))), none, some (zI (nI (k + 1))), some (zR (some ((A k)))), some (zR (some q))]) rfl rfl (nI_1 _) rfl ?_
          refine z_go rfl ?_
          have u17 : decide (r 17 k = 0) = !yR := by rw [e17R]; cases yR <;> rfl
          have c1 : (decide (r 17 k = 0) || decide (r 21 (pkN r k) = nI k)) = true := by rw [u17, b_2]; rfl
          have c9 : opC r k = true := by rw [opC, c1, ek, w9, b_4]; rfl
          have h9 : opB r (k + 1) = opB r k ||| zlsh 0 1 (nI k) := by rw [opB, if_pos c9]
          refine z_ok (ls' := [some (zR (some s)), some (zR (some pr)), some (zR (some pi)), some (zJ (opB r (k + 1))), none, some (zI (nI (k + 1))), some (zR (some (A k))), some (zR (some q))]) (by rw [h9]) ?_
          exact ih (by omega) _ _
    · refine z_ald rfl rfl ?_
      refine z_ald rfl rfl ?_
      refine z_get rfl cR rfl ?_
      refine z_iald rfl hP (by omega) (by omega) ?_
      refine z_ild rfl rfl ?_
      refine z_cmp rfl (fun h_5 => ?_) (fun h_5 => ?_)
      · replace h_5 : ¬ (fP pkR) = (nI k) := h_5
        refine z_inc (x' := (nI (k + 1))) (ls' := [some (zR (some s)), some (zR (some pr)), some (zR (some pi)), some (zJ (opB r k)), none, some (zI (nI (k + 1))), some (zR (some ((A k)))), x7]) rfl rfl (nI_1 _) rfl ?_
        refine z_go rfl ?_
        have u17 : decide (r 17 k = 0) = !yR := by rw [e17R]; cases yR <;> rfl
        have c1 : (decide (r 17 k = 0) || decide (r 21 (pkN r k) = nI k)) = false := by rw [u17, b_2, ek, ← hpi pkR pk8R, decide_eq_false h_5]; rfl
        have c9 : opC r k = false := by rw [opC, c1]; rfl
        have h9 : opB r (k + 1) = opB r k := by rw [opB, if_neg (by rw [c9]; nofun)]
        refine z_ok (ls' := [some (zR (some s)), some (zR (some pr)), some (zR (some pi)), some (zJ (opB r (k + 1))), none, some (zI (nI (k + 1))), some (zR (some (A k))), x7]) (by rw [h9]) ?_
        exact ih (by omega) _ _
      · replace h_5 : (fP pkR) = (nI k) := Decidable.of_not_not h_5
        refine z_ald rfl rfl ?_
        refine z_ald rfl rfl ?_
        refine z_get rfl cR rfl ?_
        refine z_aald rfl hR (by omega) (by omega) ?_
        refine z_ast (ls' := [some (zR (some s)), some (zR (some pr)), some (zR (some pi)), some (zJ (opB r k)), none, some (zI (nI k)), some (zR (some ((A k)))), some (zR (fR pkR))]) rfl (Nat.le_of_ble_eq_true rfl) rfl ?_
        refine z_ald rfl rfl ?_
        refine z_nl rfl (fun h_6 => ?_) (fun h_6 => ?_)
        · have w9 : w0 r pkR = false := Bool.eq_false_iff.mpr (fun z => by obtain ⟨q, e, _⟩ := (hrt pkR pk8R).2 z; rw [h_6] at e; cases e)
          refine z_lld rfl rfl ?_
          refine z_lco (x := 1) rfl rfl ?_
          refine z_ild rfl rfl ?_
          refine z_lsh (v := zlsh 0 1 (nI k)) rfl rfl ?_
          refine z_lbi (v := (opB r k) ||| (zlsh 0 1 (nI k))) rfl rfl ?_
          refine z_lst (ls' := [some (zR (some s)), some (zR (some pr)), some (zR (some pi)), some (zJ ((opB r k) ||| (zlsh 0 1 (nI k)))), none, some (zI (nI k)), some (zR (some ((A k)))), some (zR (fR pkR))]) rfl (Nat.le_of_ble_eq_true rfl) rfl ?_
          refine z_inc (x' := (nI (k + 1))) (ls' := [some (zR (some s)), some (zR (some pr)), some (zR (some pi)), some (zJ ((opB r k) ||| (zlsh 0 1 (nI k)))), none, some (zI (nI (k + 1))), some (zR (some ((A k)))), some (zR (fR pkR))]) rfl rfl (nI_1 _) rfl ?_
          refine z_go rfl ?_
          have u17 : decide (r 17 k = 0) = !yR := by rw [e17R]; cases yR <;> rfl
          have c1 : (decide (r 17 k = 0) || decide (r 21 (pkN r k) = nI k)) = true := by rw [u17, b_2, ek, ← hpi pkR pk8R, decide_eq_true h_5]; rfl
          have c9 : opC r k = true := by rw [opC, c1, ek, w9]; rfl
          have h9 : opB r (k + 1) = opB r k ||| zlsh 0 1 (nI k) := by rw [opB, if_pos c9]
          refine z_ok (ls' := [some (zR (some s)), some (zR (some pr)), some (zR (some pi)), some (zJ (opB r (k + 1))), none, some (zI (nI (k + 1))), some (zR (some (A k))), some (zR (fR pkR))]) (by rw [h9]) ?_
          exact ih (by omega) _ _
        · have w9 : w0 r pkR = true := bt_f (fun z => h_6 ((hrt pkR pk8R).1 z))
          obtain ⟨q, eq, tq⟩ := (hrt pkR pk8R).2 w9
          obtain ⟨fsq, cq⟩ := rq_cell tq
          rw [eq]
          refine z_ald rfl rfl ?_
          refine z_ald rfl rfl ?_
          refine z_get rfl cR rfl ?_
          refine z_callF (as := [zR (some q), zR (some pvR)]) (r := []) (v := some (zI (bI (imF (qR r pkR) (rowV r k))))) rfl rfl rfl (Nat.le_of_ble_eq_true rfl) (by omega) (by omega) (rc0 rfl cq) (k_X4_isMetBy tq tvR) ?_
          refine z_ifB0 rfl (fun b_7 => ?_) (fun b_7 => ?_)
          · refine z_inc (x' := (nI (k + 1))) (ls' := [some (zR (some s)), some (zR (some pr)), some (zR (some pi)), some (zJ (opB r k)), none, some (zI (nI (k + 1))), some (zR (some ((A k)))), some (zR (some q))]) rfl rfl (nI_1 _) rfl ?_
            refine z_go rfl ?_
            have u17 : decide (r 17 k = 0) = !yR := by rw [e17R]; cases yR <;> rfl
            have c1 : (decide (r 17 k = 0) || decide (r 21 (pkN r k) = nI k)) = true := by rw [u17, b_2, ek, ← hpi pkR pk8R, decide_eq_true h_5]; rfl
            have c9 : opC r k = false := by rw [opC, c1, ek, w9, b_7]; rfl
            have h9 : opB r (k + 1) = opB r k := by rw [opB, if_neg (by rw [c9]; nofun)]
            refine z_ok (ls' := [some (zR (some s)), some (zR (some pr)), some (zR (some pi)), some (zJ (opB r (k + 1))), none, some (zI (nI (k + 1))), some (zR (some (A k))), some (zR (some q))]) (by rw [h9]) ?_
            exact ih (by omega) _ _
          · refine z_lld rfl rfl ?_
            refine z_lco (x := 1) rfl rfl ?_
            refine z_ild rfl rfl ?_
            refine z_lsh (v := zlsh 0 1 (nI k)) rfl rfl ?_
            refine z_lbi (v := (opB r k) ||| (zlsh 0 1 (nI k))) rfl rfl ?_
            refine z_lst (ls' := [some (zR (some s)), some (zR (some pr)), some (zR (some pi)), some (zJ ((opB r k) ||| (zlsh 0 1 (nI k)))), none, some (zI (nI k)), some (zR (some ((A k)))), some (zR (some q))]) rfl (Nat.le_of_ble_eq_true rfl) rfl ?_
            refine z_inc (x' := (nI (k + 1))) (ls' := [some (zR (some s)), some (zR (some pr)), some (zR (some pi)), some (zJ ((opB r k) ||| (zlsh 0 1 (nI k)))), none, some (zI (nI (k + 1))), some (zR (some ((A k)))), some (zR (some q))]) rfl rfl (nI_1 _) rfl ?_
            refine z_go rfl ?_
            have u17 : decide (r 17 k = 0) = !yR := by rw [e17R]; cases yR <;> rfl
            have c1 : (decide (r 17 k = 0) || decide (r 21 (pkN r k) = nI k)) = true := by rw [u17, b_2, ek, ← hpi pkR pk8R, decide_eq_true h_5]; rfl
            have c9 : opC r k = true := by rw [opC, c1, ek, w9, b_7]; rfl
            have h9 : opB r (k + 1) = opB r k ||| zlsh 0 1 (nI k) := by rw [opB, if_pos c9]
            refine z_ok (ls' := [some (zR (some s)), some (zR (some pr)), some (zR (some pi)), some (zJ (opB r (k + 1))), none, some (zI (nI (k + 1))), some (zR (some (A k))), some (zR (some q))]) (by rw [h9]) ?_
            exact ih (by omega) _ _
set_option maxHeartbeats 1000000 in
theorem k_X5_openOptions {d : Nat} {h : zH} {g : zH} {r : rA} {s pg po pt pc pp pl pr pi v : Nat} {A : Nat → Nat} {fo : Int64} {fR : Nat → Option Nat} {fP : Nat → Int32} (hr : rgI h g r v pg pl A) (hs : h s = some (srO pg po pt pc pp fo)) (hR : h pr = some (zaR 5 8 fR)) (hP : h pi = some (zaI 1 8 fP)) (hrt : rtI h r fR) (hpi : ∀ p, p < 8 → fP p = r 21 p) : zPure (d + 6) 48 [zR (some s), zR (some pr), zR (some pi)] h (some (zJ (opB r v))) := by
  have h1 := hr.1
  have hv := hr.2.2.1
  refine zCall.of (d := d + 5) (T := tb_48) (L := [some (zR (some s)), some (zR (some pr)), some (zR (some pi)), none, none, none, none, none]) (Nat.le_of_ble_eq_true rfl) rfl rfl ?_
  refine z_lco (x := 0) rfl rfl ?_
  refine z_lst (ls' := [some (zR (some s)), some (zR (some pr)), some (zR (some pi)), some (zJ 0), none, none, none, none]) rfl (Nat.le_of_ble_eq_true rfl) rfl ?_
  refine z_ico (x := (nI 0)) rfl rfl ?_
  refine z_ist (ls' := [some (zR (some s)), some (zR (some pr)), some (zR (some pi)), some (zJ 0), none, some (zI (nI 0)), none, none]) rfl (Nat.le_of_ble_eq_true rfl) rfl ?_
  refine kl_o1 (d := d) hr hs hR hP hrt hpi ?_ 0 (by omega)
  refine z_ico (x := (nI 0)) rfl rfl ?_
  refine z_ist (ls' := [some (zR (some s)), some (zR (some pr)), some (zR (some pi)), some (zJ (opA r 8)), none, some (zI (nI 0)), none, none]) rfl (Nat.le_of_ble_eq_true rfl) rfl ?_
  exact kl_o2 hr hs hR hP hrt hpi h1 hv ⟨rfl, rfl⟩ 0 (by omega) _ _
