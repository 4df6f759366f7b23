theorem z_acp {d : Nat} {T : List (Nat × zOp)} {mc ms : Nat} {Q : zQ} {pc : Nat} {ls : List (Option zV)} {st : List zV} {h : zH} {c s n a b ix w : Nat} {z : Int} {p1 p2 i1 i2 N m1 m2 : Nat} {f g : Nat → Int32} (ho : T.lookup pc = some (44, n, a, b, ix, w, z)) (hr : (st.map zcat).sum ≤ 8) (hf : ∀ i, i < N → fits (if a = 0 then .byte else .int) (.int (f (i1 + i))) = true) (h1 : h p1 = some (zaI a m1 f)) (h2 : h p2 = some (zaI a m2 g)) (b1 : i1 + N ≤ m1) (b2 : i2 + N ≤ m2) (c1 : m1 < 2 ^ 31) (c2 : m2 < 2 ^ 31) (k : ∀ h', h' p2 = some (zaI a m2 (va_cpy f g i1 i2 N)) → (∀ y, y ≠ p2 → h' y = h y) → zEv d T mc ms Q (pc + n) ls st h' c s) : zEv d T mc ms Q pc ls (zI (nI N) :: zI (nI i2) :: zR (some p2) :: zI (nI i1) :: zR (some p1) :: st) h c s := by
  have e1 : (nI i1).toNatClampNeg = i1 := nI_clamp (by omega)
  have e2 : (nI i2).toNatClampNeg = i2 := nI_clamp (by omega)
  have e3 : (nI N).toNatClampNeg = N := nI_clamp (by omega)
  refine zEv.step ho ⟨nI N, nI i1, p1, nI i2, p2, st, m1, f, m2, g, rfl, hr, ?_, h1, h2, nI_pos (by omega), nI_pos (by omega), nI_pos (by omega), ?_, ?_, ?_⟩
  · rw [e1, e3]; exact hf
  · rw [e1, e3]; exact b1
  · rw [e2, e3]; exact b2
  · rw [e1, e2, e3]
    exact k _ (zup_s _ _ _) (fun y hy => zup_n _ _ hy)
theorem mn_low {x y : Nat} (h : y ≤ x) (hx : x < 2 ^ 31) : (if nI y < nI x then nI y else nI x) = nI y := by
  rcases Nat.lt_or_ge y x with g | g
  · exact if_pos ((nI_ltI (by omega) hx).mpr g)
  · rw [show x = y by omega]; exact ite_self _
def hle (g h : zH) : Prop := ∀ y e, g y = some e → h y = some e
theorem hle_refl (g : zH) : hle g g := fun _ _ e => e
theorem hle_trans {f g h : zH} (a : hle f g) (b : hle g h) : hle f h := fun y e q => b y e (a y e q)
/-- from (g, h) to (g', h'): g is what is frozen; old cells change where M allows it alone -/
def ext (M : Nat → Prop) (g h g' h' : zH) : Prop := hle g g' ∧ hle g' h' ∧ (∀ y, g y = none → h y ≠ none → g' y = none) ∧ (∀ y, h y ≠ none → h' y ≠ none) ∧ (∀ y, h y ≠ none → ¬ M y → h' y = h y)
theorem ext_refl {M : Nat → Prop} {g h : zH} (hg : hle g h) : ext M g h g h := ⟨hle_refl g, hg, fun _ e _ => e, fun _ e => e, fun _ _ _ => rfl⟩
theorem ext_new {M : Nat → Prop} {g h g' h' : zH} (x : ext M g h g' h') {q : Nat} (hq : h' q = none) : h q = none := Classical.byContradiction (fun e => x.2.2.2.1 q e hq)
theorem ext_gn {M : Nat → Prop} {g h g' h' : zH} (x : ext M g h g' h') {q : Nat} (hq : h' q = none) : g' q = none := by
  cases e : g' q with
  | none => rfl
  | some v => rw [x.2.1 q v e] at hq; cases hq
theorem ext_mut {M : Nat → Prop} {g h g' h' h2 : zH} (x : ext M g h g' h') {p : Nat} {e : zE} (fr : ∀ y, y ≠ p → h2 y = h' y) (hp : h p = none ∨ M p) (hg : g' p = none) (hn : h2 p = some e) : ext M g h g' h2 := by
  refine ⟨x.1, ?_, x.2.2.1, ?_, ?_⟩
  · intro y v q
    have : y ≠ p := fun r => by rw [r, hg] at q; cases q
    rw [fr y this]
    exact x.2.1 y v q
  · intro y q
    by_cases r : y = p
    · rw [r, hn]; nofun
    · rw [fr y r]; exact x.2.2.2.1 y q
  · intro y q m
    have : y ≠ p := fun r => by
      rcases hp with a | a
      · rw [r] at q; exact q a
      · rw [r] at m; exact m a
    rw [fr y this]
    exact x.2.2.2.2 y q m
theorem ext_mut2 {M : Nat → Prop} {g h g' h' h2 : zH} (x : ext M g h g' h') {p r : Nat} {e e' : zE} (fr : ∀ y, y ≠ p → y ≠ r → h2 y = h' y) (hp : h p = none ∨ M p) (hg : g' p = none) (hn : h2 p = some e) (hp' : h r = none ∨ M r) (hg' : g' r = none) (hn' : h2 r = some e') : ext M g h g' h2 := by
  refine ⟨x.1, ?_, x.2.2.1, ?_, ?_⟩
  · intro y v q
    have a : y ≠ p := fun r => by rw [r, hg] at q; cases q
    have b : y ≠ r := fun r => by rw [r, hg'] at q; cases q
    rw [fr y a b]
    exact x.2.1 y v q
  · intro y q
    by_cases a : y = p
    · rw [a, hn]; nofun
    · by_cases b : y = r
      · rw [b, hn']; nofun
      · rw [fr y a b]; exact x.2.2.2.1 y q
  · intro y q m
    have a : y ≠ p := fun r => by
      rcases hp with a | a
      · rw [r] at q; exact q a
      · rw [r] at m; exact m a
    have b : y ≠ r := fun r => by
      rcases hp' with a | a
      · rw [r] at q; exact q a
      · rw [r] at m; exact m a
    rw [fr y a b]
    exact x.2.2.2.2 y q m
theorem ext_frz {M : Nat → Prop} {g h g' h' : zH} (x : ext M g h g' h') {q : Nat} {e : zE} (h0 : h q = none) (hg : g' q = none) (he : h' q = some e) : ext M g h (zup g' q e) h' := by
  refine ⟨?_, ?_, ?_, x.2.2.2.1, x.2.2.2.2⟩
  · intro y v r
    have r' := x.1 y v r
    rw [zup_n _ _ (fun a => by rw [a, hg] at r'; cases r')]
    exact r'
  · intro y v r
    by_cases a : y = q
    · rw [a, zup_s] at r
      rw [a, he]; exact r
    · rw [zup_n _ _ a] at r
      exact x.2.1 y v r
  · intro y r s
    rw [zup_n _ _ (fun a => by rw [a] at s; exact s h0)]
    exact x.2.2.1 y r s
theorem ext_call {M M' : Nat → Prop} {g h g' h' g2 h2 : zH} (x : ext M g h g' h') (z : ext M' g' h' g2 h2) (hm : ∀ y, M' y → h y = none ∨ M y) : ext M g h g2 h2 := by
  refine ⟨hle_trans x.1 z.1, z.2.1, ?_, ?_, ?_⟩
  · intro y r s
    exact z.2.2.1 y (x.2.2.1 y r s) (x.2.2.2.1 y s)
  · intro y s
    exact z.2.2.2.1 y (x.2.2.2.1 y s)
  · intro y s m
    rw [z.2.2.2.2 y (x.2.2.2.1 y s) (fun a => (hm y a).elim s m)]
    exact x.2.2.2.2 y s m
theorem ext_frzE {M : Nat → Prop} {g h g' h' : zH} (x : ext M g h g' h') {q : Nat} {e : zE} (h0 : h q = none ∨ False) (hg : g' q = none) (he : h' q = some e) : ∃ g2, ext M g h g2 h' ∧ hle g' g2 ∧ g2 q = some e ∧ ∀ y, y ≠ q → g2 y = g' y :=
  ⟨zup g' q e, ext_frz x (h0.elim id False.elim) hg he, fun y v r => by rw [zup_n _ _ (fun a => by rw [a, hg] at r; cases r)]; exact r, zup_s _ _ _, fun y hy => zup_n _ _ hy⟩
theorem zup_le {g : zH} {q : Nat} {e : zE} (hg : g q = none) : hle g (zup g q e) := fun y v r => by
  rw [zup_n _ _ (fun a => by rw [a, hg] at r; cases r)]; exact r
theorem hle_none {g h : zH} {q : Nat} (hg : hle g h) (hq : h q = none) : g q = none := by
  cases e : g q with
  | none => rfl
  | some v => rw [hg q v e] at hq; cases hq
theorem some_nn {h : zH} {q : Nat} {e : zE} (hq : h q = some e) : h q ≠ none := by rw [hq]; nofun
theorem wdAt_mono {g h : zH} (l : hle g h) {p m : Nat} {w : Nat → Int32} (k : wdAt g p w m) : wdAt h p w m := by
  obtain ⟨pb, fb, a, b, c⟩ := k
  exact ⟨pb, fb, l _ _ a, l _ _ b, c⟩
theorem wsAt_mono {g h : zH} (l : hle g h) {f : Nat → Option Nat} {L m : Nat} {w : Nat → Int32} {pos : Nat → Nat} (k : wsAt g f L w m pos) : wsAt h f L w m pos :=
  ⟨k.1, fun i hi => by obtain ⟨q, a, b, c⟩ := k.2.1 i hi; exact ⟨q, a, wdAt_mono l b, c⟩, k.2.2⟩
theorem vrAt_mono {g h : zH} (l : hle g h) {p : Nat} {V : vV} (k : vrAt g p V) : vrAt h p V := by
  obtain ⟨pw, f, L, pos, a, b, c⟩ := k
  exact ⟨pw, f, L, pos, l _ _ a, l _ _ b, wsAt_mono l c⟩
theorem ovAt_mono {g h : zH} (l : hle g h) {a : Option Nat} {o : Option vV} (k : ovAt g a o) : ovAt h a o := by
  cases o with
  | none => exact k
  | some V =>
    obtain ⟨q, a, b⟩ := k
    exact ⟨q, a, vrAt_mono l b⟩
theorem spAt_mono {g h : zH} (l : hle g h) {p : Nat} {s : sV} (k : spAt g p s) : spAt h p s := by
  obtain ⟨a, b, c, e, x, y, z⟩ := k
  exact ⟨a, b, c, l _ _ e, ovAt_mono l x, ovAt_mono l y, ovAt_mono l z⟩
theorem rqAt_mono {g h : zH} (l : hle g h) {p : Nat} {q : qV} (k : rqAt g p q) : rqAt h p q := by
  obtain ⟨pa, f, a, b, c, e⟩ := k
  exact ⟨pa, f, l _ _ a, l _ _ b, c, fun j hj => by obtain ⟨x, y, z⟩ := e j hj; exact ⟨x, y, spAt_mono l z⟩⟩
/-- a word, as long as it may be -/
def wd0 (h : zH) (p : Nat) (w : Nat → Int32) (m : Nat) : Prop := ∃ pb fb, h p = some (zO 8 [zR (some pb), zI (wnum w m)]) ∧ h pb = some (zaI 0 m fb) ∧ (∀ j, j < m → fb j = w j) ∧ 0 < m ∧ (alld w m 0 = true → m ≤ 9 ∧ (1 < m → ¬ w 0 = nI 48))
theorem wd0_mono {g h : zH} (l : hle g h) {p m : Nat} {w : Nat → Int32} (k : wd0 g p w m) : wd0 h p w m := by
  obtain ⟨pb, fb, a, b, c⟩ := k
  exact ⟨pb, fb, l _ _ a, l _ _ b, c⟩
theorem wd0_cell {h : zH} {p m : Nat} {w : Nat → Int32} (k : wd0 h p w m) : ∃ fs, h p = some (zO 8 fs) := by
  obtain ⟨pb, fb, a, _⟩ := k
  exact ⟨_, a⟩
theorem wd0_24 {g : zH} {p m : Nat} {w : Nat → Int32} (k : wd0 g p w m) (h : m ≤ 24) : wdAt g p w m := by
  obtain ⟨pb, fb, a, b, c, e, f⟩ := k
  exact ⟨pb, fb, a, b, c, e, h, f⟩
set_option maxHeartbeats 1000000 in
theorem k_J7_checkLength_df160 {d : Nat} {h : zH} {a b : Nat} (hab : a ≤ b) (hb : b ≤ 1000) : zPure (d + 1) 6 [zI (nI a), zI (nI b)] h none := by
  refine zCall.of (d := d) (T := tb_6) (L := [some (zI (nI a)), some (zI (nI b))]) (Nat.le_of_ble_eq_true rfl) rfl rfl ?_
  refine z_ild rfl rfl ?_
  refine z_ild rfl rfl ?_
  refine z_cmpN (by omega) (by omega) rfl (fun h_1 => ?_) (fun h_1 => ?_)
  · replace h_1 : a ≤ b := h_1
    refine z_rtv rfl ?_
    exact ⟨rfl, rfl⟩
  · replace h_1 := Nat.not_le.mp h_1
    omega
set_option maxHeartbeats 1000000 in
theorem k_J7_copyOfRangeByte_39247 {d : Nat} {h : zH} {p a b m : Nat} {f : Nat → Int32} (hab : a ≤ b) (hb : b ≤ m) (hm : m ≤ 1000) (hf : ∀ j, j < m → fits .byte (.int (f j)) = true) (h1 : h p = some (zaI 0 m f)) : zCall (d + 2) 5 [zR (some p), zI (nI a), zI (nI b)] h 1 (b - a) (fun h' o => ∃ q, o = .inl (some (zR (some q))) ∧ h q = none ∧ h' q = some (zaI 0 (b - a) (va_cpy f (fun _ => 0) a 0 (b - a))) ∧ (∀ y, y ≠ q → h' y = h y)) := by
  refine zCall.of (d := d + 1) (T := tb_5) (L := [some (zR (some p)), some (zI (nI a)), some (zI (nI b)), none, none]) (Nat.le_of_ble_eq_true rfl) rfl rfl ?_
  refine z_ild rfl rfl ?_
  refine z_ild rfl rfl ?_
  refine z_callF (as := [zI (nI a), zI (nI b)]) (r := []) (v := none) rfl rfl rfl (Nat.le_of_ble_eq_true rfl) (by omega) (by omega) (rc1 rfl) (k_J7_checkLength_df160 (by omega) (by omega)) ?_
  refine z_ild rfl rfl ?_
  refine z_ild rfl rfl ?_
  refine z_ibi (v := (nI (b - a))) rfl (pk_sub (by omega)) ?_
  refine z_ist (ls' := [some (zR (some p)), some (zI (nI a)), some (zI (nI b)), some (zI (nI (b - a))), none]) rfl (Nat.le_of_ble_eq_true rfl) rfl ?_
  refine z_ild rfl rfl ?_
  refine z_newI (e := zaI 0 (b - a) ((fun _ => 0))) rfl (by omega) (by omega) (by omega) rfl ?_
  intro q_1 g_2 h_3 e_4 f_5
  have k_6 := (f_5 p (zn0 h1 h_3)).trans h1
  refine z_ast (ls' := [some (zR (some p)), some (zI (nI a)), some (zI (nI b)), some (zI (nI (b - a))), some (zR (some q_1))]) rfl (Nat.le_of_ble_eq_true rfl) rfl ?_
  refine z_ald rfl rfl ?_
  refine z_ild rfl rfl ?_
  refine z_ald rfl rfl ?_
  refine z_ico (x := (nI 0)) rfl rfl ?_
  refine z_ald rfl rfl ?_
  refine z_len (m := m) rfl (by rw [k_6]; rfl) ?_
  refine z_ild rfl rfl ?_
  refine z_ibi (v := (nI (m - a))) rfl (pk_sub (by omega)) ?_
  refine z_ild rfl rfl ?_
  refine z_min (v := (nI (b - a))) rfl (Nat.le_of_ble_eq_true rfl) (mn_low (by omega) (by omega)) ?_
  refine z_acp rfl (Nat.le_of_ble_eq_true rfl) (fun i hi => hf (a + i) (by omega)) k_6 e_4 (by omega) (by omega) (by omega) (by omega) ?_
  intro g_7 e_8 f_9
  refine z_ald rfl rfl ?_
  refine z_ret rfl ⟨_, rfl⟩ ?_
  exact ⟨q_1, rfl, h_3, e_8, fun y hy => (f_9 y hy).trans (f_5 y hy)⟩
set_option maxHeartbeats 1000000 in
theorem k_J7_copyOfRange_39247 {d : Nat} {h : zH} {p a b m : Nat} {f : Nat → Int32} (hab : a ≤ b) (hb : b ≤ m) (hm : m ≤ 1000) (hf : ∀ j, j < m → fits .byte (.int (f j)) = true) (hw : ¬ (a = 0 ∧ b = m)) (h1 : h p = some (zaI 0 m f)) : zCall (d + 3) 4 [zR (some p), zI (nI a), zI (nI b)] h 1 (b - a) (fun h' o => ∃ q, o = .inl (some (zR (some q))) ∧ h q = none ∧ h' q = some (zaI 0 (b - a) (va_cpy f (fun _ => 0) a 0 (b - a))) ∧ (∀ y, y ≠ q → h' y = h y)) := by
  refine zCall.of (d := d + 2) (T := tb_4) (L := [some (zR (some p)), some (zI (nI a)), some (zI (nI b))]) (Nat.le_of_ble_eq_true rfl) rfl rfl ?_
  refine z_ild rfl rfl ?_
  refine z_ifN (by omega) rfl (fun h_1 => ?_) (fun h_1 => ?_)
  · replace h_1 : ¬ a = 0 := h_1
    refine z_ald rfl rfl ?_
    refine z_ild rfl rfl ?_
    refine z_ild rfl rfl ?_
    refine z_call (as := [zR (some p), zI (nI a), zI (nI b)]) (r := []) (mc' := 1) (ms' := (b - a)) rfl rfl rfl (Nat.le_of_ble_eq_true rfl) (by omega) (by omega) (rc1 rfl) (k_J7_copyOfRangeByte_39247 (by omega) (by omega) (by omega) hf h1) (by rintro _ _ ⟨_, e, _⟩; cases e) ?_
    rintro g_3 _ ⟨q_2, e9, h_4, e_5, f_6⟩; cases e9
    · skip
      have k_7 := (f_6 p (zn0 h1 h_4)).trans h1
      refine z_ret rfl ⟨_, rfl⟩ ?_
      exact ⟨q_2, rfl, h_4, e_5, f_6⟩
  · replace h_1 : a = 0 := Decidable.of_not_not h_1
    refine z_ild rfl rfl ?_
    refine z_ald rfl rfl ?_
    refine z_len (m := m) rfl (by rw [h1]; rfl) ?_
    refine z_cmpN (by omega) (by omega) rfl (fun h_8 => ?_) (fun h_8 => ?_)
    · replace h_8 : b = m := h_8
      omega
    · replace h_8 : ¬ (b = m) := h_8
      refine z_ald rfl rfl ?_
      refine z_ild rfl rfl ?_
      refine z_ild rfl rfl ?_
      refine z_call (as := [zR (some p), zI (nI a), zI (nI b)]) (r := []) (mc' := 1) (ms' := (b - a)) rfl rfl rfl (Nat.le_of_ble_eq_true rfl) (by omega) (by omega) (rc1 rfl) (k_J7_copyOfRangeByte_39247 (by omega) (by omega) (by omega) hf h1) (by rintro _ _ ⟨_, e, _⟩; cases e) ?_
      rintro g_10 _ ⟨q_9, e9, h_11, e_12, f_13⟩; cases e9
      · skip
        have k_14 := (f_13 p (zn0 h1 h_11)).trans h1
        refine z_ret rfl ⟨_, rfl⟩ ?_
        exact ⟨q_9, rfl, h_11, e_12, f_13⟩
