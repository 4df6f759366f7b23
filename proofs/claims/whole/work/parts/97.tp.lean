/-! The reference's constructor. -/
def ifs (qa : Nat → Option Nat) : List zV := [zI (nI 0), zI (nI 0), zR (qa 2), zI (nI 0), zI (bI false), zR (qa 5), zR (qa 6), zR (qa 7), zR (qa 8), zR (qa 9), zR (qa 10), zR (qa 11), zR (qa 12), zR (qa 13), zR (qa 14), zI (nI 0), zR (qa 16), zR (qa 17), zR (qa 18), zR (qa 19), zR (qa 20), zR (qa 21), zR (qa 22), zI (nI 0), zR (qa 24), zR (qa 25), zR (qa 26), zR (qa 27), zR (qa 28), zR (qa 29)]
def qset (qa : Nat → Option Nat) (k a : Nat) : Nat → Option Nat := fun j => if j = k then some a else qa j
def pI (h0 : zH) (q : Nat) (h : zH) (qa : Nat → Option Nat) : Prop := h q = some (zO 10 (ifs qa)) ∧ (∀ k a, qa k = some a → (∃ t n, rarr k = some (t, n) ∧ h a = some (zaI t n (fun _ => 0))) ∧ a ≠ q ∧ h0 a = none) ∧ (∀ k j a, qa k = some a → qa j = some a → k = j) ∧ ∀ y, y ≠ q → (∀ k, qa k ≠ some y) → h y = h0 y
theorem z_al {d : Nat} {T : List (Nat × zOp)} {mc ms : Nat} {Q : zQ} {pc pc' l t k m b1 ix1 w1 a2 b2 ix2 w2 b3 ix3 w3 ix4 w4 c s : Nat} {z1 z2 z3 : Int} {h0 h : zH} {q : Nat} {qa : Nat → Option Nat} (o1 : T.lookup pc = some (1, 1, 0, b1, ix1, w1, z1)) (o2 : T.lookup (pc + 1) = some (6, l, a2, b2, ix2, w2, z2)) (o3 : T.lookup (pc + 1 + l) = some (33, 2, t, b3, ix3, w3, z3)) (o4 : T.lookup (pc + 1 + l + 2) = some (24, 3, 10, k, ix4, w4, 3)) (hp : pc + 1 + l + 2 + 3 = pc') (hk : rarr k = some (t, m)) (hz : Int32.ofInt z2 = nI m) (hm : m ≤ 100000) (ht : znew t m = zaI t m (fun _ => 0)) (hs : ∀ a, (ifs qa).set k (zR (some a)) = ifs (qset qa k a)) (hl : k < 30) (h00 : qa k = none) (I : pI h0 q h qa) (hc : c + 1 ≤ mc) (hsl : s + m ≤ ms) (kk : ∀ h' a, pI h0 q h' (qset qa k a) → zEv d T mc ms Q pc' [some (zR (some q)), none] [] h' (c + 1) (s + m)) : zEv d T mc ms Q pc [some (zR (some q)), none] [] h c s := by
  refine z_ald o1 rfl ?_
  refine z_ico o2 hz ?_
  refine z_newI o3 hm hc hsl ht ?_
  intro a h1 a0 e1 f1
  obtain ⟨i1, i2, i3, i4⟩ := I
  have aq : a ≠ q := fun z => by rw [z, i1] at a0; cases a0
  have hq1 : h1 q = some (zO 10 (ifs qa)) := (f1 q aq.symm).trans i1
  refine z_put (e := zO 10 (ifs (qset qa k a))) o4 hq1 (by show k < 30; exact hl) ⟨_, rfl⟩ (by rw [hs a]) ?_
  intro h2 e2 f2
  rw [hp]
  have na : ∀ j, qa j ≠ some a := fun j z => by
    obtain ⟨⟨t', n', _, x⟩, _⟩ := i2 j a z
    rw [a0] at x; cases x
  refine kk h2 a ⟨e2, fun j b hb => ?_, fun j j' b hb hb' => ?_, fun y hy hn => ?_⟩
  · unfold qset at hb
    by_cases e : j = k
    · rw [if_pos e] at hb
      cases hb
      refine ⟨⟨t, m, by rw [e]; exact hk, (f2 a aq).trans e1⟩, aq, ?_⟩
      rw [← i4 a aq na]; exact a0
    · rw [if_neg e] at hb
      obtain ⟨⟨t', n', x1, x2⟩, x3, x4⟩ := i2 j b hb
      have ba : b ≠ a := fun z => na j (by rw [← z]; exact hb)
      exact ⟨⟨t', n', x1, (f2 b x3).trans ((f1 b ba).trans x2)⟩, x3, x4⟩
  · unfold qset at hb hb'
    by_cases e : j = k
    · rw [if_pos e] at hb
      cases hb
      by_cases e' : j' = k
      · omega
      · rw [if_neg e'] at hb'
        exact absurd hb' (na j')
    · rw [if_neg e] at hb
      by_cases e' : j' = k
      · rw [if_pos e'] at hb'
        cases hb'
        exact absurd hb (na j)
      · rw [if_neg e'] at hb'
        exact i3 j j' b hb hb'
  · have ya : y ≠ a := fun z => hn k (by unfold qset; rw [if_pos rfl, z])
    rw [f2 y hy, f1 y ya]
    refine i4 y hy (fun j z => ?_)
    by_cases e : j = k
    · rw [e, h00] at z; cases z
    · exact hn j (by unfold qset; rw [if_neg e]; exact z)
theorem zup_eq {h h' : zH} {p : Nat} {e : zE} (a : h' p = some e) (b : ∀ y, y ≠ p → h' y = h y) : h' = zup h p e := by
  funext y
  unfold zup
  by_cases c : y = p
  · rw [if_pos c, c, a]
  · rw [if_neg c, b y c]
/-- the arrays at the beginning -/
def riA (k : Nat) : rA := fun a i => if a = 21 ∨ a = 22 then (if i < k then -1 else 0) else 0
theorem riA_0 : riA 0 = fun _ _ => 0 := by
  funext a i
  unfold riA
  split
  · exact if_neg (by omega)
  · rfl
theorem riA_s (k : Nat) : rset (rset (riA k) 21 k (-1)) 22 k (-1) = riA (k + 1) := by
  funext a i
  by_cases e2 : a = 22
  · subst e2
    rw [rset_s, rset_n _ _ _ (by decide)]
    unfold upd riA
    rw [if_pos (Or.inr rfl), if_pos (Or.inr rfl)]
    by_cases c : i = k
    · rw [if_pos c, if_pos (by omega)]
    · rw [if_neg c]
      by_cases d : i < k
      · rw [if_pos d, if_pos (by omega)]
      · rw [if_neg d, if_neg (by omega)]
  · rw [rset_n _ _ _ e2]
    by_cases e1 : a = 21
    · subst e1
      rw [rset_s]
      unfold upd riA
      rw [if_pos (Or.inl rfl), if_pos (Or.inl rfl)]
      by_cases c : i = k
      · rw [if_pos c, if_pos (by omega)]
      · rw [if_neg c]
        by_cases d : i < k
        · rw [if_pos d, if_pos (by omega)]
        · rw [if_neg d, if_neg (by omega)]
    · rw [rset_n _ _ _ e1]
      unfold riA
      rw [if_neg (by omega), if_neg (by omega)]
set_option maxHeartbeats 1000000 in
theorem l_ri {d q c s mc ms : Nat} {qa : Nat → Nat} {Q : zQ} {h0 : zH} (hQ : ∀ h', rAt q qa h' (0, 0, 0, false, 0, 0, riA 8) → rFr q qa h0 h' → Q h' (.inl none)) : ∀ k, k ≤ 8 → ∀ h, rAt q qa h (0, 0, 0, false, 0, 0, riA k) → rFr q qa h0 h → zEv d tb_96 mc ms Q 212 [some (zR (some q)), some (zI (nI k))] [] h c s := by
  refine dn 8 (fun k hk ih h hr hf => ?_)
  refine z_ild rfl rfl ?_
  refine z_ico (x := nI 8) rfl rfl ?_
  refine z_cmpN (by omega) (by omega) rfl (fun h_1 => ?_) (fun h_1 => ?_)
  · replace h_1 : 8 ≤ k := h_1
    have e : k = 8 := by omega
    subst e
    refine z_rtv rfl ?_
    exact hQ h hr hf
  · replace h_1 := Nat.not_le.mp h_1
    refine z_ald rfl rfl ?_
    refine z_get rfl hr.1 rfl ?_
    refine z_ild rfl rfl ?_
    refine z_ico (x := -1) rfl rfl ?_
    refine z_iast (x' := -1) rfl (hr.2.1 21 1 8 rfl) (by omega) (by omega) rfl ?_
    intro h1 e1 f1
    rw [zup_eq e1 f1]
    have hr1 := hr.ast (k0 := 21) (t := 1) (m := 8) (i := k) (x := -1) rfl
    have hf1 := hf.ast (k0 := 21) (t := 1) (m := 8) (e := zaI 1 8 (upd (riA k 21) k (-1))) rfl
    refine z_ald rfl rfl ?_
    refine z_get rfl hr1.1 rfl ?_
    refine z_ild rfl rfl ?_
    refine z_ico (x := -1) rfl rfl ?_
    refine z_iast (x' := -1) rfl (hr1.2.1 22 1 8 rfl) (by omega) (by omega) rfl ?_
    intro h2 e2 f2
    rw [zup_eq e2 f2]
    have hr2 := hr1.ast (k0 := 22) (t := 1) (m := 8) (i := k) (x := -1) rfl
    have hf2 := hf1.ast (k0 := 22) (t := 1) (m := 8) (e := zaI 1 8 (upd (rset (riA k) 21 k (-1) 22) k (-1))) rfl
    rw [riA_s] at hr2
    refine z_inc (x' := nI (k + 1)) (ls' := [some (zR (some q)), some (zI (nI (k + 1)))]) rfl rfl (nI_1 _) rfl ?_
    refine z_go rfl ?_
    exact ih (by omega) _ hr2 hf2
set_option maxHeartbeats 8000000 in
set_option maxRecDepth 4000 in
theorem k_X10_init {d : Nat} {h : zH} {q : Nat} (h1 : h q = some (zO 10 (zdf 10 30))) : zCall (d + 1) 96 [zR (some q)] h 24 37911 (fun h' o => o = .inl none ∧ ∃ qa, rAt q qa h' (0, 0, 0, false, 0, 0, riA 8) ∧ (∀ k t n, rarr k = some (t, n) → h (qa k) = none) ∧ rFr q qa h h') := by
  refine zCall.of (d := d) (T := tb_96) (L := [some (zR (some q)), none]) (Nat.le_of_ble_eq_true rfl) rfl rfl ?_
  refine z_ald rfl rfl ?_
  refine z_oin rfl (Nat.le_of_ble_eq_true rfl) ?_
  have I0 : pI h q h (fun _ => none) := ⟨h1, nofun, nofun, fun _ _ _ => rfl⟩
  refine z_al (pc' := 13) (k := 2) (m := 160) rfl rfl rfl rfl rfl rfl rfl (by omega) rfl (fun a => rfl) (by omega) rfl I0 (by omega) (by omega) ?_
  intro h1 a1 I1
  refine z_al (pc' := 22) (k := 5) (m := 900) rfl rfl rfl rfl rfl rfl rfl (by omega) rfl (fun a => rfl) (by omega) rfl I1 (by omega) (by omega) ?_
  intro h2 a2 I2
  refine z_al (pc' := 31) (k := 6) (m := 900) rfl rfl rfl rfl rfl rfl rfl (by omega) rfl (fun a => rfl) (by omega) rfl I2 (by omega) (by omega) ?_
  intro h3 a3 I3
  refine z_al (pc' := 40) (k := 7) (m := 900) rfl rfl rfl rfl rfl rfl rfl (by omega) rfl (fun a => rfl) (by omega) rfl I3 (by omega) (by omega) ?_
  intro h4 a4 I4
  refine z_al (pc' := 49) (k := 8) (m := 900) rfl rfl rfl rfl rfl rfl rfl (by omega) rfl (fun a => rfl) (by omega) rfl I4 (by omega) (by omega) ?_
  intro h5 a5 I5
  refine z_al (pc' := 58) (k := 9) (m := 21600) rfl rfl rfl rfl rfl rfl rfl (by omega) rfl (fun a => rfl) (by omega) rfl I5 (by omega) (by omega) ?_
  intro h6 a6 I6
  refine z_al (pc' := 67) (k := 10) (m := 900) rfl rfl rfl rfl rfl rfl rfl (by omega) rfl (fun a => rfl) (by omega) rfl I6 (by omega) (by omega) ?_
  intro h7 a7 I7
  refine z_al (pc' := 76) (k := 11) (m := 900) rfl rfl rfl rfl rfl rfl rfl (by omega) rfl (fun a => rfl) (by omega) rfl I7 (by omega) (by omega) ?_
  intro h8 a8 I8
  refine z_al (pc' := 85) (k := 12) (m := 214) rfl rfl rfl rfl rfl rfl rfl (by omega) rfl (fun a => rfl) (by omega) rfl I8 (by omega) (by omega) ?_
  intro h9 a9 I9
  refine z_al (pc' := 94) (k := 13) (m := 205) rfl rfl rfl rfl rfl rfl rfl (by omega) rfl (fun a => rfl) (by omega) rfl I9 (by omega) (by omega) ?_
  intro h10 a10 I10
  refine z_al (pc' := 102) (k := 14) (m := 41) rfl rfl rfl rfl rfl rfl rfl (by omega) rfl (fun a => rfl) (by omega) rfl I10 (by omega) (by omega) ?_
  intro h11 a11 I11
  refine z_al (pc' := 110) (k := 16) (m := 40) rfl rfl rfl rfl rfl rfl rfl (by omega) rfl (fun a => rfl) (by omega) rfl I11 (by omega) (by omega) ?_
  intro h12 a12 I12
  refine z_al (pc' := 118) (k := 17) (m := 40) rfl rfl rfl rfl rfl rfl rfl (by omega) rfl (fun a => rfl) (by omega) rfl I12 (by omega) (by omega) ?_
  intro h13 a13 I13
  refine z_al (pc' := 126) (k := 18) (m := 41) rfl rfl rfl rfl rfl rfl rfl (by omega) rfl (fun a => rfl) (by omega) rfl I13 (by omega) (by omega) ?_
  intro h14 a14 I14
  refine z_al (pc' := 135) (k := 19) (m := 984) rfl rfl rfl rfl rfl rfl rfl (by omega) rfl (fun a => rfl) (by omega) rfl I14 (by omega) (by omega) ?_
  intro h15 a15 I15
  refine z_al (pc' := 143) (k := 20) (m := 8) rfl rfl rfl rfl rfl rfl rfl (by omega) rfl (fun a => rfl) (by omega) rfl I15 (by omega) (by omega) ?_
  intro h16 a16 I16
  refine z_al (pc' := 151) (k := 21) (m := 8) rfl rfl rfl rfl rfl rfl rfl (by omega) rfl (fun a => rfl) (by omega) rfl I16 (by omega) (by omega) ?_
  intro h17 a17 I17
  refine z_al (pc' := 159) (k := 22) (m := 8) rfl rfl rfl rfl rfl rfl rfl (by omega) rfl (fun a => rfl) (by omega) rfl I17 (by omega) (by omega) ?_
  intro h18 a18 I18
  refine z_al (pc' := 168) (k := 24) (m := 250) rfl rfl rfl rfl rfl rfl rfl (by omega) rfl (fun a => rfl) (by omega) rfl I18 (by omega) (by omega) ?_
  intro h19 a19 I19
  refine z_al (pc' := 177) (k := 25) (m := 328) rfl rfl rfl rfl rfl rfl rfl (by omega) rfl (fun a => rfl) (by omega) rfl I19 (by omega) (by omega) ?_
  intro h20 a20 I20
  refine z_al (pc' := 185) (k := 26) (m := 8) rfl rfl rfl rfl rfl rfl rfl (by omega) rfl (fun a => rfl) (by omega) rfl I20 (by omega) (by omega) ?_
  intro h21 a21 I21
  refine z_al (pc' := 193) (k := 27) (m := 8) rfl rfl rfl rfl rfl rfl rfl (by omega) rfl (fun a => rfl) (by omega) rfl I21 (by omega) (by omega) ?_
  intro h22 a22 I22
  refine z_al (pc' := 202) (k := 28) (m := 8560) rfl rfl rfl rfl rfl rfl rfl (by omega) rfl (fun a => rfl) (by omega) rfl I22 (by omega) (by omega) ?_
  intro h23 a23 I23
  refine z_al (pc' := 210) (k := 29) (m := 8) rfl rfl rfl rfl rfl rfl rfl (by omega) rfl (fun a => rfl) (by omega) rfl I23 (by omega) (by omega) ?_
  intro h24 a24 I24
  obtain ⟨j1, j2, j3, j4⟩ := I24
  have all : ∀ k t n, rarr k = some (t, n) → ∃ a, (qset (qset (qset (qset (qset (qset (qset (qset (qset (qset (qset (qset (qset (qset (qset (qset (qset (qset (qset (qset (qset (qset (qset (qset (fun _ => none) 2 a1) 5 a2) 6 a3) 7 a4) 8 a5) 9 a6) 10 a7) 11 a8) 12 a9) 13 a10) 14 a11) 16 a12) 17 a13) 18 a14) 19 a15) 20 a16) 21 a17) 22 a18) 24 a19) 25 a20) 26 a21) 27 a22) 28 a23) 29 a24) k = some a := by
    intro k t n hk
    unfold rarr at hk
    split at hk
    all_goals first | exact ⟨_, rfl⟩ | cases hk
  generalize eqa : qset (qset (qset (qset (qset (qset (qset (qset (qset (qset (qset (qset (qset (qset (qset (qset (qset (qset (qset (qset (qset (qset (qset (qset (fun _ => none) 2 a1) 5 a2) 6 a3) 7 a4) 8 a5) 9 a6) 10 a7) 11 a8) 12 a9) 13 a10) 14 a11) 16 a12) 17 a13) 18 a14) 19 a15) 20 a16) 21 a17) 22 a18) 24 a19) 25 a20) 26 a21) 27 a22) 28 a23) 29 a24 = qq at *
  have ef : ifs qq = rfs (fun k => (qq k).getD 0) (0, 0, 0, false, 0, 0, fun _ _ => 0) := by
    have g : ∀ k t n, rarr k = some (t, n) → qq k = some ((qq k).getD 0) := fun k t n hk => by
      obtain ⟨a, e⟩ := all k t n hk
      rw [e]; rfl
    unfold ifs rfs
    rw [g 2 1 160 rfl, g 5 1 900 rfl, g 6 1 900 rfl, g 7 1 900 rfl, g 8 1 900 rfl, g 9 1 21600 rfl, g 10 1 900 rfl, g 11 1 900 rfl, g 12 1 214 rfl, g 13 1 205 rfl, g 14 1 41 rfl, g 16 1 40 rfl, g 17 3 40 rfl, g 18 1 41 rfl, g 19 1 984 rfl, g 20 3 8 rfl, g 21 1 8 rfl, g 22 1 8 rfl, g 24 1 250 rfl, g 25 1 328 rfl, g 26 1 8 rfl, g 27 1 8 rfl, g 28 3 8560 rfl, g 29 3 8 rfl]
  have hr : rAt q (fun k => (qq k).getD 0) h24 (0, 0, 0, false, 0, 0, riA 0) := by
    rw [riA_0]
    refine ⟨by rw [← ef]; exact j1, fun k t n hk => ?_, fun k t n hk => ?_, fun k t n k2 t2 n2 hk hk2 e => ?_⟩
    · obtain ⟨a, e⟩ := all k t n hk
      obtain ⟨⟨t', n', x1, x2⟩, _⟩ := j2 k a e
      rw [hk] at x1
      cases x1
      show h24 ((qq k).getD 0) = _
      rw [e]; exact x2
    · obtain ⟨a, e⟩ := all k t n hk
      show (qq k).getD 0 ≠ q
      rw [e]; exact (j2 k a e).2.1
    · obtain ⟨a, e1⟩ := all k t n hk
      obtain ⟨b, e2⟩ := all k2 t2 n2 hk2
      have e : (qq k).getD 0 = (qq k2).getD 0 := e
      rw [e1, e2] at e
      have e : a = b := e
      rw [← e] at e2
      exact j3 k k2 a e1 e2
  have hf : rFr q (fun k => (qq k).getD 0) h h24 := fun y hy hn => j4 y hy (fun k z => by
    obtain ⟨⟨t', n', x1, _⟩, _⟩ := j2 k y z
    refine hn k t' n' x1 ?_
    show y = (qq k).getD 0
    rw [z]; rfl)
  refine z_ico (x := nI 0) rfl rfl ?_
  refine z_ist (ls' := [some (zR (some q)), some (zI (nI 0))]) rfl (Nat.le_of_ble_eq_true rfl) rfl ?_
  refine l_ri (fun h' k1 k2 => ⟨rfl, _, k1, fun k t n hk => ?_, k2⟩) 0 (by omega) h24 hr hf
  obtain ⟨a, e⟩ := all k t n hk
  show h ((qq k).getD 0) = none
  rw [e]; exact (j2 k a e).2.2
