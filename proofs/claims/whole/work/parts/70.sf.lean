/-- f holds just the options of a choice from x that has no clash -/
def fdO (C : Nat → Int64) (kp : Nat → Nat) (x f : Int64) : Prop := ∃ c, chs kp x c ∧ ncl C c ∧ ∀ o, o < 64 → (tst f o = true ↔ ∃ p, p < 8 ∧ o = c p)
/-- what is known of the clashes -/
def clK (C : Nat → Int64) : Prop := (∀ a, a < 48 → ∀ b, b < 48 → tst (C a) b = tst (C b) a) ∧ ∀ p, p < 8 → ∀ q, q < 8 → tst (C (40 + p)) (40 + q) = false
def mnN (O : Nat → Int64) (x : Int64) : Nat → Nat
  | 0 => 0
  | n + 1 => mnN O x n + (if 1 < cbP O x n then 1 else 0)
theorem cbP_sub {O : Nat → Int64} {x y : Int64} (h : ∀ o, o < 64 → tst y o = true → tst x o = true) (p : Nat) : cbP O y p ≤ cbP O x p := by
  refine cb_sub (fun o ho t => ?_) 64 (Nat.le_refl _)
  rw [tst_and, Bool.and_eq_true] at t ⊢
  exact ⟨h o ho t.1, t.2⟩
theorem mn_sub {O : Nat → Int64} {x y : Int64} (h : ∀ o, o < 64 → tst y o = true → tst x o = true) : ∀ n, mnN O y n ≤ mnN O x n
  | 0 => Nat.le_refl _
  | n + 1 => by
    have := mn_sub (O := O) h n
    have := cbP_sub (O := O) h n
    rw [mnN, mnN]
    by_cases g : 1 < cbP O y n
    · rw [if_pos g, if_pos (by omega)]; omega
    · rw [if_neg g]; omega
theorem mn_pos {O : Nat → Int64} {x : Int64} : ∀ {n p : Nat}, p < n → 1 < cbP O x p → 1 ≤ mnN O x n
  | 0, _, h, _ => absurd h (Nat.not_lt_zero _)
  | n + 1, p, h, g => by
    rw [mnN]
    by_cases e : p = n
    · rw [← e, if_pos g]; omega
    · have := mn_pos (n := n) (p := p) (by omega) g
      omega
theorem mn_8 {O : Nat → Int64} {x : Int64} : ∀ n, mnN O x n ≤ n
  | 0 => Nat.le_refl _
  | n + 1 => by
    have := mn_8 (O := O) (x := x) n
    rw [mnN]
    split <;> omega
section
variable {K : Nat → Int32} {O C : Nat → Int64} {vO : Nat → Prop} {kp : Nat → Nat}
theorem st_ok (hsr : srK K O vO kp) {x : Int64} (hx : okX vO x) {p o : Nat} (ho : vO o) : okX vO (stL O x p o) := fun j hj t => by
  rw [tst_stL (by have := (hsr.1 o ho).1; omega) hj, Bool.or_eq_true, Bool.and_eq_true] at t
  rcases t with t | t
  · exact hx j hj t.1
  · rw [of_decide_eq_true t]; exact ho
theorem st_sub (hsr : srK K O vO kp) {x : Int64} {p o : Nat} (ho : vO o) (hxo : tst x o = true) : ∀ j, j < 64 → tst (stL O x p o) j = true → tst x j = true := fun j hj t => by
  rw [tst_stL (by have := (hsr.1 o ho).1; omega) hj, Bool.or_eq_true, Bool.and_eq_true] at t
  rcases t with t | t
  · exact t.1
  · rw [of_decide_eq_true t]; exact hxo
theorem st_other (hsr : srK K O vO kp) {x : Int64} {p q o : Nat} (hp : p < 8) (hq : q < 8) (hpq : q ≠ p) (ho : vO o) (hk : kp o = p) : cbP O (stL O x p o) q = cbP O x q := by
  unfold cbP
  congr 1
  refine tst_ext (fun j hj => ?_)
  rw [tst_and, tst_and, tst_stL (by have := (hsr.1 o ho).1; omega) hj]
  cases t : tst (O q) j with
  | false => rw [Bool.and_false, Bool.and_false]
  | true =>
    have k := (hsr.2.1 q hq j hj).mp t
    have e1 : tst (O p) j = false := Bool.eq_false_iff.mpr (fun z => hpq (k.2.symm.trans ((hsr.2.1 p hp j hj).mp z).2))
    have e2 : ¬ j = o := fun z => hpq (by rw [← k.2, z, hk])
    rw [e1, decide_eq_false e2, Bool.not_false, Bool.and_true, Bool.or_false]
theorem st_own (hsr : srK K O vO kp) {x : Int64} {p o : Nat} (ho : vO o) : cbP O (stL O x p o) p ≤ 1 := by
  refine cb_one (o0 := o) (fun j hj t => ?_)
  rw [tst_and, tst_stL (by have := (hsr.1 o ho).1; omega) hj, Bool.and_eq_true, Bool.or_eq_true, Bool.and_eq_true] at t
  rcases t.1 with g | g
  · rw [t.2] at g; cases g.2
  · exact of_decide_eq_true g
theorem mn_set (hsr : srK K O vO kp) {x : Int64} {p o : Nat} (hp : p < 8) (ho : vO o) (hk : kp o = p) (h1 : 1 < cbP O x p) : mnN O (stL O x p o) 8 + 1 ≤ mnN O x 8 := by
  have k : ∀ n, n ≤ 8 → mnN O (stL O x p o) n + (if p < n then 1 else 0) ≤ mnN O x n := by
    intro n
    induction n with
    | zero => intro _; exact Nat.le_refl _
    | succ n ih =>
      intro hn
      have ih := ih (by omega)
      rw [mnN, mnN]
      by_cases e : n = p
      · have := st_own (O := O) hsr (x := x) (p := p) ho
        rw [e] at ih ⊢
        rw [if_neg (show ¬ p < p by omega)] at ih
        rw [if_neg (show ¬ 1 < cbP O (stL O x p o) p by omega), if_pos h1, if_pos (by omega)]
        omega
      · rw [st_other hsr hp (show n < 8 by omega) e ho hk]
        by_cases g : p < n
        · rw [if_pos g] at ih
          rw [if_pos (show p < n + 1 by omega)]
          omega
        · rw [if_neg g] at ih
          rw [if_neg (show ¬ p < n + 1 by omega)]
          omega
  have := k 8 (Nat.le_refl _)
  rw [if_pos hp] at this
  exact this
theorem wn_iff (hsr : srK K O vO kp) {y : Int64} (hy : okX vO y) : ∀ n, n ≤ 8 → ∀ o, o < 64 → (tst (wnF O y n) o = true ↔ vO o ∧ ((kp o < n ∧ tst y (40 + kp o) = true) → o = 40 + kp o) ∧ (¬ (kp o < n ∧ tst y (40 + kp o) = true) → tst y o = true))
  | 0, _, o, ho => by
    constructor
    · exact fun t => ⟨hy o ho t, fun g => absurd g.1 (Nat.not_lt_zero _), fun _ => t⟩
    · exact fun t => t.2.2 (fun g => absurd g.1 (Nat.not_lt_zero _))
  | n + 1, hn, o, ho => by
    have ih := wn_iff hsr hy n (by omega) o ho
    have hv := hsr.2.2 n (by omega)
    rw [wnF]
    by_cases t : tst y (40 + n) = true
    · rw [if_pos t, tst_stL (by omega) ho, Bool.or_eq_true, Bool.and_eq_true]
      constructor
      · rintro (⟨g1, g2⟩ | g)
        · have i := ih.mp g1
          have ne : kp o ≠ n := fun z => by
            rw [(hsr.2.1 n (by omega) o ho).mpr ⟨i.1, z⟩] at g2
            cases g2
          exact ⟨i.1, fun z => i.2.1 ⟨by omega, z.2⟩, fun z => i.2.2 (fun q => z ⟨by omega, q.2⟩)⟩
        · have e := of_decide_eq_true g
          subst e
          exact ⟨hv.1, fun _ => by rw [hv.2], fun z => t⟩
      · intro ⟨i1, i2, i3⟩
        by_cases e : kp o = n
        · right
          rw [e] at i2
          exact decide_eq_true (i2 ⟨by omega, t⟩)
        · left
          refine ⟨ih.mpr ⟨i1, fun z => i2 ⟨by omega, z.2⟩, fun z => i3 (fun q => z ⟨by omega, q.2⟩)⟩, ?_⟩
          have : tst (O n) o = false := Bool.eq_false_iff.mpr (fun z => e ((hsr.2.1 n (by omega) o ho).mp z).2)
          rw [this]; rfl
    · rw [if_neg t, ih]
      constructor
      · exact fun ⟨i1, i2, i3⟩ => ⟨i1, fun z => i2 ⟨by
          have : kp o ≠ n := fun q => t (by rw [← q]; exact z.2)
          omega, z.2⟩, fun z => i3 (fun q => z ⟨by omega, q.2⟩)⟩
      · exact fun ⟨i1, i2, i3⟩ => ⟨i1, fun z => i2 ⟨by omega, z.2⟩, fun z => i3 (fun q => z ⟨by
          have : kp o ≠ n := fun w => t (by rw [← w]; exact q.2)
          omega, q.2⟩)⟩
theorem cbP_48 (hsr : srK K O vO kp) {y : Int64} (hy : okX vO y) {p : Nat} (hp : p < 8) : cbP O y p < 48 := by
  have h : ∀ o, 48 ≤ o → o < 64 → tst (y &&& O p) o = false := fun o h1 h2 => Bool.eq_false_iff.mpr (fun t => by
    rw [tst_and, Bool.and_eq_true] at t
    have := (hsr.1 o (hy o h2 t.1)).1
    omega)
  unfold cbP
  rw [cb_48 h]
  -- the other package's none is missing
  have hq : ∃ q, q < 8 ∧ q ≠ p := by
    by_cases e : p = 0
    · exact ⟨1, by omega, by omega⟩
    · exact ⟨0, by omega, by omega⟩
  obtain ⟨q, hq8, hqp⟩ := hq
  have m : tst (y &&& O p) (40 + q) = false := Bool.eq_false_iff.mpr (fun t => by
    rw [tst_and, Bool.and_eq_true] at t
    have := ((hsr.2.1 p hp (40 + q) (by omega)).mp t.2).2
    rw [(hsr.2.2 q hq8).2] at this
    exact hqp this)
  have := cb_miss (n := 48) (o := 40 + q) (by omega) m
  omega
/-- where nothing presses, none where it is possible makes a choice without a clash -/
theorem wn_ok (hsr : srK K O vO kp) (hC : clK C) {x y : Int64} (hx : okX vO x) (hn : narO C kp x y) (hy0 : ¬ y = 0) (hm : (mpF O y 8).1 = none) : fdO C kp x (wnF O y 8) := by
  have hy : okX vO y := fun o ho t => hx o ho (hn.1 o ho t)
  have hmp := (mp_none (fun p hp => cbP_48 hsr hy hp) (Nat.le_refl 8) hm).2
  obtain ⟨o0, ho0, to0⟩ : ∃ o, o < 64 ∧ tst y o = true := Classical.byContradiction (fun g => hy0 (tst_ext (fun o ho => by
    rw [tst_0]
    exact Bool.eq_false_iff.mpr (fun t => g ⟨o, ho, t⟩))))
  have ex : ∀ p, ∃ a, p < 8 → a < 48 ∧ tst y a = true ∧ kp a = p ∧ (tst y (40 + p) = true → a = 40 + p) := fun p => by
    by_cases hp : p < 8
    · by_cases t : tst y (40 + p) = true
      · exact ⟨40 + p, fun _ => ⟨by omega, t, (hsr.2.2 p hp).2, fun _ => rfl⟩⟩
      · obtain ⟨a, h1, h2, h3, _⟩ := hn.2.1 o0 ho0 to0 p hp
        exact ⟨a, fun _ => ⟨h1, h2, h3, fun z => absurd z t⟩⟩
    · exact ⟨0, fun z => absurd z hp⟩
  have hc : ∀ p, p < 8 → Classical.choose (ex p) < 48 ∧ tst y (Classical.choose (ex p)) = true ∧ kp (Classical.choose (ex p)) = p ∧ (tst y (40 + p) = true → Classical.choose (ex p) = 40 + p) := fun p hp => Classical.choose_spec (ex p) hp
  generalize hcc : (fun p => Classical.choose (ex p)) = c at *
  have hc : ∀ p, p < 8 → c p < 48 ∧ tst y (c p) = true ∧ kp (c p) = p ∧ (tst y (40 + p) = true → c p = 40 + p) := by
    rw [← hcc]
    exact hc
  have uniq : ∀ p, p < 8 → ¬ tst y (40 + p) = true → ∀ a, a < 48 → tst y a = true → kp a = p → a = c p := by
    intro p hp nt a ha ta ka
    have h1 : cbP O y p ≤ 1 := (hmp p hp).elim id (fun z => absurd z nt)
    obtain ⟨c1, c2, c3, _⟩ := hc p hp
    have m : ∀ b, b < 48 → tst y b = true → kp b = p → tst (y &&& O p) b = true := fun b hb tb kb => by
      rw [tst_and, tb, (hsr.2.1 p hp b (by omega)).mpr ⟨hy b (by omega) tb, kb⟩]; rfl
    rcases Nat.lt_trichotomy a (c p) with g | g | g
    · have := cb_two (x := y &&& O p) (n := 64) g (by omega) (m a ha ta ka) (m _ c1 c2 c3)
      unfold cbP at h1
      omega
    · exact g
    · have := cb_two (x := y &&& O p) (n := 64) g (by omega) (m _ c1 c2 c3) (m a ha ta ka)
      unfold cbP at h1
      omega
  refine ⟨c, fun p hp => ⟨(hc p hp).1, (hc p hp).2.2.1, hn.1 _ (by have := (hc p hp).1; omega) (hc p hp).2.1⟩, fun p hp q hq => ?_, fun o ho => ?_⟩
  · by_cases tq : tst y (40 + q) = true
    · by_cases tp : tst y (40 + p) = true
      · rw [(hc p hp).2.2.2 tp, (hc q hq).2.2.2 tq]
        exact hC.2 p hp q hq
      · obtain ⟨a, h1, h2, h3, h4⟩ := hn.2.1 (c q) (by have := (hc q hq).1; omega) (hc q hq).2.1 p hp
        rw [← uniq p hp tp a h1 h2 h3]
        exact h4
    · obtain ⟨a, h1, h2, h3, h4⟩ := hn.2.1 (c p) (by have := (hc p hp).1; omega) (hc p hp).2.1 q hq
      rw [hC.1 _ (hc p hp).1 _ (hc q hq).1, ← uniq q hq tq a h1 h2 h3]
      exact h4
  · rw [wn_iff hsr hy 8 (Nat.le_refl _) o ho]
    constructor
    · intro ⟨v, i2, i3⟩
      have k := hsr.1 o v
      refine ⟨kp o, k.2.2, ?_⟩
      by_cases t : tst y (40 + kp o) = true
      · rw [(hc _ k.2.2).2.2.2 t]
        exact i2 ⟨k.2.2, t⟩
      · exact uniq _ k.2.2 t o k.1 (i3 (fun z => t z.2)) rfl
    · intro ⟨p, hp, e⟩
      obtain ⟨c1, c2, c3, c4⟩ := hc p hp
      subst e
      exact ⟨hy _ ho c2, fun z => by rw [c3] at z ⊢; exact c4 z.2, fun _ => c2⟩
end
