/-- how many of the first n options are in x -/
def cbN (x : Int64) : Nat → Nat
  | 0 => 0
  | n + 1 => cbN x n + (if tst x n = true then 1 else 0)
def bbN (b : Nat) : Nat → Nat
  | 0 => 0
  | n + 1 => bbN b n + (if b.testBit n = true then 1 else 0)
theorem d6 : ∀ b : Fin 256, gP b = bbN b 8 := by decide +kernel
theorem tst_un (x : Int64) (o : Nat) : tst x o = (un x).testBit o := rfl
theorem cb_byte (x : Int64) (k : Nat) : ∀ i, i ≤ 8 → cbN x (8 * k + i) = cbN x (8 * k) + bbN (un x / 256 ^ k % 256) i
  | 0, _ => rfl
  | i + 1, h => by
    have e : (un x / 256 ^ k % 256).testBit i = tst x (8 * k + i) := by
      rw [tst_un, show (256 : Nat) = 2 ^ 8 from rfl, Nat.testBit_mod_two_pow, decide_eq_true (show i < 8 by omega), Bool.true_and, ← Nat.pow_mul, Nat.testBit_div_two_pow, Nat.add_comm]
    rw [← Nat.add_assoc, cbN, bbN, cb_byte x k i (by omega), e]
    omega
theorem bc_cb (x : Int64) : bcN (un x) = cbN x 64 := by
  have g : ∀ k, gP (un x / 256 ^ k % 256) = bbN (un x / 256 ^ k % 256) 8 := fun k => d6 ⟨_, by omega⟩
  have c : ∀ k, cbN x (8 * k + 8) = cbN x (8 * k) + gP (un x / 256 ^ k % 256) := fun k => by rw [g, cb_byte x k 8 (by omega)]
  have s : ∀ k Y, Y / 256 ^ (k + 1) = Y / 256 ^ k / 256 := fun k Y => by rw [Nat.pow_succ, Nat.div_div_eq_div_mul]
  have c0 := c 0
  have c1 := c 1
  have c2 := c 2
  have c3 := c 3
  have c4 := c 4
  have c5 := c 5
  have c6 := c 6
  have c7 := c 7
  rw [s 6, s 5, s 4, s 3, s 2, s 1, Nat.pow_one] at c7
  rw [s 5, s 4, s 3, s 2, s 1, Nat.pow_one] at c6
  rw [s 4, s 3, s 2, s 1, Nat.pow_one] at c5
  rw [s 3, s 2, s 1, Nat.pow_one] at c4
  rw [s 2, s 1, Nat.pow_one] at c3
  rw [s 1, Nat.pow_one] at c2
  rw [Nat.pow_one] at c1
  rw [Nat.pow_zero, Nat.div_one] at c0
  have z : cbN x (8 * 0) = 0 := rfl
  show _ = cbN x (8 * 7 + 8)
  rw [c7, show 8 * 7 = 8 * 6 + 8 from rfl, c6, show 8 * 6 = 8 * 5 + 8 from rfl, c5, show 8 * 5 = 8 * 4 + 8 from rfl, c4, show 8 * 4 = 8 * 3 + 8 from rfl, c3, show 8 * 3 = 8 * 2 + 8 from rfl, c2, show 8 * 2 = 8 * 1 + 8 from rfl, c1, show 8 * 1 = 8 * 0 + 8 from rfl, c0, z, bcN]
  omega
theorem cb_le (x : Int64) : ∀ n, cbN x n ≤ n
  | 0 => Nat.le_refl _
  | n + 1 => by
    have := cb_le x n
    rw [cbN]
    split <;> omega
theorem cb_pos {x : Int64} : ∀ {n o : Nat}, o < n → tst x o = true → 1 ≤ cbN x n
  | 0, o, h, _ => absurd h (Nat.not_lt_zero _)
  | n + 1, o, h, t => by
    rw [cbN]
    by_cases e : o = n
    · rw [← e, if_pos t]; omega
    · have := cb_pos (n := n) (o := o) (by omega) t
      omega
theorem cb_two {x : Int64} : ∀ {n o p : Nat}, o < p → p < n → tst x o = true → tst x p = true → 2 ≤ cbN x n
  | 0, o, p, _, h, _, _ => absurd h (Nat.not_lt_zero _)
  | n + 1, o, p, h1, h, t, t' => by
    rw [cbN]
    by_cases e : p = n
    · have := cb_pos (n := n) (o := o) (by omega) t
      rw [← e, if_pos t']
      rw [← e] at this
      omega
    · have := cb_two (n := n) h1 (by omega) t t'
      omega
theorem cb_0 {x : Int64} : ∀ {n : Nat}, (∀ o, o < n → tst x o = false) → cbN x n = 0
  | 0, _ => rfl
  | n + 1, h => by
    rw [cbN, cb_0 (fun o ho => h o (by omega)), if_neg (by rw [h n (by omega)]; nofun)]
theorem cb_one {x : Int64} {o0 : Nat} : ∀ {n : Nat}, (∀ o, o < n → tst x o = true → o = o0) → cbN x n ≤ 1
  | 0, _ => Nat.zero_le _
  | n + 1, h => by
    rw [cbN]
    by_cases t : tst x n = true
    · have e := h n (by omega) t
      rw [if_pos t, cb_0 (fun o ho => Bool.eq_false_iff.mpr (fun q => by have := h o (by omega) q; omega))]
      omega
    · rw [if_neg t]
      exact cb_one (fun o ho => h o (by omega))
theorem cb_miss {x : Int64} : ∀ {n o : Nat}, o < n → tst x o = false → cbN x n + 1 ≤ n
  | 0, o, h, _ => absurd h (Nat.not_lt_zero _)
  | n + 1, o, h, t => by
    rw [cbN]
    by_cases e : o = n
    · have := cb_le x n
      rw [← e, if_neg (by rw [t]; nofun)]
      rw [← e] at this
      omega
    · have := cb_miss (n := n) (o := o) (by omega) t
      split <;> omega
theorem cb_48 {x : Int64} (h : ∀ o, 48 ≤ o → o < 64 → tst x o = false) : cbN x 64 = cbN x 48 := by
  have : ∀ k, k ≤ 16 → cbN x (48 + k) = cbN x 48 := by
    intro k
    induction k with
    | zero => intro _; rfl
    | succ k ih =>
      intro hk
      rw [← Nat.add_assoc, cbN, ih (by omega), if_neg (by rw [h _ (by omega) (by omega)]; nofun), Nat.add_zero]
  exact this 16 (by omega)
theorem cb_sub {x y : Int64} (h : ∀ o, o < 64 → tst y o = true → tst x o = true) : ∀ n, n ≤ 64 → cbN y n ≤ cbN x n
  | 0, _ => Nat.le_refl _
  | n + 1, hn => by
    have := cb_sub h n (by omega)
    rw [cbN, cbN]
    by_cases t : tst y n = true
    · rw [if_pos t, if_pos (h n (by omega) t)]; omega
    · rw [if_neg t]; omega
theorem cb_lt {x y : Int64} (h : ∀ o, o < 64 → tst y o = true → tst x o = true) (hn : ¬ y = x) : cbN y 64 < cbN x 64 := by
  have k : ∀ n, n ≤ 64 → (∃ o, o < n ∧ tst x o = true ∧ tst y o = false) → cbN y n < cbN x n := by
    intro n
    induction n with
    | zero => intro _ h; obtain ⟨o, h, _⟩ := h; omega
    | succ n ih =>
      intro hn ⟨o, ho, tx, ty⟩
      rw [cbN, cbN]
      by_cases e : o = n
      · have := cb_sub h n (by omega)
        rw [← e, if_pos tx, if_neg (by rw [ty]; nofun)]
        rw [← e] at this
        omega
      · have := ih (by omega) ⟨o, by omega, tx, ty⟩
        by_cases t : tst y n = true
        · rw [if_pos t, if_pos (h n (by omega) t)]; omega
        · rw [if_neg t]; omega
  refine k 64 (Nat.le_refl _) (Classical.byContradiction (fun g => hn (tst_ext (fun o ho => ?_))))
  cases tx : tst x o with
  | false => exact Bool.eq_false_iff.mpr (fun q => by rw [h o ho q] at tx; cases tx)
  | true =>
    cases ty : tst y o with
    | true => rfl
    | false => exact absurd ⟨o, ho, tx, ty⟩ g
/-- a search's cell -/
abbrev srO (pg po pt pc pp : Nat) (fo : Int64) : zE := zO 5 [zR (some pg), zR (some po), zR (some pt), zR (some pc), zR (some pp), zJ fo]
def stL (O : Nat → Int64) (x : Int64) (p o : Nat) : Int64 := x &&& (O p ^^^ -1) ||| zlsh 0 1 (nI o)
theorem tst_stL {O : Nat → Int64} {x : Int64} {p o j : Nat} (ho : o < 64) (hj : j < 64) : tst (stL O x p o) j = ((tst x j && !tst (O p) j) || decide (j = o)) := by
  rw [stL, tst_or, tst_and, tst_not _ hj, tst_sh ho hj]
theorem lbase (x : Int64) : (0 : Int64) ||| x = x := by simp
def upToL (f : Nat → Int64) (x : Int64) (k : Nat) : Nat → Int64 := fun j => if j < k then x else f j
theorem upToL_s (f : Nat → Int64) (x : Int64) (k : Nat) : vp_updL (upToL f x k) k x = upToL f x (k + 1) := by
  funext j
  unfold vp_updL upToL
  by_cases e : j = k
  · subst e
    simp
  · by_cases g : j < k
    · simp [e, g, show j < k + 1 by omega]
    · simp [e, g, show ¬ j < k + 1 by omega]
theorem upToL_0 (f : Nat → Int64) (x : Int64) : upToL f x 0 = f := by
  funext j
  unfold upToL
  simp
set_option maxHeartbeats 1000000 in
theorem k_J13_bitCount_95d88 {d : Nat} {h : zH} {x : Int64}  : zPure (d + 1) 1 [zJ x] h (some (zI (nI (cbN x 64)))) := by
  refine zCall.of (d := d) (T := tb_1) (L := [some (zJ x), none]) (Nat.le_of_ble_eq_true rfl) rfl rfl ?_
  refine z_lld rfl rfl ?_
  refine z_lld rfl rfl ?_
  refine z_ico (x := (nI 1)) rfl rfl ?_
  refine z_lsh (v := zlsh 2 x (nI 1)) rfl rfl ?_
  refine z_lco (x := 6148914691236517205) rfl rfl ?_
  refine z_lbi (v := (zlsh 2 x (nI 1)) &&& 6148914691236517205) rfl rfl ?_
  refine z_lbi (v := x - ((zlsh 2 x (nI 1)) &&& 6148914691236517205)) rfl rfl ?_
  refine z_lst (ls' := [some (zJ (x - ((zlsh 2 x (nI 1)) &&& 6148914691236517205))), none]) rfl (Nat.le_of_ble_eq_true rfl) rfl ?_
  refine z_lld rfl rfl ?_
  refine z_lco (x := 3689348814741910323) rfl rfl ?_
  refine z_lbi (v := (x - ((zlsh 2 x (nI 1)) &&& 6148914691236517205)) &&& 3689348814741910323) rfl rfl ?_
  refine z_lld rfl rfl ?_
  refine z_ico (x := (nI 2)) rfl rfl ?_
  refine z_lsh (v := zlsh 2 (x - ((zlsh 2 x (nI 1)) &&& 6148914691236517205)) (nI 2)) rfl rfl ?_
  refine z_lco (x := 3689348814741910323) rfl rfl ?_
  refine z_lbi (v := (zlsh 2 (x - ((zlsh 2 x (nI 1)) &&& 6148914691236517205)) (nI 2)) &&& 3689348814741910323) rfl rfl ?_
  refine z_lbi (v := ((x - ((zlsh 2 x (nI 1)) &&& 6148914691236517205)) &&& 3689348814741910323) + ((zlsh 2 (x - ((zlsh 2 x (nI 1)) &&& 6148914691236517205)) (nI 2)) &&& 3689348814741910323)) rfl rfl ?_
  refine z_lst (ls' := [some (zJ (((x - ((zlsh 2 x (nI 1)) &&& 6148914691236517205)) &&& 3689348814741910323) + ((zlsh 2 (x - ((zlsh 2 x (nI 1)) &&& 6148914691236517205)) (nI 2)) &&& 3689348814741910323))), none]) rfl (Nat.le_of_ble_eq_true rfl) rfl ?_
  refine z_lld rfl rfl ?_
  refine z_lld rfl rfl ?_
  refine z_ico (x := (nI 4)) rfl rfl ?_
  refine z_lsh (v := zlsh 2 (((x - ((zlsh 2 x (nI 1)) &&& 6148914691236517205)) &&& 3689348814741910323) + ((zlsh 2 (x - ((zlsh 2 x (nI 1)) &&& 6148914691236517205)) (nI 2)) &&& 3689348814741910323)) (nI 4)) rfl rfl ?_
  refine z_lbi (v := (((x - ((zlsh 2 x (nI 1)) &&& 6148914691236517205)) &&& 3689348814741910323) + ((zlsh 2 (x - ((zlsh 2 x (nI 1)) &&& 6148914691236517205)) (nI 2)) &&& 3689348814741910323)) + (zlsh 2 (((x - ((zlsh 2 x (nI 1)) &&& 6148914691236517205)) &&& 3689348814741910323) + ((zlsh 2 (x - ((zlsh 2 x (nI 1)) &&& 6148914691236517205)) (nI 2)) &&& 3689348814741910323)) (nI 4))) rfl rfl ?_
  refine z_lco (x := 1085102592571150095) rfl rfl ?_
  refine z_lbi (v := ((((x - ((zlsh 2 x (nI 1)) &&& 6148914691236517205)) &&& 3689348814741910323) + ((zlsh 2 (x - ((zlsh 2 x (nI 1)) &&& 6148914691236517205)) (nI 2)) &&& 3689348814741910323)) + (zlsh 2 (((x - ((zlsh 2 x (nI 1)) &&& 6148914691236517205)) &&& 3689348814741910323) + ((zlsh 2 (x - ((zlsh 2 x (nI 1)) &&& 6148914691236517205)) (nI 2)) &&& 3689348814741910323)) (nI 4))) &&& 1085102592571150095) rfl rfl ?_
  refine z_lst (ls' := [some (zJ (((((x - ((zlsh 2 x (nI 1)) &&& 6148914691236517205)) &&& 3689348814741910323) + ((zlsh 2 (x - ((zlsh 2 x (nI 1)) &&& 6148914691236517205)) (nI 2)) &&& 3689348814741910323)) + (zlsh 2 (((x - ((zlsh 2 x (nI 1)) &&& 6148914691236517205)) &&& 3689348814741910323) + ((zlsh 2 (x - ((zlsh 2 x (nI 1)) &&& 6148914691236517205)) (nI 2)) &&& 3689348814741910323)) (nI 4))) &&& 1085102592571150095)), none]) rfl (Nat.le_of_ble_eq_true rfl) rfl ?_
  refine z_lld rfl rfl ?_
  refine z_lld rfl rfl ?_
  refine z_ico (x := (nI 8)) rfl rfl ?_
  refine z_lsh (v := zlsh 2 (((((x - ((zlsh 2 x (nI 1)) &&& 6148914691236517205)) &&& 3689348814741910323) + ((zlsh 2 (x - ((zlsh 2 x (nI 1)) &&& 6148914691236517205)) (nI 2)) &&& 3689348814741910323)) + (zlsh 2 (((x - ((zlsh 2 x (nI 1)) &&& 6148914691236517205)) &&& 3689348814741910323) + ((zlsh 2 (x - ((zlsh 2 x (nI 1)) &&& 6148914691236517205)) (nI 2)) &&& 3689348814741910323)) (nI 4))) &&& 1085102592571150095) (nI 8)) rfl rfl ?_
  refine z_lbi (v := (((((x - ((zlsh 2 x (nI 1)) &&& 6148914691236517205)) &&& 3689348814741910323) + ((zlsh 2 (x - ((zlsh 2 x (nI 1)) &&& 6148914691236517205)) (nI 2)) &&& 3689348814741910323)) + (zlsh 2 (((x - ((zlsh 2 x (nI 1)) &&& 6148914691236517205)) &&& 3689348814741910323) + ((zlsh 2 (x - ((zlsh 2 x (nI 1)) &&& 6148914691236517205)) (nI 2)) &&& 3689348814741910323)) (nI 4))) &&& 1085102592571150095) + (zlsh 2 (((((x - ((zlsh 2 x (nI 1)) &&& 6148914691236517205)) &&& 3689348814741910323) + ((zlsh 2 (x - ((zlsh 2 x (nI 1)) &&& 6148914691236517205)) (nI 2)) &&& 3689348814741910323)) + (zlsh 2 (((x - ((zlsh 2 x (nI 1)) &&& 6148914691236517205)) &&& 3689348814741910323) + ((zlsh 2 (x - ((zlsh 2 x (nI 1)) &&& 6148914691236517205)) (nI 2)) &&& 3689348814741910323)) (nI 4))) &&& 1085102592571150095) (nI 8))) rfl rfl ?_
  refine z_lst (ls' := [some (zJ ((((((x - ((zlsh 2 x (nI 1)) &&& 6148914691236517205)) &&& 3689348814741910323) + ((zlsh 2 (x - ((zlsh 2 x (nI 1)) &&& 6148914691236517205)) (nI 2)) &&& 3689348814741910323)) + (zlsh 2 (((x - ((zlsh 2 x (nI 1)) &&& 6148914691236517205)) &&& 3689348814741910323) + ((zlsh 2 (x - ((zlsh 2 x (nI 1)) &&& 6148914691236517205)) (nI 2)) &&& 3689348814741910323)) (nI 4))) &&& 1085102592571150095) + (zlsh 2 (((((x - ((zlsh 2 x (nI 1)) &&& 6148914691236517205)) &&& 3689348814741910323) + ((zlsh 2 (x - ((zlsh 2 x (nI 1)) &&& 6148914691236517205)) (nI 2)) &&& 3689348814741910323)) + (zlsh 2 (((x - ((zlsh 2 x (nI 1)) &&& 6148914691236517205)) &&& 3689348814741910323) + ((zlsh 2 (x - ((zlsh 2 x (nI 1)) &&& 6148914691236517205)) (nI 2)) &&& 3689348814741910323)) (nI 4))) &&& 1085102592571150095) (nI 8)))), none]) rfl (Nat.le_of_ble_eq_true rfl) rfl ?_
  refine z_lld rfl rfl ?_
  refine z_lld rfl rfl ?_
  refine z_ico (x := (nI 16)) rfl rfl ?_
  refine z_lsh (v := zlsh 2 ((((((x - ((zlsh 2 x (nI 1)) &&& 6148914691236517205)) &&& 3689348814741910323) + ((zlsh 2 (x - ((zlsh 2 x (nI 1)) &&& 6148914691236517205)) (nI 2)) &&& 3689348814741910323)) + (zlsh 2 (((x - ((zlsh 2 x (nI 1)) &&& 6148914691236517205)) &&& 3689348814741910323) + ((zlsh 2 (x - ((zlsh 2 x (nI 1)) &&& 6148914691236517205)) (nI 2)) &&& 3689348814741910323)) (nI 4))) &&& 1085102592571150095) + (zlsh 2 (((((x - ((zlsh 2 x (nI 1)) &&& 6148914691236517205)) &&& 3689348814741910323) + ((zlsh 2 (x - ((zlsh 2 x (nI 1)) &&& 6148914691236517205)) (nI 2)) &&& 3689348814741910323)) + (zlsh 2 (((x - ((zlsh 2 x (nI 1)) &&& 6148914691236517205)) &&& 3689348814741910323) + ((zlsh 2 (x - ((zlsh 2 x (nI 1)) &&& 6148914691236517205)) (nI 2)) &&& 3689348814741910323)) (nI 4))) &&& 1085102592571150095) (nI 8))) (nI 16)) rfl rfl ?_
  refine z_lbi (v := ((((((x - ((zlsh 2 x (nI 1)) &&& 6148914691236517205)) &&& 3689348814741910323) + ((zlsh 2 (x - ((zlsh 2 x (nI 1)) &&& 6148914691236517205)) (nI 2)) &&& 3689348814741910323)) + (zlsh 2 (((x - ((zlsh 2 x (nI 1)) &&& 6148914691236517205)) &&& 3689348814741910323) + ((zlsh 2 (x - ((zlsh 2 x (nI 1)) &&& 6148914691236517205)) (nI 2)) &&& 3689348814741910323)) (nI 4))) &&& 1085102592571150095) + (zlsh 2 (((((x - ((zlsh 2 x (nI 1)) &&& 6148914691236517205)) &&& 3689348814741910323) + ((zlsh 2 (x - ((zlsh 2 x (nI 1)) &&& 6148914691236517205)) (nI 2)) &&& 3689348814741910323)) + (zlsh 2 (((x - ((zlsh 2 x (nI 1)) &&& 6148914691236517205)) &&& 3689348814741910323) + ((zlsh 2 (x - ((zlsh 2 x (nI 1)) &&& 6148914691236517205)) (nI 2)) &&& 3689348814741910323)) (nI 4))) &&& 1085102592571150095) (nI 8))) + (zlsh 2 ((((((x - ((zlsh 2 x (nI 1)) &&& 6148914691236517205)) &&& 3689348814741910323) + ((zlsh 2 (x - ((zlsh 2 x (nI 1)) &&& 6148914691236517205)) (nI 2)) &&& 3689348814741910323)) + (zlsh 2 (((x - ((zlsh 2 x (nI 1)) &&& 6148914691236517205)) &&& 3689348814741910323) + ((zlsh 2 (x - ((zlsh 2 x (nI 1)) &&& 6148914691236517205)) (nI 2)) &&& 3689348814741910323)) (nI 4))) &&& 1085102592571150095) + (zlsh 2 (((((x - ((zlsh 2 x (nI 1)) &&& 6148914691236517205)) &&& 3689348814741910323) + ((zlsh 2 (x - ((zlsh 2 x (nI 1)) &&& 6148914691236517205)) (nI 2)) &&& 3689348814741910323)) + (zlsh 2 (((x - ((zlsh 2 x (nI 1)) &&& 6148914691236517205)) &&& 3689348814741910323) + ((zlsh 2 (x - ((zlsh 2 x (nI 1)) &&& 6148914691236517205)) (nI 2)) &&& 3689348814741910323)) (nI 4))) &&& 1085102592571150095) (nI 8))) (nI 16))) rfl rfl ?_
  refine z_lst (ls' := [some (zJ (((((((x - ((zlsh 2 x (nI 1)) &&& 6148914691236517205)) &&& 3689348814741910323) + ((zlsh 2 (x - ((zlsh 2 x (nI 1)) &&& 6148914691236517205)) (nI 2)) &&& 3689348814741910323)) + (zlsh 2 (((x - ((zlsh 2 x (nI 1)) &&& 6148914691236517205)) &&& 3689348814741910323) + ((zlsh 2 (x - ((zlsh 2 x (nI 1)) &&& 6148914691236517205)) (nI 2)) &&& 3689348814741910323)) (nI 4))) &&& 1085102592571150095) + (zlsh 2 (((((x - ((zlsh 2 x (nI 1)) &&& 6148914691236517205)) &&& 3689348814741910323) + ((zlsh 2 (x - ((zlsh 2 x (nI 1)) &&& 6148914691236517205)) (nI 2)) &&& 3689348814741910323)) + (zlsh 2 (((x - ((zlsh 2 x (nI 1)) &&& 6148914691236517205)) &&& 3689348814741910323) + ((zlsh 2 (x - ((zlsh 2 x (nI 1)) &&& 6148914691236517205)) (nI 2)) &&& 3689348814741910323)) (nI 4))) &&& 1085102592571150095) (nI 8))) + (zlsh 2 ((((((x - ((zlsh 2 x (nI 1)) &&& 6148914691236517205)) &&& 3689348814741910323) + ((zlsh 2 (x - ((zlsh 2 x (nI 1)) &&& 6148914691236517205)) (nI 2)) &&& 3689348814741910323)) + (zlsh 2 (((x - ((zlsh 2 x (nI 1)) &&& 6148914691236517205)) &&& 3689348814741910323) + ((zlsh 2 (x - ((zlsh 2 x (nI 1)) &&& 6148914691236517205)) (nI 2)) &&& 3689348814741910323)) (nI 4))) &&& 1085102592571150095) + (zlsh 2 (((((x - ((zlsh 2 x (nI 1)) &&& 6148914691236517205)) &&& 3689348814741910323) + ((zlsh 2 (x - ((zlsh 2 x (nI 1)) &&& 6148914691236517205)) (nI 2)) &&& 3689348814741910323)) + (zlsh 2 (((x - ((zlsh 2 x (nI 1)) &&& 6148914691236517205)) &&& 3689348814741910323) + ((zlsh 2 (x - ((zlsh 2 x (nI 1)) &&& 6148914691236517205)) (nI 2)) &&& 3689348814741910323)) (nI 4))) &&& 1085102592571150095) (nI 8))) (nI 16)))), none]) rfl (Nat.le_of_ble_eq_true rfl) rfl ?_
  refine z_lld rfl rfl ?_
  refine z_lld rfl rfl ?_
  refine z_ico (x := (nI 32)) rfl rfl ?_
  refine z_lsh (v := zlsh 2 (((((((x - ((zlsh 2 x (nI 1)) &&& 6148914691236517205)) &&& 3689348814741910323) + ((zlsh 2 (x - ((zlsh 2 x (nI 1)) &&& 6148914691236517205)) (nI 2)) &&& 3689348814741910323)) + (zlsh 2 (((x - ((zlsh 2 x (nI 1)) &&& 6148914691236517205)) &&& 3689348814741910323) + ((zlsh 2 (x - ((zlsh 2 x (nI 1)) &&& 6148914691236517205)) (nI 2)) &&& 3689348814741910323)) (nI 4))) &&& 1085102592571150095) + (zlsh 2 (((((x - ((zlsh 2 x (nI 1)) &&& 6148914691236517205)) &&& 3689348814741910323) + ((zlsh 2 (x - ((zlsh 2 x (nI 1)) &&& 6148914691236517205)) (nI 2)) &&& 3689348814741910323)) + (zlsh 2 (((x - ((zlsh 2 x (nI 1)) &&& 6148914691236517205)) &&& 3689348814741910323) + ((zlsh 2 (x - ((zlsh 2 x (nI 1)) &&& 6148914691236517205)) (nI 2)) &&& 3689348814741910323)) (nI 4))) &&& 1085102592571150095) (nI 8))) + (zlsh 2 ((((((x - ((zlsh 2 x (nI 1)) &&& 6148914691236517205)) &&& 3689348814741910323) + ((zlsh 2 (x - ((zlsh 2 x (nI 1)) &&& 6148914691236517205)) (nI 2)) &&& 3689348814741910323)) + (zlsh 2 (((x - ((zlsh 2 x (nI 1)) &&& 6148914691236517205)) &&& 3689348814741910323) + ((zlsh 2 (x - ((zlsh 2 x (nI 1)) &&& 6148914691236517205)) (nI 2)) &&& 3689348814741910323)) (nI 4))) &&& 1085102592571150095) + (zlsh 2 (((((x - ((zlsh 2 x (nI 1)) &&& 6148914691236517205)) &&& 3689348814741910323) + ((zlsh 2 (x - ((zlsh 2 x (nI 1)) &&& 6148914691236517205)) (nI 2)) &&& 3689348814741910323)) + (zlsh 2 (((x - ((zlsh 2 x (nI 1)) &&& 6148914691236517205)) &&& 3689348814741910323) + ((zlsh 2 (x - ((zlsh 2 x (nI 1)) &&& 6148914691236517205)) (nI 2)) &&& 3689348814741910323)) (nI 4))) &&& 1085102592571150095) (nI 8))) (nI 16))) (nI 32)) rfl rfl ?_
  refine z_lbi (v := (((((((x - ((zlsh 2 x (nI 1)) &&& 6148914691236517205)) &&& 3689348814741910323) + ((zlsh 2 (x - ((zlsh 2 x (nI 1)) &&& 6148914691236517205)) (nI 2)) &&& 3689348814741910323)) + (zlsh 2 (((x - ((zlsh 2 x (nI 1)) &&& 6148914691236517205)) &&& 3689348814741910323) + ((zlsh 2 (x - ((zlsh 2 x (nI 1)) &&& 6148914691236517205)) (nI 2)) &&& 3689348814741910323)) (nI 4))) &&& 1085102592571150095) + (zlsh 2 (((((x - ((zlsh 2 x (nI 1)) &&& 6148914691236517205)) &&& 3689348814741910323) + ((zlsh 2 (x - ((zlsh 2 x (nI 1)) &&& 6148914691236517205)) (nI 2)) &&& 3689348814741910323)) + (zlsh 2 (((x - ((zlsh 2 x (nI 1)) &&& 6148914691236517205)) &&& 3689348814741910323) + ((zlsh 2 (x - ((zlsh 2 x (nI 1)) &&& 6148914691236517205)) (nI 2)) &&& 3689348814741910323)) (nI 4))) &&& 1085102592571150095) (nI 8))) + (zlsh 2 ((((((x - ((zlsh 2 x (nI 1)) &&& 6148914691236517205)) &&& 3689348814741910323) + ((zlsh 2 (x - ((zlsh 2 x (nI 1)) &&& 6148914691236517205)) (nI 2)) &&& 3689348814741910323)) + (zlsh 2 (((x - ((zlsh 2 x (nI 1)) &&& 6148914691236517205)) &&& 3689348814741910323) + ((zlsh 2 (x - ((zlsh 2 x (nI 1)) &&& 6148914691236517205)) (nI 2)) &&& 3689348814741910323)) (nI 4))) &&& 1085102592571150095) + (zlsh 2 (((((x - ((zlsh 2 x (nI 1)) &&& 6148914691236517205)) &&& 3689348814741910323) + ((zlsh 2 (x - ((zlsh 2 x (nI 1)) &&& 6148914691236517205)) (nI 2)) &&& 3689348814741910323)) + (zlsh 2 (((x - ((zlsh 2 x (nI 1)) &&& 6148914691236517205)) &&& 3689348814741910323) + ((zlsh 2 (x - ((zlsh 2 x (nI 1)) &&& 6148914691236517205)) (nI 2)) &&& 3689348814741910323)) (nI 4))) &&& 1085102592571150095) (nI 8))) (nI 16))) + (zlsh 2 (((((((x - ((zlsh 2 x (nI 1)) &&& 6148914691236517205)) &&& 3689348814741910323) + ((zlsh 2 (x - ((zlsh 2 x (nI 1)) &&& 6148914691236517205)) (nI 2)) &&& 3689348814741910323)) + (zlsh 2 (((x - ((zlsh 2 x (nI 1)) &&& 6148914691236517205)) &&& 3689348814741910323) + ((zlsh 2 (x - ((zlsh 2 x (nI 1)) &&& 6148914691236517205)) (nI 2)) &&& 3689348814741910323)) (nI 4))) &&& 1085102592571150095) + (zlsh 2 (((((x - ((zlsh 2 x (nI 1)) &&& 6148914691236517205)) &&& 3689348814741910323) + ((zlsh 2 (x - ((zlsh 2 x (nI 1)) &&& 6148914691236517205)) (nI 2)) &&& 3689348814741910323)) + (zlsh 2 (((x - ((zlsh 2 x (nI 1)) &&& 6148914691236517205)) &&& 3689348814741910323) + ((zlsh 2 (x - ((zlsh 2 x (nI 1)) &&& 6148914691236517205)) (nI 2)) &&& 3689348814741910323)) (nI 4))) &&& 1085102592571150095) (nI 8))) + (zlsh 2 ((((((x - ((zlsh 2 x (nI 1)) &&& 6148914691236517205)) &&& 3689348814741910323) + ((zlsh 2 (x - ((zlsh 2 x (nI 1)) &&& 6148914691236517205)) (nI 2)) &&& 3689348814741910323)) + (zlsh 2 (((x - ((zlsh 2 x (nI 1)) &&& 6148914691236517205)) &&& 3689348814741910323) + ((zlsh 2 (x - ((zlsh 2 x (nI 1)) &&& 6148914691236517205)) (nI 2)) &&& 3689348814741910323)) (nI 4))) &&& 1085102592571150095) + (zlsh 2 (((((x - ((zlsh 2 x (nI 1)) &&& 6148914691236517205)) &&& 3689348814741910323) + ((zlsh 2 (x - ((zlsh 2 x (nI 1)) &&& 6148914691236517205)) (nI 2)) &&& 3689348814741910323)) + (zlsh 2 (((x - ((zlsh 2 x (nI 1)) &&& 6148914691236517205)) &&& 3689348814741910323) + ((zlsh 2 (x - ((zlsh 2 x (nI 1)) &&& 6148914691236517205)) (nI 2)) &&& 3689348814741910323)) (nI 4))) &&& 1085102592571150095) (nI 8))) (nI 16))) (nI 32))) rfl rfl ?_
  refine z_lst (ls' := [some (zJ ((((((((x - ((zlsh 2 x (nI 1)) &&& 6148914691236517205)) &&& 3689348814741910323) + ((zlsh 2 (x - ((zlsh 2 x (nI 1)) &&& 6148914691236517205)) (nI 2)) &&& 3689348814741910323)) + (zlsh 2 (((x - ((zlsh 2 x (nI 1)) &&& 6148914691236517205)) &&& 3689348814741910323) + ((zlsh 2 (x - ((zlsh 2 x (nI 1)) &&& 6148914691236517205)) (nI 2)) &&& 3689348814741910323)) (nI 4))) &&& 1085102592571150095) + (zlsh 2 (((((x - ((zlsh 2 x (nI 1)) &&& 6148914691236517205)) &&& 3689348814741910323) + ((zlsh 2 (x - ((zlsh 2 x (nI 1)) &&& 6148914691236517205)) (nI 2)) &&& 3689348814741910323)) + (zlsh 2 (((x - ((zlsh 2 x (nI 1)) &&& 6148914691236517205)) &&& 3689348814741910323) + ((zlsh 2 (x - ((zlsh 2 x (nI 1)) &&& 6148914691236517205)) (nI 2)) &&& 3689348814741910323)) (nI 4))) &&& 1085102592571150095) (nI 8))) + (zlsh 2 ((((((x - ((zlsh 2 x (nI 1)) &&& 6148914691236517205)) &&& 3689348814741910323) + ((zlsh 2 (x - ((zlsh 2 x (nI 1)) &&& 6148914691236517205)) (nI 2)) &&& 3689348814741910323)) + (zlsh 2 (((x - ((zlsh 2 x (nI 1)) &&& 6148914691236517205)) &&& 3689348814741910323) + ((zlsh 2 (x - ((zlsh 2 x (nI 1)) &&& 6148914691236517205)) (nI 2)) &&& 3689348814741910323)) (nI 4))) &&& 1085102592571150095) + (zlsh 2 (((((x - ((zlsh 2 x (nI 1)) &&& 6148914691236517205)) &&& 3689348814741910323) + ((zlsh 2 (x - ((zlsh 2 x (nI 1)) &&& 6148914691236517205)) (nI 2)) &&& 3689348814741910323)) + (zlsh 2 (((x - ((zlsh 2 x (nI 1)) &&& 6148914691236517205)) &&& 3689348814741910323) + ((zlsh 2 (x - ((zlsh 2 x (nI 1)) &&& 6148914691236517205)) (nI 2)) &&& 3689348814741910323)) (nI 4))) &&& 1085102592571150095) (nI 8))) (nI 16))) + (zlsh 2 (((((((x - ((zlsh 2 x (nI 1)) &&& 6148914691236517205)) &&& 3689348814741910323) + ((zlsh 2 (x - ((zlsh 2 x (nI 1)) &&& 6148914691236517205)) (nI 2)) &&& 3689348814741910323)) + (zlsh 2 (((x - ((zlsh 2 x (nI 1)) &&& 6148914691236517205)) &&& 3689348814741910323) + ((zlsh 2 (x - ((zlsh 2 x (nI 1)) &&& 6148914691236517205)) (nI 2)) &&& 3689348814741910323)) (nI 4))) &&& 1085102592571150095) + (zlsh 2 (((((x - ((zlsh 2 x (nI 1)) &&& 6148914691236517205)) &&& 3689348814741910323) + ((zlsh 2 (x - ((zlsh 2 x (nI 1)) &&& 6148914691236517205)) (nI 2)) &&& 3689348814741910323)) + (zlsh 2 (((x - ((zlsh 2 x (nI 1)) &&& 6148914691236517205)) &&& 3689348814741910323) + ((zlsh 2 (x - ((zlsh 2 x (nI 1)) &&& 6148914691236517205)) (nI 2)) &&& 3689348814741910323)) (nI 4))) &&& 1085102592571150095) (nI 8))) + (zlsh 2 ((((((x - ((zlsh 2 x (nI 1)) &&& 6148914691236517205)) &&& 3689348814741910323) + ((zlsh 2 (x - ((zlsh 2 x (nI 1)) &&& 6148914691236517205)) (nI 2)) &&& 3689348814741910323)) + (zlsh 2 (((x - ((zlsh 2 x (nI 1)) &&& 6148914691236517205)) &&& 3689348814741910323) + ((zlsh 2 (x - ((zlsh 2 x (nI 1)) &&& 6148914691236517205)) (nI 2)) &&& 3689348814741910323)) (nI 4))) &&& 1085102592571150095) + (zlsh 2 (((((x - ((zlsh 2 x (nI 1)) &&& 6148914691236517205)) &&& 3689348814741910323) + ((zlsh 2 (x - ((zlsh 2 x (nI 1)) &&& 6148914691236517205)) (nI 2)) &&& 3689348814741910323)) + (zlsh 2 (((x - ((zlsh 2 x (nI 1)) &&& 6148914691236517205)) &&& 3689348814741910323) + ((zlsh 2 (x - ((zlsh 2 x (nI 1)) &&& 6148914691236517205)) (nI 2)) &&& 3689348814741910323)) (nI 4))) &&& 1085102592571150095) (nI 8))) (nI 16))) (nI 32)))), none]) rfl (Nat.le_of_ble_eq_true rfl) rfl ?_
  refine z_lld rfl rfl ?_
  refine z_l2i (v := Int64.toInt32 ((((((((x - ((zlsh 2 x (nI 1)) &&& 6148914691236517205)) &&& 3689348814741910323) + ((zlsh 2 (x - ((zlsh 2 x (nI 1)) &&& 6148914691236517205)) (nI 2)) &&& 3689348814741910323)) + (zlsh 2 (((x - ((zlsh 2 x (nI 1)) &&& 6148914691236517205)) &&& 3689348814741910323) + ((zlsh 2 (x - ((zlsh 2 x (nI 1)) &&& 6148914691236517205)) (nI 2)) &&& 3689348814741910323)) (nI 4))) &&& 1085102592571150095) + (zlsh 2 (((((x - ((zlsh 2 x (nI 1)) &&& 6148914691236517205)) &&& 3689348814741910323) + ((zlsh 2 (x - ((zlsh 2 x (nI 1)) &&& 6148914691236517205)) (nI 2)) &&& 3689348814741910323)) + (zlsh 2 (((x - ((zlsh 2 x (nI 1)) &&& 6148914691236517205)) &&& 3689348814741910323) + ((zlsh 2 (x - ((zlsh 2 x (nI 1)) &&& 6148914691236517205)) (nI 2)) &&& 3689348814741910323)) (nI 4))) &&& 1085102592571150095) (nI 8))) + (zlsh 2 ((((((x - ((zlsh 2 x (nI 1)) &&& 6148914691236517205)) &&& 3689348814741910323) + ((zlsh 2 (x - ((zlsh 2 x (nI 1)) &&& 6148914691236517205)) (nI 2)) &&& 3689348814741910323)) + (zlsh 2 (((x - ((zlsh 2 x (nI 1)) &&& 6148914691236517205)) &&& 3689348814741910323) + ((zlsh 2 (x - ((zlsh 2 x (nI 1)) &&& 6148914691236517205)) (nI 2)) &&& 3689348814741910323)) (nI 4))) &&& 1085102592571150095) + (zlsh 2 (((((x - ((zlsh 2 x (nI 1)) &&& 6148914691236517205)) &&& 3689348814741910323) + ((zlsh 2 (x - ((zlsh 2 x (nI 1)) &&& 6148914691236517205)) (nI 2)) &&& 3689348814741910323)) + (zlsh 2 (((x - ((zlsh 2 x (nI 1)) &&& 6148914691236517205)) &&& 3689348814741910323) + ((zlsh 2 (x - ((zlsh 2 x (nI 1)) &&& 6148914691236517205)) (nI 2)) &&& 3689348814741910323)) (nI 4))) &&& 1085102592571150095) (nI 8))) (nI 16))) + (zlsh 2 (((((((x - ((zlsh 2 x (nI 1)) &&& 6148914691236517205)) &&& 3689348814741910323) + ((zlsh 2 (x - ((zlsh 2 x (nI 1)) &&& 6148914691236517205)) (nI 2)) &&& 3689348814741910323)) + (zlsh 2 (((x - ((zlsh 2 x (nI 1)) &&& 6148914691236517205)) &&& 3689348814741910323) + ((zlsh 2 (x - ((zlsh 2 x (nI 1)) &&& 6148914691236517205)) (nI 2)) &&& 3689348814741910323)) (nI 4))) &&& 1085102592571150095) + (zlsh 2 (((((x - ((zlsh 2 x (nI 1)) &&& 6148914691236517205)) &&& 3689348814741910323) + ((zlsh 2 (x - ((zlsh 2 x (nI 1)) &&& 6148914691236517205)) (nI 2)) &&& 3689348814741910323)) + (zlsh 2 (((x - ((zlsh 2 x (nI 1)) &&& 6148914691236517205)) &&& 3689348814741910323) + ((zlsh 2 (x - ((zlsh 2 x (nI 1)) &&& 6148914691236517205)) (nI 2)) &&& 3689348814741910323)) (nI 4))) &&& 1085102592571150095) (nI 8))) + (zlsh 2 ((((((x - ((zlsh 2 x (nI 1)) &&& 6148914691236517205)) &&& 3689348814741910323) + ((zlsh 2 (x - ((zlsh 2 x (nI 1)) &&& 6148914691236517205)) (nI 2)) &&& 3689348814741910323)) + (zlsh 2 (((x - ((zlsh 2 x (nI 1)) &&& 6148914691236517205)) &&& 3689348814741910323) + ((zlsh 2 (x - ((zlsh 2 x (nI 1)) &&& 6148914691236517205)) (nI 2)) &&& 3689348814741910323)) (nI 4))) &&& 1085102592571150095) + (zlsh 2 (((((x - ((zlsh 2 x (nI 1)) &&& 6148914691236517205)) &&& 3689348814741910323) + ((zlsh 2 (x - ((zlsh 2 x (nI 1)) &&& 6148914691236517205)) (nI 2)) &&& 3689348814741910323)) + (zlsh 2 (((x - ((zlsh 2 x (nI 1)) &&& 6148914691236517205)) &&& 3689348814741910323) + ((zlsh 2 (x - ((zlsh 2 x (nI 1)) &&& 6148914691236517205)) (nI 2)) &&& 3689348814741910323)) (nI 4))) &&& 1085102592571150095) (nI 8))) (nI 16))) (nI 32)))) rfl rfl ?_
  refine z_ico (x := (nI 127)) rfl rfl ?_
  refine z_ibi (v := ((Int64.toInt32 ((((((((x - ((zlsh 2 x (nI 1)) &&& 6148914691236517205)) &&& 3689348814741910323) + ((zlsh 2 (x - ((zlsh 2 x (nI 1)) &&& 6148914691236517205)) (nI 2)) &&& 3689348814741910323)) + (zlsh 2 (((x - ((zlsh 2 x (nI 1)) &&& 6148914691236517205)) &&& 3689348814741910323) + ((zlsh 2 (x - ((zlsh 2 x (nI 1)) &&& 6148914691236517205)) (nI 2)) &&& 3689348814741910323)) (nI 4))) &&& 1085102592571150095) + (zlsh 2 (((((x - ((zlsh 2 x (nI 1)) &&& 6148914691236517205)) &&& 3689348814741910323) + ((zlsh 2 (x - ((zlsh 2 x (nI 1)) &&& 6148914691236517205)) (nI 2)) &&& 3689348814741910323)) + (zlsh 2 (((x - ((zlsh 2 x (nI 1)) &&& 6148914691236517205)) &&& 3689348814741910323) + ((zlsh 2 (x - ((zlsh 2 x (nI 1)) &&& 6148914691236517205)) (nI 2)) &&& 3689348814741910323)) (nI 4))) &&& 1085102592571150095) (nI 8))) + (zlsh 2 ((((((x - ((zlsh 2 x (nI 1)) &&& 6148914691236517205)) &&& 3689348814741910323) + ((zlsh 2 (x - ((zlsh 2 x (nI 1)) &&& 6148914691236517205)) (nI 2)) &&& 3689348814741910323)) + (zlsh 2 (((x - ((zlsh 2 x (nI 1)) &&& 6148914691236517205)) &&& 3689348814741910323) + ((zlsh 2 (x - ((zlsh 2 x (nI 1)) &&& 6148914691236517205)) (nI 2)) &&& 3689348814741910323)) (nI 4))) &&& 1085102592571150095) + (zlsh 2 (((((x - ((zlsh 2 x (nI 1)) &&& 6148914691236517205)) &&& 3689348814741910323) + ((zlsh 2 (x - ((zlsh 2 x (nI 1)) &&& 6148914691236517205)) (nI 2)) &&& 3689348814741910323)) + (zlsh 2 (((x - ((zlsh 2 x (nI 1)) &&& 6148914691236517205)) &&& 3689348814741910323) + ((zlsh 2 (x - ((zlsh 2 x (nI 1)) &&& 6148914691236517205)) (nI 2)) &&& 3689348814741910323)) (nI 4))) &&& 1085102592571150095) (nI 8))) (nI 16))) + (zlsh 2 (((((((x - ((zlsh 2 x (nI 1)) &&& 6148914691236517205)) &&& 3689348814741910323) + ((zlsh 2 (x - ((zlsh 2 x (nI 1)) &&& 6148914691236517205)) (nI 2)) &&& 3689348814741910323)) + (zlsh 2 (((x - ((zlsh 2 x (nI 1)) &&& 6148914691236517205)) &&& 3689348814741910323) + ((zlsh 2 (x - ((zlsh 2 x (nI 1)) &&& 6148914691236517205)) (nI 2)) &&& 3689348814741910323)) (nI 4))) &&& 1085102592571150095) + (zlsh 2 (((((x - ((zlsh 2 x (nI 1)) &&& 6148914691236517205)) &&& 3689348814741910323) + ((zlsh 2 (x - ((zlsh 2 x (nI 1)) &&& 6148914691236517205)) (nI 2)) &&& 3689348814741910323)) + (zlsh 2 (((x - ((zlsh 2 x (nI 1)) &&& 6148914691236517205)) &&& 3689348814741910323) + ((zlsh 2 (x - ((zlsh 2 x (nI 1)) &&& 6148914691236517205)) (nI 2)) &&& 3689348814741910323)) (nI 4))) &&& 1085102592571150095) (nI 8))) + (zlsh 2 ((((((x - ((zlsh 2 x (nI 1)) &&& 6148914691236517205)) &&& 3689348814741910323) + ((zlsh 2 (x - ((zlsh 2 x (nI 1)) &&& 6148914691236517205)) (nI 2)) &&& 3689348814741910323)) + (zlsh 2 (((x - ((zlsh 2 x (nI 1)) &&& 6148914691236517205)) &&& 3689348814741910323) + ((zlsh 2 (x - ((zlsh 2 x (nI 1)) &&& 6148914691236517205)) (nI 2)) &&& 3689348814741910323)) (nI 4))) &&& 1085102592571150095) + (zlsh 2 (((((x - ((zlsh 2 x (nI 1)) &&& 6148914691236517205)) &&& 3689348814741910323) + ((zlsh 2 (x - ((zlsh 2 x (nI 1)) &&& 6148914691236517205)) (nI 2)) &&& 3689348814741910323)) + (zlsh 2 (((x - ((zlsh 2 x (nI 1)) &&& 6148914691236517205)) &&& 3689348814741910323) + ((zlsh 2 (x - ((zlsh 2 x (nI 1)) &&& 6148914691236517205)) (nI 2)) &&& 3689348814741910323)) (nI 4))) &&& 1085102592571150095) (nI 8))) (nI 16))) (nI 32)))) &&& (nI 127))) rfl rfl ?_
  refine z_ret rfl ⟨_, rfl⟩ ?_
  obtain ⟨D, E, F, e1, e2, e3, e4⟩ := bc_fin _ _ (bc_c _ _ (bc_b _ _ (bc_a x)))
  subst e1 e2 e3
  exact ⟨rfl, by rw [← bc_cb, ← e4]⟩
set_option maxHeartbeats 1000000 in
theorem k_X5_holds {d : Nat} {h : zH} {x : Int64} {o : Nat} (ho : o < 64) : zPure (d + 1) 44 [zJ x, zI (nI o)] h (some (zI (bI (tst x o)))) := by
  refine zCall.of (d := d) (T := tb_44) (L := [some (zJ x), none, some (zI (nI o))]) (Nat.le_of_ble_eq_true rfl) rfl rfl ?_
  refine z_lld rfl rfl ?_
  refine z_ild rfl rfl ?_
  refine z_lsh (v := zlsh 2 x (nI o)) rfl rfl ?_
  refine z_lco (x := 1) rfl rfl ?_
  refine z_lbi (v := (zlsh 2 x (nI o)) &&& 1) rfl rfl ?_
  refine z_lco (x := 0) rfl rfl ?_
  refine z_lcm (v := lg_cmp ((zlsh 2 x (nI o)) &&& 1) 0) rfl rfl ?_
  refine z_if rfl (fun h_1 => ?_) (fun h_1 => ?_)
  · replace h_1 : (lg_cmp ((zlsh 2 x (nI o)) &&& 1) 0) = 0 := h_1
    refine z_ico (x := (nI 0)) rfl rfl ?_
    refine z_ret rfl ⟨_, rfl, Or.inl rfl⟩ ?_
    exact ⟨rfl, rt_f ((hold_0 x ho).mp h_1)⟩
  · replace h_1 : ¬ ((lg_cmp ((zlsh 2 x (nI o)) &&& 1) 0) = 0) := h_1
    refine z_ico (x := (nI 1)) rfl rfl ?_
    refine z_go rfl ?_
    refine z_ret rfl ⟨_, rfl, Or.inr rfl⟩ ?_
    exact ⟨rfl, rt_t (bt_f (fun z => h_1 ((hold_0 x ho).mpr z)))⟩
set_option maxHeartbeats 1000000 in
theorem k_X5_settled {d : Nat} {h : zH} {s pg po pt pc pp : Nat} {fo : Int64} {K : Nat → Int32} {O C T : Nat → Int64} {x : Int64} {p o : Nat} (hs : h s = some (srO pg po pt pc pp fo)) (hK : h po = some (zaI 1 48 K)) (hO : h pt = some (zaJ 8 O)) (hC : h pc = some (zaJ 48 C)) (hT : h pp = some (zaJ 8 T)) (dtc : pt ≠ pc) (dtp : pt ≠ pp) (dcp : pc ≠ pp) (hp : p < 8) (ho : o < 64) : zPure (d + 1) 51 [zR (some s), zJ x, zI (nI p), zI (nI o)] h (some (zJ (stL O x p o))) := by
  refine zCall.of (d := d) (T := tb_51) (L := [some (zR (some s)), some (zJ x), none, some (zI (nI p)), some (zI (nI o))]) (Nat.le_of_ble_eq_true rfl) rfl rfl ?_
  refine z_lld rfl rfl ?_
  refine z_ald rfl rfl ?_
  refine z_get rfl hs rfl ?_
  refine z_ild rfl rfl ?_
  refine z_lald rfl hO (by omega) (by omega) ?_
  refine z_lco (x := -1) rfl rfl ?_
  refine z_lbi (v := (O p) ^^^ (-1)) rfl rfl ?_
  refine z_lbi (v := x &&& ((O p) ^^^ (-1))) rfl rfl ?_
  refine z_lco (x := 1) rfl rfl ?_
  refine z_ild rfl rfl ?_
  refine z_lsh (v := zlsh 0 1 (nI o)) rfl rfl ?_
  refine z_lbi (v := (x &&& ((O p) ^^^ (-1))) ||| (zlsh 0 1 (nI o))) rfl rfl ?_
  refine z_ret rfl ⟨_, rfl⟩ ?_
  exact ⟨rfl, rfl⟩
set_option maxHeartbeats 1000000 in
theorem kl_fillJ {d : Nat} {Q : zQ}  {p m : Nat} {f : Nat → Int64} {x : Int64} (hm : m < 1000)  : ∀ k, k ≤ m → ∀ (h : zH) (h1 : h p = some (zaJ m (upToL f x k))) (hQ : ∀ h', h' p = some (zaJ m (upToL f x m)) → (∀ y, y ≠ p → h' y = h y) → Q h' (.inl none)), zEv d tb_3 0 0 Q 6 [some (zR (some p)), some (zJ x), none, some (zI (nI k)), some (zI (nI m))] [] h 0 0 := by
  refine dn m (fun k hk ih h h1 hQ => ?_)
  refine z_ild rfl rfl ?_
  refine z_ild rfl rfl ?_
  refine z_cmpN (by omega) (by omega) rfl (fun h_1 => ?_) (fun h_1 => ?_)
  · replace h_1 : m ≤ k := h_1
    refine z_rtv rfl ?_
    have e : k = m := by omega
    subst e
    exact hQ _ h1 (fun _ _ => rfl)
  · replace h_1 := Nat.not_le.mp h_1
    refine z_ald rfl rfl ?_
    refine z_ild rfl rfl ?_
    refine z_lld rfl rfl ?_
    refine z_last rfl h1 (by omega) (by omega) ?_
    intro g_2 e_3 f_4
    refine z_inc (x' := (nI (k + 1))) (ls' := [some (zR (some p)), some (zJ x), none, some (zI (nI (k + 1))), some (zI (nI m))]) rfl rfl (nI_1 _) rfl ?_
    refine z_go rfl ?_
    exact ih (by omega) _ (e_3.trans (by rw [upToL_s])) (fun h' e f => hQ h' e (fun y hy => (f y hy).trans (f_4 y hy)))
set_option maxHeartbeats 1000000 in
theorem k_J7_fill_d0a16 {d : Nat} {h : zH} {p m : Nat} {f : Nat → Int64} {x : Int64} (hm : m < 1000) (h1 : h p = some (zaJ m f)) : zCall (d + 1) 3 [zR (some p), zJ x] h 0 0 (fun h' o => o = .inl none ∧ h' p = some (zaJ m (upToL f x m)) ∧ (∀ y, y ≠ p → h' y = h y)) := by
  refine zCall.of (d := d) (T := tb_3) (L := [some (zR (some p)), some (zJ x), none, none, none]) (Nat.le_of_ble_eq_true rfl) rfl rfl ?_
  refine z_ico (x := (nI 0)) rfl rfl ?_
  refine z_ist (ls' := [some (zR (some p)), some (zJ x), none, some (zI (nI 0)), none]) rfl (Nat.le_of_ble_eq_true rfl) rfl ?_
  refine z_ald rfl rfl ?_
  refine z_len (m := m) rfl (by rw [h1]; rfl) ?_
  refine z_ist (ls' := [some (zR (some p)), some (zJ x), none, some (zI (nI 0)), some (zI (nI m))]) rfl (Nat.le_of_ble_eq_true rfl) rfl ?_
  exact kl_fillJ hm 0 (by omega) h (by rw [upToL_0]; exact h1) (fun h' e f => ⟨rfl, e, f⟩)
