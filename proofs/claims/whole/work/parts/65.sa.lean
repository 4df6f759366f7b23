/-- is the option o in the set x -/
def tst (x : Int64) (o : Nat) : Bool := x.toBitVec.getLsbD o
theorem tst_or (x y : Int64) (o : Nat) : tst (x ||| y) o = (tst x o || tst y o) := by simp [tst]
theorem tst_and (x y : Int64) (o : Nat) : tst (x &&& y) o = (tst x o && tst y o) := by simp [tst]
theorem tst_m1 : ∀ o : Fin 64, tst (-1) o = true := by decide +kernel
theorem tst_not (x : Int64) {o : Nat} (h : o < 64) : tst (x ^^^ -1) o = !tst x o := by simp [tst, h]
theorem tst_0 (o : Nat) : tst 0 o = false := by simp [tst]
theorem tst_ext {x y : Int64} (h : ∀ o, o < 64 → tst x o = tst y o) : x = y := by
  apply Int64.toBitVec_inj.mp
  exact BitVec.eq_of_getLsbD_eq (fun i hi => h i hi)
theorem tst_one : ∀ (o j : Fin 64), tst (zlsh 0 1 (nI o)) j = decide (j.val = o.val) := by decide +kernel
theorem tst_sh {o j : Nat} (ho : o < 64) (hj : j < 64) : tst (zlsh 0 1 (nI o)) j = decide (j = o) := tst_one ⟨o, ho⟩ ⟨j, hj⟩
theorem sh_amt : ∀ o : Fin 64, ((nI o).toInt64.toUInt64 &&& Int64.toUInt64 63).toBitVec = BitVec.ofNat 64 o := by decide +kernel
theorem tst_shr (x : Int64) {o : Nat} (h : o < 64) : tst (zlsh 2 x (nI o) &&& 1) 0 = tst x o := by
  have e := sh_amt ⟨o, h⟩
  have e2 : (zlsh 2 x (nI o)).toBitVec = x.toBitVec >>> o := by
    show ((x.toUInt64 >>> ((nI o).toInt64.toUInt64 &&& Int64.toUInt64 63)).toInt64).toBitVec = _
    have : (x.toUInt64 >>> ((nI o).toInt64.toUInt64 &&& Int64.toUInt64 63)).toBitVec = x.toBitVec >>> o := by
      rw [UInt64.toBitVec_shiftRight, e]
      show x.toUInt64.toBitVec >>> (BitVec.ofNat 64 o % 64) = _
      have : (BitVec.ofNat 64 o % 64).toNat = o := by
        simp
        omega
      rw [BitVec.ushiftRight_eq', this]
      rfl
    exact this
  rw [tst_and, tst, e2]
  simp [tst]
theorem lg_0 {x y : Int64} : lg_cmp x y = 0 ↔ x = y := by
  unfold lg_cmp
  constructor
  · intro h
    split at h
    · exact absurd h (by decide +kernel)
    · split at h
      · assumption
      · exact absurd h (by decide +kernel)
  · intro h
    subst h
    rw [if_neg (fun g => by
      have g : x < x := g
      rw [Int64.lt_iff_toInt_lt] at g
      omega), if_pos rfl]
theorem hold_0 (x : Int64) {o : Nat} (h : o < 64) : (lg_cmp (zlsh 2 x (nI o) &&& 1) 0 = 0) ↔ tst x o = false := by
  have k : zlsh 2 x (nI o) &&& 1 = 0 ↔ tst x o = false := by
    constructor
    · intro e
      rw [← tst_shr x h, e]; exact tst_0 _
    · intro e
      refine tst_ext (fun j hj => ?_)
      rw [tst_0]
      by_cases z : j = 0
      · rw [z, tst_shr x h, e]
      · rw [tst_and]
        have : tst 1 j = false := by
          have : ∀ j : Fin 64, ¬ j.val = 0 → tst 1 j = false := by decide +kernel
          exact this ⟨j, hj⟩ z
        rw [this, Bool.and_false]
  rw [← k]
  exact lg_0
