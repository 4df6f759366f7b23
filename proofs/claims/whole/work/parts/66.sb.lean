def un (x : Int64) : Nat := x.toBitVec.toNat
theorem un_lt (x : Int64) : un x < 2 ^ 64 := x.toBitVec.isLt
theorem un_sub {x y : Int64} (h : un y ≤ un x) : un (x - y) = un x - un y := by
  have hx := un_lt x
  have hy := un_lt y
  unfold un at *
  rw [Int64.toBitVec_sub, BitVec.toNat_sub]
  omega
theorem un_add {x y : Int64} (h : un x + un y < 2 ^ 64) : un (x + y) = un x + un y := by
  unfold un at *
  rw [Int64.toBitVec_add, BitVec.toNat_add]
  omega
theorem un_and (x y : Int64) : un (x &&& y) = un x &&& un y := by
  unfold un
  rw [Int64.toBitVec_and, BitVec.toNat_and]
theorem un_shr (x : Int64) {o : Nat} (h : o < 64) : un (zlsh 2 x (nI o)) = un x / 2 ^ o := by
  have e := sh_amt ⟨o, h⟩
  have this : (x.toUInt64 >>> ((nI o).toInt64.toUInt64 &&& Int64.toUInt64 63)).toBitVec = x.toBitVec >>> o := by
    rw [UInt64.toBitVec_shiftRight, e]
    show x.toUInt64.toBitVec >>> (BitVec.ofNat 64 o % 64) = _
    have : (BitVec.ofNat 64 o % 64).toNat = o := by
      simp
      omega
    rw [BitVec.ushiftRight_eq', this]
    rfl
  have e2 : (zlsh 2 x (nI o)).toBitVec = x.toBitVec >>> o := this
  unfold un
  rw [e2, BitVec.toNat_ushiftRight, Nat.shiftRight_eq_div_pow]
/-- byte by byte -/
def fB (g : Nat → Nat) : Nat → Nat → Nat
  | 0, _ => 0
  | k + 1, X => g (X % 256) + 256 * fB g k (X / 256)
def mB (m : Nat) : Nat → Nat
  | 0 => 0
  | k + 1 => m + 256 * mB m k
theorem and_B {a b m M : Nat} (ha : a < 256) (hm : m < 256) : (a + 256 * b) &&& (m + 256 * M) = (a &&& m) + 256 * (b &&& M) := by
  have h1 : ((a + 256 * b) &&& (m + 256 * M)) % 2 ^ 8 = a &&& m := by
    rw [Nat.and_mod_two_pow, show (a + 256 * b) % 2 ^ 8 = a by omega, show (m + 256 * M) % 2 ^ 8 = m by omega]
  have h2 : ((a + 256 * b) &&& (m + 256 * M)) / 2 ^ 8 = b &&& M := by
    rw [Nat.and_div_two_pow, show (a + 256 * b) / 2 ^ 8 = b by omega, show (m + 256 * M) / 2 ^ 8 = M by omega]
  omega
theorem fB_id : ∀ (k X : Nat), X < 256 ^ k → fB (fun b => b) k X = X
  | 0, X, h => by
    have : X < 1 := h
    show 0 = X
    omega
  | k + 1, X, h => by
    rw [Nat.pow_succ] at h
    rw [fB, fB_id k (X / 256) (by omega)]
    omega
theorem fB_cg {f g : Nat → Nat} (h : ∀ b, b < 256 → f b = g b) : ∀ (k X : Nat), fB f k X = fB g k X
  | 0, _ => rfl
  | k + 1, X => by rw [fB, fB, h _ (by omega), fB_cg h k]
theorem fB_lt {g : Nat → Nat} (h : ∀ b, b < 256 → g b < 256) : ∀ (k X : Nat), fB g k X < 256 ^ k
  | 0, _ => Nat.one_pos
  | k + 1, X => by
    have h1 := fB_lt h k (X / 256)
    have h2 := h (X % 256) (by omega)
    rw [fB, Nat.pow_succ]
    omega
theorem fB_fB {f g : Nat → Nat} (h : ∀ b, b < 256 → g b < 256) : ∀ (k X : Nat), fB f k (fB g k X) = fB (fun b => f (g b)) k X
  | 0, _ => rfl
  | k + 1, X => by
    have h2 := h (X % 256) (by omega)
    rw [fB, show fB g (k + 1) X = g (X % 256) + 256 * fB g k (X / 256) from rfl, show (g (X % 256) + 256 * fB g k (X / 256)) % 256 = g (X % 256) by omega, show (g (X % 256) + 256 * fB g k (X / 256)) / 256 = fB g k (X / 256) by omega, fB_fB h k]
    rfl
theorem fB_sub {f g : Nat → Nat} (h : ∀ b, b < 256 → g b ≤ f b) : ∀ (k X : Nat), fB g k X ≤ fB f k X ∧ fB f k X - fB g k X = fB (fun b => f b - g b) k X
  | 0, _ => ⟨Nat.le_refl _, rfl⟩
  | k + 1, X => by
    have h1 := fB_sub h k (X / 256)
    have h2 := h (X % 256) (by omega)
    rw [fB, fB, fB, ← h1.2]
    omega
theorem fB_add {f g : Nat → Nat} : ∀ (k X : Nat), fB f k X + fB g k X = fB (fun b => f b + g b) k X
  | 0, _ => rfl
  | k + 1, X => by
    rw [fB, fB, fB, ← fB_add k]
    omega
theorem fB_and {m : Nat} (hm : m < 256) : ∀ (k X : Nat), X < 256 ^ k → X &&& mB m k = fB (fun b => b &&& m) k X
  | 0, X, h => by
    show X &&& 0 = 0
    exact Nat.and_zero _
  | k + 1, X, h => by
    rw [Nat.pow_succ] at h
    rw [fB, mB, ← fB_and hm k (X / 256) (by omega), ← and_B (by omega) hm]
    congr 1
    omega
/-- a shift, and a mask that takes away what comes from the next byte -/
theorem fB_sh {m q e : Nat} (hm : m < 256) (hq : q * e = 256) (hb : ∀ b, b < 256 → ∀ t, t < q → (b / q + e * t) < 256 ∧ (b / q + e * t) &&& m = (b / q) &&& m) (h0 : 0 < q) : ∀ (k X : Nat), X < 256 ^ k → (X / q) &&& mB m k = fB (fun b => (b / q) &&& m) k X
  | 0, X, h => by
    show _ &&& 0 = 0
    exact Nat.and_zero _
  | k + 1, X, h => by
    rw [Nat.pow_succ] at h
    have hx : X / 256 % q < q := Nat.mod_lt _ h0
    have hk := hb (X % 256) (by omega) (X / 256 % q) hx
    have e1 : X / q = (X % 256 / q + e * (X / 256 % q)) + 256 * (X / 256 / q) := by
      have a1 : X = X % 256 + q * (e * (X / 256)) := by
        rw [← Nat.mul_assoc, hq]; omega
      have a2 : X / 256 = X / 256 % q + q * (X / 256 / q) := (Nat.mod_add_div _ _).symm
      have a3 : X / q = X % 256 / q + e * (X / 256) := by
        rw [show X / q = (X % 256 + q * (e * (X / 256))) / q from congrArg (· / q) a1]
        exact Nat.add_mul_div_left _ _ h0
      rw [a3]
      have a4 : e * (X / 256) = e * (X / 256 % q) + 256 * (X / 256 / q) := by
        rw [show e * (X / 256) = e * (X / 256 % q + q * (X / 256 / q)) from congrArg (e * ·) a2, Nat.mul_add, ← Nat.mul_assoc, Nat.mul_comm e q, hq]
      omega
    rw [e1, mB, and_B hk.1 hm, hk.2, fB_sh hm hq hb h0 k (X / 256) (by omega)]
    rfl
def g1 (b : Nat) : Nat := b - ((b / 2) &&& 85)
def g2 (b : Nat) : Nat := (b &&& 51) + ((b / 4) &&& 51)
def g3 (b : Nat) : Nat := (b + b / 16) &&& 15
def gP (b : Nat) : Nat := g3 (g2 (g1 b))
theorem d1 : ∀ b : Fin 256, ((b.val / 2) &&& 85) ≤ b.val ∧ g1 b < 256 ∧ g2 (g1 b) ≤ 68 ∧ gP b ≤ 8 := by decide +kernel
theorem d2 : ∀ b : Fin 256, ∀ t : Fin 2, (b.val / 2 + 128 * t.val) < 256 ∧ (b.val / 2 + 128 * t.val) &&& 85 = (b.val / 2) &&& 85 := by decide +kernel
theorem d3 : ∀ b : Fin 256, ∀ t : Fin 4, (b.val / 4 + 64 * t.val) < 256 ∧ (b.val / 4 + 64 * t.val) &&& 51 = (b.val / 4) &&& 51 := by decide +kernel
theorem d4 : ∀ b : Fin 69, ∀ t : Fin 5, (b.val + (b.val / 16 + 16 * t.val)) < 256 ∧ (b.val + (b.val / 16 + 16 * t.val)) &&& 15 = (b.val + b.val / 16) &&& 15 := by decide +kernel
theorem d5 : ∀ b : Fin 256, g2 (g1 b) % 16 ≤ 4 := by decide +kernel
/-- the third step: what comes from the next byte is masked -/
theorem st3 : ∀ (k Z : Nat), (∀ i, i < k → Z / 256 ^ i % 256 ≤ 68 ∧ Z / 256 ^ i % 256 % 16 ≤ 4) → Z < 256 ^ k → (Z + Z / 16) &&& mB 15 k = fB g3 k Z
  | 0, Z, _, _ => by
    show _ &&& 0 = 0
    exact Nat.and_zero _
  | k + 1, Z, hz, h => by
    rw [Nat.pow_succ] at h
    have z0 := hz 0 (by omega)
    rw [Nat.pow_zero, Nat.div_one] at z0
    have ht : Z / 256 % 16 ≤ 4 := by
      cases k with
      | zero =>
        have : Z < 256 := by simpa using h
        omega
      | succ k =>
        have z1 := (hz 1 (by omega)).2
        rw [Nat.pow_one] at z1
        omega
    have hk := d4 ⟨Z % 256, by omega⟩ ⟨Z / 256 % 16, by omega⟩
    have e1 : Z + Z / 16 = (Z % 256 + (Z % 256 / 16 + 16 * (Z / 256 % 16))) + 256 * (Z / 256 + Z / 256 / 16) := by omega
    rw [e1, mB, and_B hk.1 (by omega), hk.2, st3 k (Z / 256) (fun i hi => by
      have := hz (i + 1) (by omega)
      rw [Nat.pow_succ, Nat.mul_comm, ← Nat.div_div_eq_div_mul] at this
      exact this) (by omega)]
    rfl
theorem fB_at {g : Nat → Nat} (h : ∀ b, b < 256 → g b < 256) : ∀ (k X i : Nat), i < k → fB g k X / 256 ^ i % 256 = g (X / 256 ^ i % 256)
  | 0, _, _, hi => absurd hi (Nat.not_lt_zero _)
  | k + 1, X, 0, _ => by
    have h2 := h (X % 256) (by omega)
    rw [fB, Nat.pow_zero, Nat.div_one, Nat.div_one]
    omega
  | k + 1, X, i + 1, hi => by
    have h2 := h (X % 256) (by omega)
    have e : ∀ Y, Y / 256 ^ (i + 1) = Y / 256 / 256 ^ i := fun Y => by rw [Nat.pow_succ, Nat.mul_comm, Nat.div_div_eq_div_mul]
    rw [e, e, fB, show (g (X % 256) + 256 * fB g k (X / 256)) / 256 = fB g k (X / 256) by omega]
    exact fB_at h k _ i (by omega)
def bcN (X : Nat) : Nat := gP (X % 256) + gP (X / 256 % 256) + gP (X / 256 / 256 % 256) + gP (X / 256 / 256 / 256 % 256) + gP (X / 256 / 256 / 256 / 256 % 256) + gP (X / 256 / 256 / 256 / 256 / 256 % 256) + gP (X / 256 / 256 / 256 / 256 / 256 / 256 % 256) + gP (X / 256 / 256 / 256 / 256 / 256 / 256 / 256 % 256)
theorem bc_end (X : Nat) : ∃ w0 w1 w2 w3 w4 w5 w6 w7, (w0 ≤ 8 ∧ w1 ≤ 8 ∧ w2 ≤ 8 ∧ w3 ≤ 8 ∧ w4 ≤ 8 ∧ w5 ≤ 8 ∧ w6 ≤ 8 ∧ w7 ≤ 8) ∧ fB gP 8 X = w0 + 256 * (w1 + 256 * (w2 + 256 * (w3 + 256 * (w4 + 256 * (w5 + 256 * (w6 + 256 * w7)))))) ∧ bcN X = w0 + w1 + w2 + w3 + w4 + w5 + w6 + w7 := by
  have k : ∀ b, gP (b % 256) ≤ 8 := fun b => (d1 ⟨b % 256, by omega⟩).2.2.2
  exact ⟨_, _, _, _, _, _, _, _, ⟨k _, k _, k _, k _, k _, k _, k _, k _⟩, by simp only [fB, Nat.mul_zero, Nat.add_zero], rfl⟩
theorem fB_half {g : Nat → Nat} (h : ∀ b, b < 256 → g b ≤ 127) : ∀ (k X : Nat), 2 * fB g k X < 256 ^ k
  | 0, _ => Nat.one_pos
  | k + 1, X => by
    have h1 := fB_half h k (X / 256)
    have h2 := h (X % 256) (by omega)
    rw [fB, Nat.pow_succ]
    omega
theorem m_85 : un 6148914691236517205 = mB 85 8 := by decide +kernel
theorem m_51 : un 3689348814741910323 = mB 51 8 := by decide +kernel
theorem m_15 : un 1085102592571150095 = mB 15 8 := by decide +kernel
theorem p8 : (256 : Nat) ^ 8 = 2 ^ 64 := by decide
theorem bc_a (x : Int64) : un (x - (zlsh 2 x (nI 1) &&& 6148914691236517205)) = fB g1 8 (un x) := by
  have hX : un x < 256 ^ 8 := by rw [p8]; exact un_lt x
  have e : un (zlsh 2 x (nI 1) &&& 6148914691236517205) = fB (fun b => (b / 2) &&& 85) 8 (un x) := by
    rw [un_and, un_shr x (by omega), m_85]
    exact fB_sh (by omega) (e := 128) rfl (fun b hb t ht => d2 ⟨b, hb⟩ ⟨t, ht⟩) (by omega) 8 _ hX
  have s := fB_sub (f := fun b => b) (g := fun b => (b / 2) &&& 85) (fun b hb => (d1 ⟨b, hb⟩).1) 8 (un x)
  rw [fB_id 8 _ hX] at s
  rw [un_sub (by rw [e]; exact s.1), e, s.2]
  rfl
theorem bc_b (a : Int64) (X : Nat) (ha : un a = fB g1 8 X) : un ((a &&& 3689348814741910323) + (zlsh 2 a (nI 2) &&& 3689348814741910323)) = fB (fun b => g2 (g1 b)) 8 X := by
  have l1 : ∀ b, b < 256 → g1 b < 256 := fun b hb => (d1 ⟨b, hb⟩).2.1
  have hA : un a < 256 ^ 8 := by rw [p8]; exact un_lt a
  have e1 : un (a &&& 3689348814741910323) = fB (fun b => b &&& 51) 8 (un a) := by
    rw [un_and, m_51, fB_and (by omega) 8 _ hA]
  have e2 : un (zlsh 2 a (nI 2) &&& 3689348814741910323) = fB (fun b => (b / 4) &&& 51) 8 (un a) := by
    rw [un_and, un_shr a (by omega), m_51]
    exact fB_sh (by omega) (e := 64) rfl (fun b hb t ht => d3 ⟨b, hb⟩ ⟨t, ht⟩) (by omega) 8 _ hA
  have e3 : fB (fun b => b &&& 51) 8 (un a) + fB (fun b => (b / 4) &&& 51) 8 (un a) = fB (fun b => g2 (g1 b)) 8 X := by
    rw [fB_add, ha, fB_fB l1]
    rfl
  have l2 : fB (fun b => g2 (g1 b)) 8 X < 256 ^ 8 := fB_lt (fun b hb => Nat.lt_of_le_of_lt (d1 ⟨b, hb⟩).2.2.1 (by omega)) 8 X
  rw [p8] at l2
  rw [un_add (by rw [e1, e2, e3]; exact l2), e1, e2, e3]
theorem bc_c (b : Int64) (X : Nat) (hb : un b = fB (fun b => g2 (g1 b)) 8 X) : un ((b + zlsh 2 b (nI 4)) &&& 1085102592571150095) = fB gP 8 X := by
  have k68 : ∀ c, c < 256 → g2 (g1 c) ≤ 68 := fun c hc => (d1 ⟨c, hc⟩).2.2.1
  have l := fB_half (g := fun b => g2 (g1 b)) (fun c hc => by have := k68 c hc; show g2 (g1 c) ≤ 127; omega) 8 X
  rw [p8, ← hb] at l
  have hB : un b < 256 ^ 8 := by rw [p8]; exact un_lt b
  have e0 := un_shr b (o := 4) (by omega)
  have e1 : un (b + zlsh 2 b (nI 4)) = un b + un b / 16 := by
    rw [un_add (by rw [e0]; omega), e0]
  rw [un_and, e1, m_15, st3 8 (un b) (fun i hi => ?_) hB, hb, fB_fB (fun c hc => by have := k68 c hc; show g2 (g1 c) < 256; omega)]
  · rfl
  · rw [hb, fB_at (fun c hc => by have := k68 c hc; show g2 (g1 c) < 256; omega) 8 X i hi]
    have hc : X / 256 ^ i % 256 < 256 := by omega
    exact ⟨k68 _ hc, d5 ⟨_, hc⟩⟩
theorem i32_127 (x : Int64) : x.toInt32 &&& nI 127 = nI (un x % 128) := by
  apply Int32.toBitVec_inj.mp
  apply BitVec.eq_of_toNat_eq
  have e : (x.toInt32 &&& nI 127).toBitVec = x.toInt32.toBitVec &&& (nI 127).toBitVec := Int32.toBitVec_and _ _
  have e1 : x.toInt32.toBitVec = x.toBitVec.setWidth 32 := by
    show (x.toBitVec.signExtend 32) = _
    exact BitVec.signExtend_eq_setWidth_of_le _ (by omega)
  have e2 : (nI 127).toBitVec = 127#32 := by decide +kernel
  have e3 : (nI (un x % 128)).toBitVec = BitVec.ofNat 32 (un x % 128) := rfl
  rw [e, e1, e2, e3, BitVec.toNat_and, BitVec.toNat_setWidth, BitVec.toNat_ofNat, BitVec.toNat_ofNat]
  show (un x % 2 ^ 32) &&& (127 % 2 ^ 32) = un x % 128 % 2 ^ 32
  rw [show 127 % 2 ^ 32 = 2 ^ 7 - 1 from rfl, Nat.and_two_pow_sub_one_eq_mod]
  omega
theorem dv1 {w R : Nat} (h : w ≤ 8) : (w + 256 * R) / 256 = R := by omega
theorem dv2 {x y R : Nat} (h : x ≤ 16) (h' : y ≤ 16) : (x + 256 * y + 65536 * R) / 65536 = R := by omega
theorem dv4 {x y z u R : Nat} (h : x ≤ 32) (h1 : y ≤ 32) (h2 : z ≤ 32) (h3 : u ≤ 32) : (x + 256 * y + 65536 * z + 16777216 * u + 4294967296 * R) / 4294967296 = R := by omega
theorem dv_fin {w0 w1 w2 w3 w4 w5 w6 w7 R1 R2 R3 R4 R5 R6 W : Nat} (h0 : w0 ≤ 8) (h1 : w1 ≤ 8) (h2 : w2 ≤ 8) (h3 : w3 ≤ 8) (h4 : w4 ≤ 8) (h5 : w5 ≤ 8) (h6 : w6 ≤ 8) (h7 : w7 ≤ 8) (e6 : R6 = w6 + 256 * w7) (e5 : R5 = w5 + 256 * R6) (e4 : R4 = w4 + 256 * R5) (e3 : R3 = w3 + 256 * R4) (e2 : R2 = w2 + 256 * R3) (e1 : R1 = w1 + 256 * R2) (e0 : W = w0 + 256 * R1) :
    W / 256 = R1 ∧ (W + R1) / 65536 = R2 + R3 ∧ (W + R1 + (R2 + R3)) / 4294967296 = R4 + R5 + R6 + w7 ∧ (W + R1 + (R2 + R3) + (R4 + R5 + R6 + w7)) % 128 = w0 + w1 + w2 + w3 + w4 + w5 + w6 + w7 := by
  refine ⟨by rw [e0]; exact dv1 h0, ?_, ?_, ?_⟩
  · have : W + R1 = (w0 + w1) + 256 * (w1 + w2) + 65536 * (R2 + R3) := by
      clear e6 e5 e4 e3
      omega
    rw [this]
    exact dv2 (by omega) (by omega)
  · have a : W + R1 + (R2 + R3) = (w0 + w1 + w2 + w3) + 256 * (w1 + w2 + w3 + w4) + 65536 * (w2 + w3 + w4 + w5) + 16777216 * (w3 + w4 + w5 + w6) + 4294967296 * (R4 + R5 + R6 + w7) := by omega
    rw [a]
    exact dv4 (by omega) (by omega) (by omega) (by omega)
  · have a : W + R1 + (R2 + R3) + (R4 + R5 + R6 + w7) = (w0 + w1 + w2 + w3 + w4 + w5 + w6 + w7) + 128 * (2 * (R1 + R2 + R3 + R4 + R5 + R6 + w7)) := by omega
    rw [a]
    clear a e0 e1 e2 e3 e4 e5 e6
    omega
theorem bc_fin (c : Int64) (X : Nat) (hc : un c = fB gP 8 X) : ∃ D E F : Int64, D = c + zlsh 2 c (nI 8) ∧ E = D + zlsh 2 D (nI 16) ∧ F = E + zlsh 2 E (nI 32) ∧ F.toInt32 &&& nI 127 = nI (bcN X) := by
  refine ⟨_, _, _, rfl, rfl, rfl, ?_⟩
  obtain ⟨w0, w1, w2, w3, w4, w5, w6, w7, hw, e, ebc⟩ := bc_end X
  obtain ⟨k1, k2, k3, k4⟩ := dv_fin (W := un c) hw.1 hw.2.1 hw.2.2.1 hw.2.2.2.1 hw.2.2.2.2.1 hw.2.2.2.2.2.1 hw.2.2.2.2.2.2.1 hw.2.2.2.2.2.2.2 rfl rfl rfl rfl rfl rfl (hc.trans e)
  have hb : un c < 2 ^ 60 := by
    rw [hc, e]
    clear k1 k2 k3 k4
    omega
  have b2 : un c / 256 ≤ un c := Nat.div_le_self _ _
  generalize hD : c + zlsh 2 c (nI 8) = D
  have u1 : un (zlsh 2 c (nI 8)) = un c / 256 := un_shr c (o := 8) (by omega)
  have uD : un D = un c + un c / 256 := by rw [← hD, un_add (by rw [u1]; clear k1 k2 k3 k4 e ebc hc; omega), u1]
  generalize hE : D + zlsh 2 D (nI 16) = E
  have u2 : un (zlsh 2 D (nI 16)) = un D / 65536 := un_shr D (o := 16) (by omega)
  have b3 : un D / 65536 ≤ un D := Nat.div_le_self _ _
  have uE : un E = un D + un D / 65536 := by rw [← hE, un_add (by rw [u2]; clear k1 k2 k3 k4 e ebc hc; omega), u2]
  generalize hF : E + zlsh 2 E (nI 32) = F
  have u3 : un (zlsh 2 E (nI 32)) = un E / 4294967296 := un_shr E (o := 32) (by omega)
  have b4 : un E / 4294967296 ≤ un E := Nat.div_le_self _ _
  have uF : un F = un E + un E / 4294967296 := by rw [← hF, un_add (by rw [u3]; clear k1 k2 k3 k4 e ebc hc; omega), u3]
  rw [i32_127, ebc, uF, uE, uD, k1, k2, k3, k4]
