/-! The tables hold what the code and the words say. -/
def zin (i : Nat) (w : Cond) : Bool := decide (lw_tbl[i]? = some w) && goodWord w
theorem zin_mem {i : Nat} {w : Cond} (h : zin i w = true) : w ∈ zTBL := by
  simp only [zin, Bool.and_eq_true, decide_eq_true_eq] at h
  exact List.mem_filter.mpr ⟨List.mem_of_getElem? h.1, h.2⟩
theorem zTBL_good {w : Cond} (h : w ∈ zTBL) : (w.onTables && w.keeps) = true ∨ ∃ ty, w = .arrayClass ty := good_of_word (List.mem_filter.mp h).2
def zNest : List (String × Nat × MethodName × String) := [("VersionSolver", 23, yX2_init, "VersionSolver"), ("VersionSolver$Reader", 129, yX9_isPack, "VersionSolver"), ("VersionSolver$Reader", 80, yX4_init, "VersionSolver"), ("VersionSolver$Release", 33, yX9_isPack, "VersionSolver")]
def zexc (k : Nat) : String := match k with
  | 0 => "java/lang/IllegalArgumentException"
  | 1 => "java/lang/IllegalStateException"
  | 2 => "java/lang/IndexOutOfBoundsException"
  | _ => "java/lang/UnsupportedOperationException"
def zexi (k : Nat) : Nat := match k with
  | 0 => 58
  | 1 => 65
  | 2 => 80
  | _ => 97
def zaty (k : Nat) : FieldType := match k with
  | 0 => .byte
  | 1 => .int
  | 2 => .long
  | _ => .boolean
def zate (k : Nat) : ArrayType := match k with
  | 0 => .byte
  | 1 => .int
  | 2 => .long
  | _ => .boolean
def zrcn (k : Nat) : String := match k with
  | 4 => "VersionSolver$Release"
  | 5 => "VersionSolver$Requirement"
  | 6 => "VersionSolver$Span"
  | _ => "VersionSolver$Word"
def zcmp (a : Nat) : Jvm.ClassFile.Cond := match a with
  | 0 => .eq
  | 1 => .ne
  | 2 => .lt
  | 3 => .ge
  | 4 => .gt
  | _ => .le
abbrev zown (j : Nat) : String := (zN j).cls
def zcls (ci : Nat) : vw_C := zCL.getD ci (RX0, TX0, 2)
def zfty (z : Int) (t : FieldType) : Bool := match z with
  | 0 => decide (t = .int)
  | 1 => decide (t = .boolean)
  | 2 => decide (t = .long)
  | _ => match t with
    | .object _ => true
    | .array _ => true
    | _ => false
def zrty (a : Nat) (t : Option FieldType) : Bool := match a with
  | 0 => decide (t = some .int)
  | 1 => decide (t = some .boolean)
  | 2 => decide (t = some .long)
  | _ => match t with
    | some (.object _) => true
    | some (.array _) => true
    | _ => false
def zchk (j pc : Nat) (o : zOp) : Bool := match o with
  | (k, n, a, b, ix, w, z) => match k with
    | 0 => decide ((n = 2 ∧ decode (zC j) pc = .ok (.iload a, 2)) ∨ (n = 1 ∧ ∃ h : a < 4, decode (zC j) pc = .ok (.iload_n ⟨a, h⟩, 1)))
    | 1 => decide ((n = 2 ∧ decode (zC j) pc = .ok (.aload a, 2)) ∨ (n = 1 ∧ ∃ h : a < 4, decode (zC j) pc = .ok (.aload_n ⟨a, h⟩, 1)))
    | 2 => decide ((n = 2 ∧ decode (zC j) pc = .ok (.lload a, 2)) ∨ (n = 1 ∧ ∃ h : a < 4, decode (zC j) pc = .ok (.lload_n ⟨a, h⟩, 1)))
    | 3 => decide ((n = 2 ∧ decode (zC j) pc = .ok (.istore a, 2)) ∨ (n = 1 ∧ ∃ h : a < 4, decode (zC j) pc = .ok (.istore_n ⟨a, h⟩, 1)))
    | 4 => decide ((n = 2 ∧ decode (zC j) pc = .ok (.astore a, 2)) ∨ (n = 1 ∧ ∃ h : a < 4, decode (zC j) pc = .ok (.astore_n ⟨a, h⟩, 1)))
    | 5 => decide ((n = 2 ∧ decode (zC j) pc = .ok (.lstore a, 2)) ∨ (n = 1 ∧ ∃ h : a < 4, decode (zC j) pc = .ok (.lstore_n ⟨a, h⟩, 1)))
    | 6 => decide ((n = 1 ∧ decode (zC j) pc = .ok (.iconst z, 1)) ∨ (n = 2 ∧ decode (zC j) pc = .ok (.bipush z, 2) ∧ (Int8.ofInt z).toInt32 = Int32.ofInt z) ∨ (n = 3 ∧ decode (zC j) pc = .ok (.sipush z, 3) ∧ (Int16.ofInt z).toInt32 = Int32.ofInt z))
    | 7 => decide ((n = 1 ∧ ∃ h : z.toNat < 2, decode (zC j) pc = .ok (.lconst ⟨z.toNat, h⟩, 1) ∧ Int64.ofNat z.toNat = Int64.ofInt z) ∨ (n = 3 ∧ decode (zC j) pc = .ok (.ldc2_w ix, 3) ∧ zin w (.constantLong (zown j) ix (Int64.ofInt z)) = true))
    | 8 => decide (n = 1 ∧ decode (zC j) pc = .ok (.aconst_null, 1))
    | 9 => decide (n = 3 ∧ decode (zC j) pc = .ok (.iinc a z, 3))
    | 10 => decide (n = 1 ∧ ((a = 0 ∧ decode (zC j) pc = .ok (.iadd, 1)) ∨ (a = 1 ∧ decode (zC j) pc = .ok (.isub, 1)) ∨ (a = 2 ∧ decode (zC j) pc = .ok (.imul, 1)) ∨ (a = 3 ∧ decode (zC j) pc = .ok (.iand, 1))))
    | 11 => decide (n = 1 ∧ ((a = 0 ∧ decode (zC j) pc = .ok (.ladd, 1)) ∨ (a = 1 ∧ decode (zC j) pc = .ok (.lsub, 1)) ∨ (a = 2 ∧ decode (zC j) pc = .ok (.land, 1)) ∨ (a = 3 ∧ decode (zC j) pc = .ok (.lor, 1)) ∨ (a = 4 ∧ decode (zC j) pc = .ok (.lxor, 1))))
    | 12 => decide (n = 1 ∧ ((a = 0 ∧ decode (zC j) pc = .ok (.lshl, 1)) ∨ (a = 1 ∧ decode (zC j) pc = .ok (.lshr, 1)) ∨ (a = 2 ∧ decode (zC j) pc = .ok (.lushr, 1))))
    | 13 => decide (n = 1 ∧ ((a = 0 ∧ decode (zC j) pc = .ok (.i2l, 1)) ∨ (a = 1 ∧ decode (zC j) pc = .ok (.l2i, 1)) ∨ (a = 2 ∧ decode (zC j) pc = .ok (.i2b, 1))))
    | 14 => decide (n = 3 ∧ a < 6 ∧ decode (zC j) pc = .ok (.ifCond (zcmp a) z, 3) ∧ (pc : Int) + z = (b : Int))
    | 15 => decide (n = 3 ∧ a < 6 ∧ decode (zC j) pc = .ok (.if_icmp (zcmp a) z, 3) ∧ (pc : Int) + z = (b : Int))
    | 16 => decide (decode (zC j) pc = .ok (.goto z, 3) ∧ (pc : Int) + z = (b : Int))
    | 17 => decide (n = 3 ∧ decode (zC j) pc = .ok (.ifnull z, 3) ∧ (pc : Int) + z = (b : Int))
    | 18 => decide (n = 3 ∧ decode (zC j) pc = .ok (.ifnonnull z, 3) ∧ (pc : Int) + z = (b : Int))
    | 19 => decide (n = 1 ∧ decode (zC j) pc = .ok (.lcmp, 1))
    | 20 => decide (n = 1 ∧ decode (zC j) pc = .ok (.dup, 1))
    | 21 => decide (n = 1 ∧ decode (zC j) pc = .ok (.dup2, 1))
    | 22 => decide (n = 1 ∧ decode (zC j) pc = .ok (.pop, 1))
    | 23 => decide (n = 3 ∧ decode (zC j) pc = .ok (.getfield ix, 3) ∧ a < 11 ∧ b < (zcls a).2.2 ∧ zin w (.fieldLink (zown j) ix ((zcls a).2.1 b).1 ((zcls a).2.1 b).2.1 ((zcls a).2.1 b).2.2.1) = true)
    | 24 => decide (n = 3 ∧ decode (zC j) pc = .ok (.putfield ix, 3) ∧ a < 11 ∧ b < (zcls a).2.2 ∧ zin w (.fieldLink (zown j) ix ((zcls a).2.1 b).1 ((zcls a).2.1 b).2.1 ((zcls a).2.1 b).2.2.1) = true ∧ zfty z (zty a b) = true ∧ (((zcls a).2.1 b).2.2.2 = false ∨ ((zN j).name = "<init>" ∧ ((zcls a).2.1 b).1 = zown j)))
    | 25 => decide (n = 1 ∧ ((a = 0 ∧ decode (zC j) pc = .ok (.baload, 1)) ∨ (a = 1 ∧ decode (zC j) pc = .ok (.iaload, 1)) ∨ (a = 3 ∧ decode (zC j) pc = .ok (.baload, 1))))
    | 26 => decide (n = 1 ∧ ((a = 0 ∧ decode (zC j) pc = .ok (.bastore, 1)) ∨ (a = 1 ∧ decode (zC j) pc = .ok (.iastore, 1)) ∨ (a = 3 ∧ decode (zC j) pc = .ok (.bastore, 1))))
    | 27 => decide (n = 1 ∧ decode (zC j) pc = .ok (.laload, 1))
    | 28 => decide (n = 1 ∧ decode (zC j) pc = .ok (.lastore, 1))
    | 29 => decide (n = 1 ∧ 4 ≤ a ∧ a < 8 ∧ decode (zC j) pc = .ok (.aaload, 1))
    | 30 => decide (n = 1 ∧ 4 ≤ a ∧ a < 8 ∧ b < 11 ∧ (zcls b).1 = zrcn a ∧ decode (zC j) pc = .ok (.aastore, 1))
    | 31 => decide (n = 1 ∧ decode (zC j) pc = .ok (.arraylength, 1))
    | 32 => decide (n = 3 ∧ decode (zC j) pc = .ok (.new ix, 3) ∧ a < 11 ∧ b = (zcls a).2.2 ∧ zin w (.classLink (zown j) ix (zcls a).1) = true)
    | 33 => decide (n = 2 ∧ a < 4 ∧ decode (zC j) pc = .ok (.newarray (zate a), 2))
    | 34 => decide (n = 3 ∧ 4 ≤ a ∧ a < 8 ∧ decode (zC j) pc = .ok (.anewarray ix, 3) ∧ zin w (.classLink (zown j) ix (zrcn a)) = true)
    | 35 => decide (n = 3 ∧ a < 152 ∧ ((z = 0 ∧ zK a = 0 ∧ b = zn a + 1 ∧ decode (zC j) pc = .ok (.invokevirtual ix, 3) ∧ zin w (.methodLink (zown j) ix (zN a)) = true) ∨ (z = 1 ∧ zK a = 1 ∧ b = zn a ∧ decode (zC j) pc = .ok (.invokestatic ix, 3) ∧ zin w (.methodLink (zown j) ix (zN a)) = true) ∨ (z = 2 ∧ zK a = 2 ∧ b = zn a + 1 ∧ decode (zC j) pc = .ok (.invokespecial ix, 3) ∧ zin w (.methodLink (zown j) ix (zN a)) = true) ∨ (z = 4 ∧ zK a = 1 ∧ b = zn a ∧ decode (zC j) pc = .ok (.invokestatic ix, 3) ∧ (zown j, ix, zN a, "VersionSolver") ∈ zNest) ∨ (z = 5 ∧ zK a = 2 ∧ b = zn a + 1 ∧ decode (zC j) pc = .ok (.invokespecial ix, 3) ∧ (zown j, ix, zN a, "VersionSolver") ∈ zNest)))
    | 36 => zrty a (zRt j) && decide ((a < 2 ∧ decode (zC j) pc = .ok (.ireturn, 1)) ∨ (a = 2 ∧ decode (zC j) pc = .ok (.lreturn, 1)) ∨ (a = 3 ∧ decode (zC j) pc = .ok (.areturn, 1)))
    | 37 => decide (zRt j = none ∧ decode (zC j) pc = .ok (.return_, 1))
    | 38 => decide (a < 4 ∧ b = zexi a ∧ zown j = RX9 ∧ decode (zC j) pc = .ok (.new ix, 3) ∧ decode (zC j) (pc + 3) = .ok (.dup, 1) ∧ decode (zC j) (pc + 4) = .ok (.invokespecial b, 3) ∧ decode (zC j) (pc + 7) = .ok (.athrow, 1) ∧ zin w (.classLink (zown j) ix (zexc a)) = true)
    | 39 => match zSW[a]? with
      | some (d, lo, hi, offs, tg) => decide (decode (zC j) pc = .ok (.tableswitch d lo hi offs.toArray, n) ∧ (pc : Int) + d = (b : Int) ∧ offs.length = tg.length ∧ (hi - lo).toNat + 1 = offs.length ∧ offs.map (fun x => (pc : Int) + x) = tg.map (fun (x : Nat) => (x : Int)))
      | none => false
    | 40 => decide (n = 3 ∧ decode (zC j) pc = .ok (.invokespecial ix, 3) ∧ zin w (.methodLink (zown j) ix objectInit) = true)
    | 41 => decide (decode (zC j) pc = .ok (.iaload, 1))
    | 42 => decide (decode (zC j) pc = .ok (.arraylength, 1))
    | 44 => decide (n = 3 ∧ a < 2 ∧ decode (zC j) pc = .ok (.invokestatic ix, 3) ∧ zin w (.methodLink (zown j) ix arraycopyName) = true)
    | 45 => decide (n = 3 ∧ decode (zC j) pc = .ok (.invokestatic ix, 3) ∧ zin w (.methodLink (zown j) ix Lib.Math.min.name) = true)
    | _ => true
def zmck (j : Nat) : Bool := plainName (zN j).cls && decide ((zN j).cls ≠ "java/lang/invoke/MethodHandle" ∧ (zN j).cls ≠ "java/lang/invoke/VarHandle") && decide ((parseMethodDescriptor (zN j).desc).map (fun d => d.parameters.length) = some (zn j)) && decide (zL j ≤ 40) && zin (zw j).1 (.code (zN j) (zC j) (zL j) (zRt j)) && zin (zw j).2.2.2 (.initialized (zN j).cls) && (match zK j with
  | 0 => zin (zw j).2.1 (.instanceMethod (zN j)) && zin (zw j).2.2.1 (.selects (zN j).cls (zN j) (zN j)) && decide (zci j < 11 ∧ (zcls (zci j)).1 = (zN j).cls)
  | 1 => zin (zw j).2.1 (.static (zN j))
  | _ => zin (zw j).2.1 (.instanceMethod (zN j)) && decide ((zN j).name = "<init>" ∧ zRt j = none))
def ztck (j : Nat) : Bool := (ztb j).all (fun q => zchk j q.1 q.2)
