/-! A step of the pure machine is a step of the real one. -/
def zDecl : List MethodName := [⟨"java/lang/RuntimeException", "<init>", "()V"⟩, ⟨"java/lang/Exception", "<init>", "()V"⟩, ⟨"java/lang/Throwable", "<init>", "()V"⟩]
def zFix (D : va_G) (cy : Nat → ClassId) (A : Nat → Prop) (U : State) : Prop := va_K D zCL (zTY cy) U ∧ (∀ q ∈ zNest, va_Nw (.methodLinkNest q.1 q.2.1 q.2.2.1 q.2.2.2) U) ∧ (∀ k, 4 ≤ k → k < 8 → va_AO (zrcn k) U) ∧ vx_Zq Bundle.tN "UNASSIGNED_STACK" Bundle.steD A U U.heap ∧ vx_Zq Bundle.tN "SUPPRESSED_SENTINEL" Bundle.listD A U U.heap ∧ (∀ k, k < 4 → va_Nw (.castable (zexc k) (zexc k)) U) ∧ ∀ x ∈ zDecl, va_Nw (.declares x) U
theorem zFix.to {D : va_G} {cy : Nat → ClassId} {A : Nat → Prop} {s U : State} (h : zFix D cy A s) (hW : s.WarmedH U.vm) (hq : ∀ a : Nat, a < s.heap.size → ¬ A a → U.heap[a]? = s.heap[a]?) : zFix D cy A U :=
  ⟨va_K.moved hW.alike h.1, fun q hq => va_Nw.warmM hW (h.2.1 q hq), fun k h1 h2 => va_AO.moved hW.alike (h.2.2.1 k h1 h2), vx_Zq.kept (vx_Zq.moved hW.alike h.2.2.2.1) hq, vx_Zq.kept (vx_Zq.moved hW.alike h.2.2.2.2.1) hq, fun k hk => va_Nw.warmC hW (h.2.2.2.2.2.1 k hk), fun x hx => va_Nw.warmD hW (h.2.2.2.2.2.2 x hx)⟩
def zCx (p : Program) (l : Launch) (R : Room) (s : State) (m : MethodId) (args : Array Value) (meth : Method) (c : Code) (D : va_G) (cy : Nat → ClassId) (A : Nat → Prop) (mc ms d y : Nat) : Prop :=
  (p.tables.exec = Jvm.exec ∧ c.code = zC y ∧ c.maxLocals = zL y ∧ meth.sig.returnType = zRt y ∧ meth.locks = false ∧ meth.name = (zN y).name ∧ s.vm.findClass (zown y) = some m.cls) ∧ (∀ w ∈ zTBL, w.before args s = true) ∧ zFix D cy A s ∧ (∀ q, s.heap.size ≤ q → A q) ∧ (R.cells = mc ∧ R.slots = ms ∧ d + 8 ≤ R.frames ∧ 60 * d + 260 ≤ R.locals) ∧ l.stackTraces = false ∧ (y < 152 → ∀ x ∈ c.exceptionTable.toList, False)
def zWS (p : Program) (l : Launch) (e : Env) (R : Room) (s : State) (m : MethodId) (args : Array Value) (below : List Frame) (meth : Method) (c : Code) (Qf : State → Prop) (D : va_G) (cy : Nat → ClassId) (A : Nat → Prop) (nL mc ms : Nat) : zX := fun pc ls st h u v =>
  u ≤ mc → v ≤ ms → ∀ (H : Heap) (locs : List Loc) (arr : Array Slot), zRep D cy A h H → va_S A s.heap H locs → zhas arr nL ls → W p l e R s m args below meth c H locs u v Qf (F0 m pc arr (st.map zval))
theorem zmap_sum (r : List zV) : ((r.map zval).map fun v => v.category).sum = (r.map zcat).sum := by
  induction r with
  | nil => rfl
  | cons v t ih => simp only [List.map_cons, List.sum_cons, ih, zcat_val]
theorem zcls_at {a : Nat} (h : a < 11) : zCL[a]? = some (zcls a) := by
  have : ∀ a, a < 11 → zCL[a]? = some (zcls a) := by
    intro a h
    rcases (show a = 0 ∨ a = 1 ∨ a = 2 ∨ a = 3 ∨ a = 4 ∨ a = 5 ∨ a = 6 ∨ a = 7 ∨ a = 8 ∨ a = 9 ∨ a = 10 by omega) with h | h | h | h | h | h | h | h | h | h | h <;> subst h <;> rfl
  exact this a h
theorem zcls_in {a : Nat} (h : a < 11) : ∀ w ∈ u_ws (zcls a).1 (zcls a).2.1 (zcls a).2.2, w ∈ zTBL := by
  rcases (show a = 0 ∨ a = 1 ∨ a = 2 ∨ a = 3 ∨ a = 4 ∨ a = 5 ∨ a = 6 ∨ a = 7 ∨ a = 8 ∨ a = 9 ∨ a = 10 by omega) with h | h | h | h | h | h | h | h | h | h | h <;> subst h
  · exact zin0
  · exact zin1
  · exact zin2
  · exact zin3
  · exact zin4
  · exact zin5
  · exact zin6
  · exact zin7
  · exact zin8
  · exact zin9
  · exact zin10
theorem zcls_ty {a : Nat} (h : a < 11) : ∀ k, k < (zcls a).2.2 → parseFieldDescriptor ((zcls a).2.1 k).2.2.1 = some (zty a k) := by
  rcases (show a = 0 ∨ a = 1 ∨ a = 2 ∨ a = 3 ∨ a = 4 ∨ a = 5 ∨ a = 6 ∨ a = 7 ∨ a = 8 ∨ a = 9 ∨ a = 10 by omega) with h | h | h | h | h | h | h | h | h | h | h <;> subst h
  · exact tyX0_ok
  · exact tyX1_ok
  · exact tyX2_ok
  · exact tyX3_ok
  · exact tyX4_ok
  · exact tyX5_ok
  · exact tyX6_ok
  · exact tyX7_ok
  · exact tyX8_ok
  · exact tyX9_ok
  · exact tyX10_ok
theorem zcls_nm {a : Nat} (h : a < 11) : ∀ x, x < (zcls a).2.2 → ∀ y, y < (zcls a).2.2 → x ≠ y → ((zcls a).2.1 x).2.1 ≠ ((zcls a).2.1 y).2.1 := by
  rcases (show a = 0 ∨ a = 1 ∨ a = 2 ∨ a = 3 ∨ a = 4 ∨ a = 5 ∨ a = 6 ∨ a = 7 ∨ a = 8 ∨ a = 9 ∨ a = 10 by omega) with h | h | h | h | h | h | h | h | h | h | h <;> subst h
  · exact nmX0
  · exact nmX1
  · exact nmX2
  · exact nmX3
  · exact nmX4
  · exact nmX5
  · exact nmX6
  · exact nmX7
  · exact nmX8
  · exact nmX9
  · exact nmX10
theorem zlv {arr : Array Slot} {nL a : Nat} {ls : List (Option zV)} {v : zV} (h : zhas arr nL ls) (hl : ls[a]? = some (some v)) : arr[a]? = some (.val (zval v)) := h.2.2.2 a v hl
theorem zb01 {x : Int32} (h : x = 0 ∨ x = 1) : narrow .boolean (.int x) = .int x ∧ fits .boolean (.int x) = true := by
  rcases h with h | h <;> subst h <;> exact ⟨by decide +kernel, by decide +kernel⟩
theorem zinst {a : Nat} (h : a < 11) : Cond.instantiable (zcls a).1 (zcls a).2.2 ∈ zTBL ∧ Cond.initialized (zcls a).1 ∈ zTBL := by
  have : ∀ a, a < 11 → Cond.instantiable (zcls a).1 (zcls a).2.2 ∈ zTBL ∧ Cond.initialized (zcls a).1 ∈ zTBL := by decide +kernel
  exact this a h
theorem znoflt {a : Nat} (h : a < 11) : ∀ j, j < (zcls a).2.2 → zval (zdv (zty a j)) = defaultValue (zty a j) := by
  have h1 : ∀ a, a < 11 → ∀ j, j < (zcls a).2.2 → zty a j ≠ .float ∧ zty a j ≠ .double := by decide +kernel
  intro j hj
  have h2 := h1 a h j hj
  generalize zty a j = t at h2
  cases t <;> first | rfl | exact absurd rfl h2.1 | exact absurd rfl h2.2
theorem zdf_at {a b j : Nat} (hj : j < b) : vp_V ((zdf a b).map zval) j = zval (zdv (zty a j)) := by
  simp [vp_V, zdf, List.getD_eq_getElem?_getD, hj]
theorem zarrw {a : Nat} (h : a < 4) : Cond.arrayClass (newarray.typeOf (zate a)) ∈ zTBL := by
  have : ∀ a, a < 4 → Cond.arrayClass (newarray.typeOf (zate a)) ∈ zTBL := by decide +kernel
  exact this a h
theorem zobjw : Cond.instanceMethod objectInit ∈ zTBL ∧ Cond.code objectInit ⟨#[0xb1]⟩ 1 none ∈ zTBL := by decide +kernel
theorem zcpyw : Cond.native arraycopyName ∈ zTBL ∧ Cond.static arraycopyName ∈ zTBL ∧ Cond.initialized "java/lang/System" ∈ zTBL := by decide +kernel
theorem zminw : Cond.static Lib.Math.min.name ∈ zTBL ∧ Cond.initialized "java/lang/Math" ∈ zTBL ∧ Cond.code Lib.Math.min.name Lib.Math.min.code 2 (some .int) ∈ zTBL := by decide +kernel
section
variable {p : Program} {l : Launch} {e : Env} {R : Room} {s : State} {m : MethodId} {args : Array Value} {below : List Frame} {meth : Method} {c : Code} {Qf : State → Prop} {D : va_G} {cy : Nat → ClassId} {A : Nat → Prop} {mc ms d y : Nat} {cl : Nat → List zV → zH → Nat → Nat → zQ → Prop} {Q : zQ} {n a b ix w : Nat} {z : Int} {pc : Nat} {ls : List (Option zV)} {st : List zV} {h : zH} {u v : Nat}
set_option maxHeartbeats 1000000 in
theorem zs_0 (C : zCx p l R s m args meth c D cy A mc ms d y) (hc : zchk y pc (0, n, a, b, ix, w, z) = true) (k : zstep cl mc ms Q (zWS p l e R s m args below meth c Qf D cy A (zL y) mc ms) (0, n, a, b, ix, w, z) pc ls st h u v) : zWS p l e R s m args below meth c Qf D cy A (zL y) mc ms pc ls st h u v := by
  obtain ⟨⟨hx, hb, hml, hr, hlk, hnm, hown⟩, hts, hF, hA, ⟨hR1, hR2, hR3, hR4⟩, hnt, hex⟩ := C
  have hK := hF.1
  intro hu hv H locs arr hP hS hL
  simp only [zchk, decide_eq_true_eq] at hc
  simp only [zstep] at k
  obtain ⟨x, h1, k⟩ := k
  rcases hc with ⟨rfl, hc⟩ | ⟨rfl, h4, hc⟩
  · exact lv_iload hx hb hc (zlv hL h1) (k hu hv H locs arr hP hS hL)
  · exact lv_iload_n hx hb hc rfl (zlv hL h1) (k hu hv H locs arr hP hS hL)
set_option maxHeartbeats 1000000 in
theorem zs_1 (C : zCx p l R s m args meth c D cy A mc ms d y) (hc : zchk y pc (1, n, a, b, ix, w, z) = true) (k : zstep cl mc ms Q (zWS p l e R s m args below meth c Qf D cy A (zL y) mc ms) (1, n, a, b, ix, w, z) pc ls st h u v) : zWS p l e R s m args below meth c Qf D cy A (zL y) mc ms pc ls st h u v := by
  obtain ⟨⟨hx, hb, hml, hr, hlk, hnm, hown⟩, hts, hF, hA, ⟨hR1, hR2, hR3, hR4⟩, hnt, hex⟩ := C
  have hK := hF.1
  intro hu hv H locs arr hP hS hL
  simp only [zchk, decide_eq_true_eq] at hc
  simp only [zstep] at k
  obtain ⟨x, h1, k⟩ := k
  rcases hc with ⟨rfl, hc⟩ | ⟨rfl, h4, hc⟩
  · cases x with
    | none => exact lv_aloadN hx hb hc (zlv hL h1) (k hu hv H locs arr hP hS hL)
    | some x => exact lv_aload hx hb hc (zlv hL h1) (k hu hv H locs arr hP hS hL)
  · cases x with
    | none => exact lv_aload_nN hx hb hc rfl (zlv hL h1) (k hu hv H locs arr hP hS hL)
    | some x => exact lv_aload_n hx hb hc rfl (zlv hL h1) (k hu hv H locs arr hP hS hL)
set_option maxHeartbeats 1000000 in
theorem zs_2 (C : zCx p l R s m args meth c D cy A mc ms d y) (hc : zchk y pc (2, n, a, b, ix, w, z) = true) (k : zstep cl mc ms Q (zWS p l e R s m args below meth c Qf D cy A (zL y) mc ms) (2, n, a, b, ix, w, z) pc ls st h u v) : zWS p l e R s m args below meth c Qf D cy A (zL y) mc ms pc ls st h u v := by
  obtain ⟨⟨hx, hb, hml, hr, hlk, hnm, hown⟩, hts, hF, hA, ⟨hR1, hR2, hR3, hR4⟩, hnt, hex⟩ := C
  have hK := hF.1
  intro hu hv H locs arr hP hS hL
  simp only [zchk, decide_eq_true_eq] at hc
  simp only [zstep] at k
  obtain ⟨x, h1, k⟩ := k
  rcases hc with ⟨rfl, hc⟩ | ⟨rfl, h4, hc⟩
  · exact lv_lload hx hb hc (zlv hL h1) (k hu hv H locs arr hP hS hL)
  · exact lv_lload_n hx hb hc rfl (zlv hL h1) (k hu hv H locs arr hP hS hL)
set_option maxHeartbeats 1000000 in
theorem zs_3 (C : zCx p l R s m args meth c D cy A mc ms d y) (hc : zchk y pc (3, n, a, b, ix, w, z) = true) (k : zstep cl mc ms Q (zWS p l e R s m args below meth c Qf D cy A (zL y) mc ms) (3, n, a, b, ix, w, z) pc ls st h u v) : zWS p l e R s m args below meth c Qf D cy A (zL y) mc ms pc ls st h u v := by
  obtain ⟨⟨hx, hb, hml, hr, hlk, hnm, hown⟩, hts, hF, hA, ⟨hR1, hR2, hR3, hR4⟩, hnt, hex⟩ := C
  have hK := hF.1
  intro hu hv H locs arr hP hS hL
  simp only [zchk, decide_eq_true_eq] at hc
  simp only [zstep] at k
  obtain ⟨x, r, rfl, h2, k⟩ := k
  rw [hL.1] at h2
  rcases hc with ⟨rfl, hc⟩ | ⟨rfl, h4, hc⟩
  · exact lv_istore hx hb hc hL.lv h2 rfl (fun arr' h' => k hu hv H locs arr' hP hS (hL.st1 (v := zI x) rfl h'))
  · exact lv_istore_n hx hb hc rfl hL.lv h2 rfl (fun arr' h' => k hu hv H locs arr' hP hS (hL.st1 (v := zI x) rfl h'))
set_option maxHeartbeats 1000000 in
theorem zs_4 (C : zCx p l R s m args meth c D cy A mc ms d y) (hc : zchk y pc (4, n, a, b, ix, w, z) = true) (k : zstep cl mc ms Q (zWS p l e R s m args below meth c Qf D cy A (zL y) mc ms) (4, n, a, b, ix, w, z) pc ls st h u v) : zWS p l e R s m args below meth c Qf D cy A (zL y) mc ms pc ls st h u v := by
  obtain ⟨⟨hx, hb, hml, hr, hlk, hnm, hown⟩, hts, hF, hA, ⟨hR1, hR2, hR3, hR4⟩, hnt, hex⟩ := C
  have hK := hF.1
  intro hu hv H locs arr hP hS hL
  simp only [zchk, decide_eq_true_eq] at hc
  simp only [zstep] at k
  obtain ⟨x, r, rfl, h2, k⟩ := k
  rw [hL.1] at h2
  rcases hc with ⟨rfl, hc⟩ | ⟨rfl, h4, hc⟩
  · cases x with
    | none => exact lv_astoreN hx hb hc hL.lv h2 rfl (fun arr' h' => k hu hv H locs arr' hP hS (hL.st1 (v := zR none) rfl h'))
    | some x => exact lv_astore hx hb hc hL.lv h2 rfl (fun arr' h' => k hu hv H locs arr' hP hS (hL.st1 (v := zR (some x)) rfl h'))
  · cases x with
    | none => exact lv_astore_nN hx hb hc rfl hL.lv h2 rfl (fun arr' h' => k hu hv H locs arr' hP hS (hL.st1 (v := zR none) rfl h'))
    | some x => exact lv_astore_n hx hb hc rfl hL.lv h2 rfl (fun arr' h' => k hu hv H locs arr' hP hS (hL.st1 (v := zR (some x)) rfl h'))
set_option maxHeartbeats 1000000 in
theorem zs_5 (C : zCx p l R s m args meth c D cy A mc ms d y) (hc : zchk y pc (5, n, a, b, ix, w, z) = true) (k : zstep cl mc ms Q (zWS p l e R s m args below meth c Qf D cy A (zL y) mc ms) (5, n, a, b, ix, w, z) pc ls st h u v) : zWS p l e R s m args below meth c Qf D cy A (zL y) mc ms pc ls st h u v := by
  obtain ⟨⟨hx, hb, hml, hr, hlk, hnm, hown⟩, hts, hF, hA, ⟨hR1, hR2, hR3, hR4⟩, hnt, hex⟩ := C
  have hK := hF.1
  intro hu hv H locs arr hP hS hL
  simp only [zchk, decide_eq_true_eq] at hc
  simp only [zstep] at k
  obtain ⟨x, r, rfl, h2, k⟩ := k
  rw [hL.1] at h2
  rcases hc with ⟨rfl, hc⟩ | ⟨rfl, h4, hc⟩
  · exact lv_lstore hx hb hc hL.lv h2 rfl (fun arr' h' => k hu hv H locs arr' hP hS (hL.st2 (v := zJ x) rfl h'))
  · exact lv_lstore_n hx hb hc rfl hL.lv h2 rfl (fun arr' h' => k hu hv H locs arr' hP hS (hL.st2 (v := zJ x) rfl h'))
set_option maxHeartbeats 1000000 in
theorem zs_6 (C : zCx p l R s m args meth c D cy A mc ms d y) (hc : zchk y pc (6, n, a, b, ix, w, z) = true) (k : zstep cl mc ms Q (zWS p l e R s m args below meth c Qf D cy A (zL y) mc ms) (6, n, a, b, ix, w, z) pc ls st h u v) : zWS p l e R s m args below meth c Qf D cy A (zL y) mc ms pc ls st h u v := by
  obtain ⟨⟨hx, hb, hml, hr, hlk, hnm, hown⟩, hts, hF, hA, ⟨hR1, hR2, hR3, hR4⟩, hnt, hex⟩ := C
  have hK := hF.1
  intro hu hv H locs arr hP hS hL
  simp only [zchk, decide_eq_true_eq] at hc
  simp only [zstep] at k
  rcases hc with ⟨rfl, hc⟩ | ⟨rfl, hc, hz⟩ | ⟨rfl, hc, hz⟩
  · exact lv_iconst hx hb hc rfl (k hu hv H locs arr hP hS hL)
  · exact lv_bipush hx hb hc hz (k hu hv H locs arr hP hS hL)
  · exact lv_sipush hx hb hc hz (k hu hv H locs arr hP hS hL)
set_option maxHeartbeats 1000000 in
theorem zs_7 (C : zCx p l R s m args meth c D cy A mc ms d y) (hc : zchk y pc (7, n, a, b, ix, w, z) = true) (k : zstep cl mc ms Q (zWS p l e R s m args below meth c Qf D cy A (zL y) mc ms) (7, n, a, b, ix, w, z) pc ls st h u v) : zWS p l e R s m args below meth c Qf D cy A (zL y) mc ms pc ls st h u v := by
  obtain ⟨⟨hx, hb, hml, hr, hlk, hnm, hown⟩, hts, hF, hA, ⟨hR1, hR2, hR3, hR4⟩, hnt, hex⟩ := C
  have hK := hF.1
  intro hu hv H locs arr hP hS hL
  simp only [zchk, decide_eq_true_eq] at hc
  simp only [zstep] at k
  rcases hc with ⟨rfl, h2, hc, hz⟩ | ⟨rfl, hc, hz⟩
  · exact lv_lconst hx hb hc hz (k hu hv H locs arr hP hS hL)
  · exact lv_ldc2 hx hb hown (hts _ (zin_mem hz)) hc (k hu hv H locs arr hP hS hL)
set_option maxHeartbeats 1000000 in
theorem zs_8 (C : zCx p l R s m args meth c D cy A mc ms d y) (hc : zchk y pc (8, n, a, b, ix, w, z) = true) (k : zstep cl mc ms Q (zWS p l e R s m args below meth c Qf D cy A (zL y) mc ms) (8, n, a, b, ix, w, z) pc ls st h u v) : zWS p l e R s m args below meth c Qf D cy A (zL y) mc ms pc ls st h u v := by
  obtain ⟨⟨hx, hb, hml, hr, hlk, hnm, hown⟩, hts, hF, hA, ⟨hR1, hR2, hR3, hR4⟩, hnt, hex⟩ := C
  have hK := hF.1
  intro hu hv H locs arr hP hS hL
  simp only [zchk, decide_eq_true_eq] at hc
  simp only [zstep] at k
  obtain ⟨rfl, hc⟩ := hc
  exact lv_null hx hb hc (k hu hv H locs arr hP hS hL)
set_option maxHeartbeats 1000000 in
theorem zs_9 (C : zCx p l R s m args meth c D cy A mc ms d y) (hc : zchk y pc (9, n, a, b, ix, w, z) = true) (k : zstep cl mc ms Q (zWS p l e R s m args below meth c Qf D cy A (zL y) mc ms) (9, n, a, b, ix, w, z) pc ls st h u v) : zWS p l e R s m args below meth c Qf D cy A (zL y) mc ms pc ls st h u v := by
  obtain ⟨⟨hx, hb, hml, hr, hlk, hnm, hown⟩, hts, hF, hA, ⟨hR1, hR2, hR3, hR4⟩, hnt, hex⟩ := C
  have hK := hF.1
  intro hu hv H locs arr hP hS hL
  simp only [zchk, decide_eq_true_eq] at hc
  simp only [zstep] at k
  obtain ⟨rfl, hc⟩ := hc
  obtain ⟨x, h1, k⟩ := k
  have ha : a < zL y := by rw [← hL.1]; exact (List.getElem?_eq_some_iff.mp h1).1
  have hm := zasc_in ls 0 a (zI x) h1
  obtain ⟨j, hj⟩ := List.getElem?_of_mem hm
  rw [Nat.zero_add] at hj
  exact lv_iinc hx hb hc hL.lv hj rfl ha rfl (fun arr' h' => k hu hv H locs arr' hP hS (hL.st1 (v := zI (x + Int32.ofInt z)) rfl h'))
set_option maxHeartbeats 1000000 in
theorem zs_10 (C : zCx p l R s m args meth c D cy A mc ms d y) (hc : zchk y pc (10, n, a, b, ix, w, z) = true) (k : zstep cl mc ms Q (zWS p l e R s m args below meth c Qf D cy A (zL y) mc ms) (10, n, a, b, ix, w, z) pc ls st h u v) : zWS p l e R s m args below meth c Qf D cy A (zL y) mc ms pc ls st h u v := by
  obtain ⟨⟨hx, hb, hml, hr, hlk, hnm, hown⟩, hts, hF, hA, ⟨hR1, hR2, hR3, hR4⟩, hnt, hex⟩ := C
  have hK := hF.1
  intro hu hv H locs arr hP hS hL
  simp only [zchk, decide_eq_true_eq] at hc
  simp only [zstep] at k
  obtain ⟨rfl, hc⟩ := hc
  obtain ⟨y, x, r, rfl, k⟩ := k
  rcases hc with ⟨rfl, hc⟩ | ⟨rfl, hc⟩ | ⟨rfl, hc⟩ | ⟨rfl, hc⟩
  · exact lv_iadd hx hb hc (k hu hv H locs arr hP hS hL)
  · exact lv_isub hx hb hc (k hu hv H locs arr hP hS hL)
  · exact lv_imul hx hb hc (k hu hv H locs arr hP hS hL)
  · exact lv_iand hx hb hc (k hu hv H locs arr hP hS hL)
set_option maxHeartbeats 1000000 in
theorem zs_11 (C : zCx p l R s m args meth c D cy A mc ms d y) (hc : zchk y pc (11, n, a, b, ix, w, z) = true) (k : zstep cl mc ms Q (zWS p l e R s m args below meth c Qf D cy A (zL y) mc ms) (11, n, a, b, ix, w, z) pc ls st h u v) : zWS p l e R s m args below meth c Qf D cy A (zL y) mc ms pc ls st h u v := by
  obtain ⟨⟨hx, hb, hml, hr, hlk, hnm, hown⟩, hts, hF, hA, ⟨hR1, hR2, hR3, hR4⟩, hnt, hex⟩ := C
  have hK := hF.1
  intro hu hv H locs arr hP hS hL
  simp only [zchk, decide_eq_true_eq] at hc
  simp only [zstep] at k
  obtain ⟨rfl, hc⟩ := hc
  obtain ⟨y, x, r, rfl, k⟩ := k
  rcases hc with ⟨rfl, hc⟩ | ⟨rfl, hc⟩ | ⟨rfl, hc⟩ | ⟨rfl, hc⟩ | ⟨rfl, hc⟩
  · exact lv_ladd hx hb hc (k hu hv H locs arr hP hS hL)
  · exact lv_lsub hx hb hc (k hu hv H locs arr hP hS hL)
  · exact lv_land hx hb hc (k hu hv H locs arr hP hS hL)
  · exact lv_lor hx hb hc (k hu hv H locs arr hP hS hL)
  · exact lv_lxor hx hb hc (k hu hv H locs arr hP hS hL)
set_option maxHeartbeats 1000000 in
theorem zs_12 (C : zCx p l R s m args meth c D cy A mc ms d y) (hc : zchk y pc (12, n, a, b, ix, w, z) = true) (k : zstep cl mc ms Q (zWS p l e R s m args below meth c Qf D cy A (zL y) mc ms) (12, n, a, b, ix, w, z) pc ls st h u v) : zWS p l e R s m args below meth c Qf D cy A (zL y) mc ms pc ls st h u v := by
  obtain ⟨⟨hx, hb, hml, hr, hlk, hnm, hown⟩, hts, hF, hA, ⟨hR1, hR2, hR3, hR4⟩, hnt, hex⟩ := C
  have hK := hF.1
  intro hu hv H locs arr hP hS hL
  simp only [zchk, decide_eq_true_eq] at hc
  simp only [zstep] at k
  obtain ⟨rfl, hc⟩ := hc
  obtain ⟨y, x, r, rfl, k⟩ := k
  rcases hc with ⟨rfl, hc⟩ | ⟨rfl, hc⟩ | ⟨rfl, hc⟩
  · exact lv_lshl hx hb hc rfl (k hu hv H locs arr hP hS hL)
  · exact lv_lshr hx hb hc rfl (k hu hv H locs arr hP hS hL)
  · exact lv_lushr hx hb hc rfl (k hu hv H locs arr hP hS hL)
set_option maxHeartbeats 1000000 in
theorem zs_13 (C : zCx p l R s m args meth c D cy A mc ms d y) (hc : zchk y pc (13, n, a, b, ix, w, z) = true) (k : zstep cl mc ms Q (zWS p l e R s m args below meth c Qf D cy A (zL y) mc ms) (13, n, a, b, ix, w, z) pc ls st h u v) : zWS p l e R s m args below meth c Qf D cy A (zL y) mc ms pc ls st h u v := by
  obtain ⟨⟨hx, hb, hml, hr, hlk, hnm, hown⟩, hts, hF, hA, ⟨hR1, hR2, hR3, hR4⟩, hnt, hex⟩ := C
  have hK := hF.1
  intro hu hv H locs arr hP hS hL
  simp only [zchk, decide_eq_true_eq] at hc
  simp only [zstep] at k
  obtain ⟨rfl, hc⟩ := hc
  rcases hc with ⟨rfl, hc⟩ | ⟨rfl, hc⟩ | ⟨rfl, hc⟩
  · obtain ⟨x, r, rfl, k⟩ := k
    exact lv_i2l hx hb hc rfl (k hu hv H locs arr hP hS hL)
  · obtain ⟨x, r, rfl, k⟩ := k
    exact lv_l2i hx hb hc rfl (k hu hv H locs arr hP hS hL)
  · obtain ⟨x, r, rfl, k⟩ := k
    exact lv_i2b hx hb hc rfl (k hu hv H locs arr hP hS hL)
set_option maxHeartbeats 1000000 in
theorem zs_14 (C : zCx p l R s m args meth c D cy A mc ms d y) (hc : zchk y pc (14, n, a, b, ix, w, z) = true) (k : zstep cl mc ms Q (zWS p l e R s m args below meth c Qf D cy A (zL y) mc ms) (14, n, a, b, ix, w, z) pc ls st h u v) : zWS p l e R s m args below meth c Qf D cy A (zL y) mc ms pc ls st h u v := by
  obtain ⟨⟨hx, hb, hml, hr, hlk, hnm, hown⟩, hts, hF, hA, ⟨hR1, hR2, hR3, hR4⟩, hnt, hex⟩ := C
  have hK := hF.1
  intro hu hv H locs arr hP hS hL
  simp only [zchk, decide_eq_true_eq] at hc
  simp only [zstep] at k
  obtain ⟨rfl, h6, hc, ht⟩ := hc
  obtain ⟨x, r, rfl, k1, k2⟩ := k
  rcases (show a = 0 ∨ a = 1 ∨ a = 2 ∨ a = 3 ∨ a = 4 ∨ a = 5 by omega) with h0 | h0 | h0 | h0 | h0 | h0 <;> subst h0
  · exact lv_if_eq hx hb hc ht (fun q => k1 q hu hv H locs arr hP hS hL) (fun q => k2 q hu hv H locs arr hP hS hL)
  · exact lv_if_ne hx hb hc ht (fun q => k1 q hu hv H locs arr hP hS hL) (fun q => k2 (fun z => z q) hu hv H locs arr hP hS hL)
  · exact lv_if_lt hx hb hc ht (fun q => k1 q hu hv H locs arr hP hS hL) (fun q => k2 q hu hv H locs arr hP hS hL)
  · exact lv_if_ge hx hb hc ht (fun q => k1 q hu hv H locs arr hP hS hL) (fun q => k2 q hu hv H locs arr hP hS hL)
  · exact lv_if_gt hx hb hc ht (fun q => k1 q hu hv H locs arr hP hS hL) (fun q => k2 q hu hv H locs arr hP hS hL)
  · exact lv_if_le hx hb hc ht (fun q => k1 q hu hv H locs arr hP hS hL) (fun q => k2 q hu hv H locs arr hP hS hL)
set_option maxHeartbeats 1000000 in
theorem zs_15 (C : zCx p l R s m args meth c D cy A mc ms d y) (hc : zchk y pc (15, n, a, b, ix, w, z) = true) (k : zstep cl mc ms Q (zWS p l e R s m args below meth c Qf D cy A (zL y) mc ms) (15, n, a, b, ix, w, z) pc ls st h u v) : zWS p l e R s m args below meth c Qf D cy A (zL y) mc ms pc ls st h u v := by
  obtain ⟨⟨hx, hb, hml, hr, hlk, hnm, hown⟩, hts, hF, hA, ⟨hR1, hR2, hR3, hR4⟩, hnt, hex⟩ := C
  have hK := hF.1
  intro hu hv H locs arr hP hS hL
  simp only [zchk, decide_eq_true_eq] at hc
  simp only [zstep] at k
  obtain ⟨rfl, h6, hc, ht⟩ := hc
  obtain ⟨y, x, r, rfl, k1, k2⟩ := k
  rcases (show a = 0 ∨ a = 1 ∨ a = 2 ∨ a = 3 ∨ a = 4 ∨ a = 5 by omega) with h0 | h0 | h0 | h0 | h0 | h0 <;> subst h0
  · exact lv_icmp_eq hx hb hc ht (fun q => k1 q hu hv H locs arr hP hS hL) (fun q => k2 q hu hv H locs arr hP hS hL)
  · exact lv_icmp_ne hx hb hc ht (fun q => k1 q hu hv H locs arr hP hS hL) (fun q => k2 (fun z => z q) hu hv H locs arr hP hS hL)
  · exact lv_icmp_lt hx hb hc ht (fun q => k1 q hu hv H locs arr hP hS hL) (fun q => k2 q hu hv H locs arr hP hS hL)
  · exact lv_icmp_ge hx hb hc ht (fun q => k1 q hu hv H locs arr hP hS hL) (fun q => k2 q hu hv H locs arr hP hS hL)
  · exact lv_icmp_gt hx hb hc ht (fun q => k1 q hu hv H locs arr hP hS hL) (fun q => k2 q hu hv H locs arr hP hS hL)
  · exact lv_icmp_le hx hb hc ht (fun q => k1 q hu hv H locs arr hP hS hL) (fun q => k2 q hu hv H locs arr hP hS hL)
set_option maxHeartbeats 1000000 in
theorem zs_16 (C : zCx p l R s m args meth c D cy A mc ms d y) (hc : zchk y pc (16, n, a, b, ix, w, z) = true) (k : zstep cl mc ms Q (zWS p l e R s m args below meth c Qf D cy A (zL y) mc ms) (16, n, a, b, ix, w, z) pc ls st h u v) : zWS p l e R s m args below meth c Qf D cy A (zL y) mc ms pc ls st h u v := by
  obtain ⟨⟨hx, hb, hml, hr, hlk, hnm, hown⟩, hts, hF, hA, ⟨hR1, hR2, hR3, hR4⟩, hnt, hex⟩ := C
  have hK := hF.1
  intro hu hv H locs arr hP hS hL
  simp only [zchk, decide_eq_true_eq] at hc
  simp only [zstep] at k
  obtain ⟨hc, ht⟩ := hc
  exact lv_goto hx hb hc ht (k hu hv H locs arr hP hS hL)
set_option maxHeartbeats 1000000 in
theorem zs_17 (C : zCx p l R s m args meth c D cy A mc ms d y) (hc : zchk y pc (17, n, a, b, ix, w, z) = true) (k : zstep cl mc ms Q (zWS p l e R s m args below meth c Qf D cy A (zL y) mc ms) (17, n, a, b, ix, w, z) pc ls st h u v) : zWS p l e R s m args below meth c Qf D cy A (zL y) mc ms pc ls st h u v := by
  obtain ⟨⟨hx, hb, hml, hr, hlk, hnm, hown⟩, hts, hF, hA, ⟨hR1, hR2, hR3, hR4⟩, hnt, hex⟩ := C
  have hK := hF.1
  intro hu hv H locs arr hP hS hL
  simp only [zchk, decide_eq_true_eq] at hc
  simp only [zstep] at k
  obtain ⟨rfl, hc, ht⟩ := hc
  obtain ⟨q, r, rfl, k1, k2⟩ := k
  cases q with
  | none => exact lv_ifnullN hx hb hc ht (k1 rfl hu hv H locs arr hP hS hL)
  | some q => exact lv_ifnull hx hb hc (k2 (fun z => by cases z) hu hv H locs arr hP hS hL)
set_option maxHeartbeats 1000000 in
theorem zs_18 (C : zCx p l R s m args meth c D cy A mc ms d y) (hc : zchk y pc (18, n, a, b, ix, w, z) = true) (k : zstep cl mc ms Q (zWS p l e R s m args below meth c Qf D cy A (zL y) mc ms) (18, n, a, b, ix, w, z) pc ls st h u v) : zWS p l e R s m args below meth c Qf D cy A (zL y) mc ms pc ls st h u v := by
  obtain ⟨⟨hx, hb, hml, hr, hlk, hnm, hown⟩, hts, hF, hA, ⟨hR1, hR2, hR3, hR4⟩, hnt, hex⟩ := C
  have hK := hF.1
  intro hu hv H locs arr hP hS hL
  simp only [zchk, decide_eq_true_eq] at hc
  simp only [zstep] at k
  obtain ⟨rfl, hc, ht⟩ := hc
  obtain ⟨q, r, rfl, k1, k2⟩ := k
  cases q with
  | none => exact lv_ifnonnullN hx hb hc (k2 rfl hu hv H locs arr hP hS hL)
  | some q => exact lv_ifnonnull hx hb hc ht (k1 (fun z => by cases z) hu hv H locs arr hP hS hL)
set_option maxHeartbeats 1000000 in
theorem zs_19 (C : zCx p l R s m args meth c D cy A mc ms d y) (hc : zchk y pc (19, n, a, b, ix, w, z) = true) (k : zstep cl mc ms Q (zWS p l e R s m args below meth c Qf D cy A (zL y) mc ms) (19, n, a, b, ix, w, z) pc ls st h u v) : zWS p l e R s m args below meth c Qf D cy A (zL y) mc ms pc ls st h u v := by
  obtain ⟨⟨hx, hb, hml, hr, hlk, hnm, hown⟩, hts, hF, hA, ⟨hR1, hR2, hR3, hR4⟩, hnt, hex⟩ := C
  have hK := hF.1
  intro hu hv H locs arr hP hS hL
  simp only [zchk, decide_eq_true_eq] at hc
  simp only [zstep] at k
  obtain ⟨rfl, hc⟩ := hc
  obtain ⟨y, x, r, rfl, k⟩ := k
  exact W.lcmp hx hb hc (k hu hv H locs arr hP hS hL)
set_option maxHeartbeats 1000000 in
theorem zs_20 (C : zCx p l R s m args meth c D cy A mc ms d y) (hc : zchk y pc (20, n, a, b, ix, w, z) = true) (k : zstep cl mc ms Q (zWS p l e R s m args below meth c Qf D cy A (zL y) mc ms) (20, n, a, b, ix, w, z) pc ls st h u v) : zWS p l e R s m args below meth c Qf D cy A (zL y) mc ms pc ls st h u v := by
  obtain ⟨⟨hx, hb, hml, hr, hlk, hnm, hown⟩, hts, hF, hA, ⟨hR1, hR2, hR3, hR4⟩, hnt, hex⟩ := C
  have hK := hF.1
  intro hu hv H locs arr hP hS hL
  simp only [zchk, decide_eq_true_eq] at hc
  simp only [zstep] at k
  obtain ⟨rfl, hc⟩ := hc
  obtain ⟨v1, r, rfl, h1, k⟩ := k
  exact lv_dup hx hb hc (by rw [zcat_val]; exact h1) (k hu hv H locs arr hP hS hL)
set_option maxHeartbeats 1000000 in
theorem zs_21 (C : zCx p l R s m args meth c D cy A mc ms d y) (hc : zchk y pc (21, n, a, b, ix, w, z) = true) (k : zstep cl mc ms Q (zWS p l e R s m args below meth c Qf D cy A (zL y) mc ms) (21, n, a, b, ix, w, z) pc ls st h u v) : zWS p l e R s m args below meth c Qf D cy A (zL y) mc ms pc ls st h u v := by
  obtain ⟨⟨hx, hb, hml, hr, hlk, hnm, hown⟩, hts, hF, hA, ⟨hR1, hR2, hR3, hR4⟩, hnt, hex⟩ := C
  have hK := hF.1
  intro hu hv H locs arr hP hS hL
  simp only [zchk, decide_eq_true_eq] at hc
  simp only [zstep] at k
  obtain ⟨rfl, hc⟩ := hc
  obtain ⟨v1, v2, r, rfl, h1, h2, k⟩ := k
  exact lv_dup2_11 hx hb hc (by rw [zcat_val]; exact h1) (by rw [zcat_val]; exact h2) (k hu hv H locs arr hP hS hL)
set_option maxHeartbeats 1000000 in
theorem zs_22 (C : zCx p l R s m args meth c D cy A mc ms d y) (hc : zchk y pc (22, n, a, b, ix, w, z) = true) (k : zstep cl mc ms Q (zWS p l e R s m args below meth c Qf D cy A (zL y) mc ms) (22, n, a, b, ix, w, z) pc ls st h u v) : zWS p l e R s m args below meth c Qf D cy A (zL y) mc ms pc ls st h u v := by
  obtain ⟨⟨hx, hb, hml, hr, hlk, hnm, hown⟩, hts, hF, hA, ⟨hR1, hR2, hR3, hR4⟩, hnt, hex⟩ := C
  have hK := hF.1
  intro hu hv H locs arr hP hS hL
  simp only [zchk, decide_eq_true_eq] at hc
  simp only [zstep] at k
  obtain ⟨rfl, hc⟩ := hc
  obtain ⟨v1, r, rfl, h1, k⟩ := k
  exact lv_pop hx hb hc (by rw [zcat_val]; exact h1) (k hu hv H locs arr hP hS hL)
set_option maxHeartbeats 1000000 in
theorem zs_23 (C : zCx p l R s m args meth c D cy A mc ms d y) (hc : zchk y pc (23, n, a, b, ix, w, z) = true) (k : zstep cl mc ms Q (zWS p l e R s m args below meth c Qf D cy A (zL y) mc ms) (23, n, a, b, ix, w, z) pc ls st h u v) : zWS p l e R s m args below meth c Qf D cy A (zL y) mc ms pc ls st h u v := by
  obtain ⟨⟨hx, hb, hml, hr, hlk, hnm, hown⟩, hts, hF, hA, ⟨hR1, hR2, hR3, hR4⟩, hnt, hex⟩ := C
  have hK := hF.1
  intro hu hv H locs arr hP hS hL
  simp only [zchk, decide_eq_true_eq] at hc
  simp only [zstep] at k
  obtain ⟨rfl, hc, ha, hbk, hw⟩ := hc
  obtain ⟨q, r, fs, v1, rfl, h1, h2, k⟩ := k
  obtain ⟨L, hP0, hD, hdom⟩ := hP
  obtain ⟨k0, hk, hk'⟩ := zpl_at (cy := cy) hdom h1
  exact va_get hx hb hts (zcls_in ha) hown hK hP0 k0 hk' (zcls_at ha) b hbk (hts _ (zin_mem hw)) (fun _ h9 => h9) (v := zval v1) (by rw [List.getElem?_map, h2]; rfl) hc (k hu hv H locs arr ⟨L, hP0, hD, hdom⟩ hS hL)
set_option maxHeartbeats 1000000 in
theorem zs_24 (C : zCx p l R s m args meth c D cy A mc ms d y) (hc : zchk y pc (24, n, a, b, ix, w, z) = true) (k : zstep cl mc ms Q (zWS p l e R s m args below meth c Qf D cy A (zL y) mc ms) (24, n, a, b, ix, w, z) pc ls st h u v) : zWS p l e R s m args below meth c Qf D cy A (zL y) mc ms pc ls st h u v := by
  obtain ⟨⟨hx, hb, hml, hr, hlk, hnm, hown⟩, hts, hF, hA, ⟨hR1, hR2, hR3, hR4⟩, hnt, hex⟩ := C
  have hK := hF.1
  intro hu hv H locs arr hP hS hL
  simp only [zchk, decide_eq_true_eq] at hc
  simp only [zstep] at k
  obtain ⟨rfl, hc, ha, hbk, hw, hz, hfin⟩ := hc
  obtain ⟨v1, q, r, fs, rfl, h1, h2, h3, k⟩ := k
  obtain ⟨L, hP0, hD, hdom⟩ := hP
  obtain ⟨k0, hk, hk'⟩ := zpl_at (cy := cy) hdom h1
  have hd := zcls_ty ha b hbk
  have hn : narrow (zty a b) (zval v1) = zval v1 ∧ fits (zty a b) (zval v1) = true := by
    unfold zfty at hz
    unfold zfit at h3
    split at hz
    · obtain ⟨x, rfl⟩ := h3
      rw [of_decide_eq_true hz]
      exact ⟨rfl, rfl⟩
    · obtain ⟨x, rfl, h9⟩ := h3
      rw [of_decide_eq_true hz]
      exact zb01 h9
    · obtain ⟨x, rfl⟩ := h3
      rw [of_decide_eq_true hz]
      exact ⟨rfl, rfl⟩
    · split at h3
      all_goals first | contradiction | skip
      obtain ⟨x, rfl⟩ := h3
      split at hz
      · rename_i h9; rw [h9]; cases x <;> exact ⟨rfl, rfl⟩
      · rename_i h9; rw [h9]; cases x <;> exact ⟨rfl, rfl⟩
      · cases hz
  have go : ∀ (H1 : Heap) (locs1 : List Loc), va_P D zCL ((va_pl L (zgr cy h)).set k0 (q, .inr (a, (fs.map zval).set b (zval v1)))) H1 → va_D A ((va_pl L (zgr cy h)).set k0 (q, .inr (a, (fs.map zval).set b (zval v1)))) → va_S A s.heap H1 locs1 → W p l e R s m args below meth c H1 locs1 u v Qf (F0 m (pc + 3) arr (r.map zval)) := by
    intro H1 locs1 g1 g2 g3
    rw [← List.map_set] at g1 g2
    exact k hu hv H1 locs1 arr (zRep.set (zO a (fs.set b v1)) hD hdom h1 hk g1 g2) g3 hL
  by_cases hf : ((zcls a).2.1 b).2.2.2 = false
  · exact va_put hx hb hts (zcls_in ha) (zty a) (zcls_ty ha) (zcls_nm ha) hown hK hP0 hD hS k0 hk' (zcls_at ha) b hbk (hts _ (zin_mem hw)) (fun _ h9 => h9) hf hd hn.1 hn.2 (by rw [List.length_map]; exact h2) hc go
  · have h9 := hfin.resolve_left hf
    exact va_putF hx hb hts (zcls_in ha) (zty a) (zcls_ty ha) (zcls_nm ha) hown hK hP0 hD hS k0 hk' (zcls_at ha) b hbk (hts _ (zin_mem hw)) (fun _ h9 => h9) (by cases hq : ((zcls a).2.1 b).2.2.2 <;> first | exact absurd hq hf | rfl) (by rw [hnm]; exact h9.1) h9.2 hd hn.1 hn.2 (by rw [List.length_map]; exact h2) hc go
set_option maxHeartbeats 1000000 in
theorem zs_25 (C : zCx p l R s m args meth c D cy A mc ms d y) (hc : zchk y pc (25, n, a, b, ix, w, z) = true) (k : zstep cl mc ms Q (zWS p l e R s m args below meth c Qf D cy A (zL y) mc ms) (25, n, a, b, ix, w, z) pc ls st h u v) : zWS p l e R s m args below meth c Qf D cy A (zL y) mc ms pc ls st h u v := by
  obtain ⟨⟨hx, hb, hml, hr, hlk, hnm, hown⟩, hts, hF, hA, ⟨hR1, hR2, hR3, hR4⟩, hnt, hex⟩ := C
  have hK := hF.1
  intro hu hv H locs arr hP hS hL
  simp only [zchk, decide_eq_true_eq] at hc
  simp only [zstep] at k
  obtain ⟨rfl, hc⟩ := hc
  obtain ⟨i, q, r, m1, f, rfl, h1, h2, k⟩ := k
  obtain ⟨L, hP0, hD, hdom⟩ := hP
  obtain ⟨k0, hk, hk'⟩ := zpl_at (cy := cy) hdom h1
  rcases hc with ⟨rfl, hc⟩ | ⟨rfl, hc⟩ | ⟨rfl, hc⟩
  · exact va_bald hx hb hK hP0 k0 0 hk' rfl h2 hc (k hu hv H locs arr ⟨L, hP0, hD, hdom⟩ hS hL)
  · exact va_iald hx hb hK hP0 k0 1 hk' rfl h2 hc (k hu hv H locs arr ⟨L, hP0, hD, hdom⟩ hS hL)
  · exact va_zald hx hb hK hP0 k0 3 hk' rfl h2 hc (k hu hv H locs arr ⟨L, hP0, hD, hdom⟩ hS hL)
set_option maxHeartbeats 1000000 in
theorem zs_26 (C : zCx p l R s m args meth c D cy A mc ms d y) (hc : zchk y pc (26, n, a, b, ix, w, z) = true) (k : zstep cl mc ms Q (zWS p l e R s m args below meth c Qf D cy A (zL y) mc ms) (26, n, a, b, ix, w, z) pc ls st h u v) : zWS p l e R s m args below meth c Qf D cy A (zL y) mc ms pc ls st h u v := by
  obtain ⟨⟨hx, hb, hml, hr, hlk, hnm, hown⟩, hts, hF, hA, ⟨hR1, hR2, hR3, hR4⟩, hnt, hex⟩ := C
  have hK := hF.1
  intro hu hv H locs arr hP hS hL
  simp only [zchk, decide_eq_true_eq] at hc
  simp only [zstep] at k
  obtain ⟨rfl, hc⟩ := hc
  obtain ⟨x, i, q, r, m1, f, rfl, h1, h2, k⟩ := k
  obtain ⟨L, hP0, hD, hdom⟩ := hP
  obtain ⟨k0, hk, hk'⟩ := zpl_at (cy := cy) hdom h1
  rcases hc with ⟨rfl, hc⟩ | ⟨rfl, hc⟩ | ⟨rfl, hc⟩
  · refine va_bast hx hb hK hP0 hD hS k0 0 hk' rfl h2 hc (fun H1 locs1 g1 g2 g3 => ?_)
    rw [vp_nar_byte] at g1 g2
    exact k hu hv H1 locs1 arr (zRep.set (zaI 0 m1 (upd f i.toNatClampNeg (znar 0 x))) hD hdom h1 hk g1 g2) g3 hL
  · exact va_iast hx hb hK hP0 hD hS k0 1 hk' rfl h2 hc (fun H1 locs1 g1 g2 g3 => k hu hv H1 locs1 arr (zRep.set (zaI 1 m1 (upd f i.toNatClampNeg (znar 1 x))) hD hdom h1 hk g1 g2) g3 hL)
  · exact va_zast hx hb hK hP0 hD hS k0 3 hk' rfl h2 hc (fun H1 locs1 g1 g2 g3 => k hu hv H1 locs1 arr (zRep.set (zaI 3 m1 (upd f i.toNatClampNeg (znar 3 x))) hD hdom h1 hk g1 g2) g3 hL)
set_option maxHeartbeats 1000000 in
theorem zs_27 (C : zCx p l R s m args meth c D cy A mc ms d y) (hc : zchk y pc (27, n, a, b, ix, w, z) = true) (k : zstep cl mc ms Q (zWS p l e R s m args below meth c Qf D cy A (zL y) mc ms) (27, n, a, b, ix, w, z) pc ls st h u v) : zWS p l e R s m args below meth c Qf D cy A (zL y) mc ms pc ls st h u v := by
  obtain ⟨⟨hx, hb, hml, hr, hlk, hnm, hown⟩, hts, hF, hA, ⟨hR1, hR2, hR3, hR4⟩, hnt, hex⟩ := C
  have hK := hF.1
  intro hu hv H locs arr hP hS hL
  simp only [zchk, decide_eq_true_eq] at hc
  simp only [zstep] at k
  obtain ⟨rfl, hc⟩ := hc
  obtain ⟨i, q, r, m1, f, rfl, h1, h2, k⟩ := k
  obtain ⟨L, hP0, hD, hdom⟩ := hP
  obtain ⟨k0, hk, hk'⟩ := zpl_at (cy := cy) hdom h1
  exact va_lald hx hb hK hP0 k0 2 hk' rfl h2 hc (k hu hv H locs arr ⟨L, hP0, hD, hdom⟩ hS hL)
set_option maxHeartbeats 1000000 in
theorem zs_28 (C : zCx p l R s m args meth c D cy A mc ms d y) (hc : zchk y pc (28, n, a, b, ix, w, z) = true) (k : zstep cl mc ms Q (zWS p l e R s m args below meth c Qf D cy A (zL y) mc ms) (28, n, a, b, ix, w, z) pc ls st h u v) : zWS p l e R s m args below meth c Qf D cy A (zL y) mc ms pc ls st h u v := by
  obtain ⟨⟨hx, hb, hml, hr, hlk, hnm, hown⟩, hts, hF, hA, ⟨hR1, hR2, hR3, hR4⟩, hnt, hex⟩ := C
  have hK := hF.1
  intro hu hv H locs arr hP hS hL
  simp only [zchk, decide_eq_true_eq] at hc
  simp only [zstep] at k
  obtain ⟨rfl, hc⟩ := hc
  obtain ⟨x, i, q, r, m1, f, rfl, h1, h2, k⟩ := k
  obtain ⟨L, hP0, hD, hdom⟩ := hP
  obtain ⟨k0, hk, hk'⟩ := zpl_at (cy := cy) hdom h1
  exact va_last hx hb hK hP0 hD hS k0 2 hk' rfl h2 hc (fun H1 locs1 g1 g2 g3 => k hu hv H1 locs1 arr (zRep.set (zaJ m1 (vp_updL f i.toNatClampNeg x)) hD hdom h1 hk g1 g2) g3 hL)
set_option maxHeartbeats 1000000 in
theorem zs_29 (C : zCx p l R s m args meth c D cy A mc ms d y) (hc : zchk y pc (29, n, a, b, ix, w, z) = true) (k : zstep cl mc ms Q (zWS p l e R s m args below meth c Qf D cy A (zL y) mc ms) (29, n, a, b, ix, w, z) pc ls st h u v) : zWS p l e R s m args below meth c Qf D cy A (zL y) mc ms pc ls st h u v := by
  obtain ⟨⟨hx, hb, hml, hr, hlk, hnm, hown⟩, hts, hF, hA, ⟨hR1, hR2, hR3, hR4⟩, hnt, hex⟩ := C
  have hK := hF.1
  intro hu hv H locs arr hP hS hL
  simp only [zchk, decide_eq_true_eq] at hc
  simp only [zstep] at k
  obtain ⟨rfl, h4, h8, hc⟩ := hc
  obtain ⟨i, q, r, m1, f, rfl, h1, h2, k⟩ := k
  obtain ⟨L, hP0, hD, hdom⟩ := hP
  obtain ⟨k0, hk, hk'⟩ := zpl_at (cy := cy) hdom h1
  have ht : (zTY cy)[a]? = some (cy a, .object (zrcn a)) := by
    rcases (show a = 4 ∨ a = 5 ∨ a = 6 ∨ a = 7 by omega) with h | h | h | h <;> subst h <;> rfl
  exact va_aldq hx hb hK hP0 k0 a hk' ht h2 hc (k hu hv H locs arr ⟨L, hP0, hD, hdom⟩ hS hL)
set_option maxHeartbeats 1000000 in
theorem zs_30 (C : zCx p l R s m args meth c D cy A mc ms d y) (hc : zchk y pc (30, n, a, b, ix, w, z) = true) (k : zstep cl mc ms Q (zWS p l e R s m args below meth c Qf D cy A (zL y) mc ms) (30, n, a, b, ix, w, z) pc ls st h u v) : zWS p l e R s m args below meth c Qf D cy A (zL y) mc ms pc ls st h u v := by
  obtain ⟨⟨hx, hb, hml, hr, hlk, hnm, hown⟩, hts, hF, hA, ⟨hR1, hR2, hR3, hR4⟩, hnt, hex⟩ := C
  have hK := hF.1
  intro hu hv H locs arr hP hS hL
  simp only [zchk, decide_eq_true_eq] at hc
  simp only [zstep] at k
  obtain ⟨rfl, h4, h8, hb1, hb2, hc⟩ := hc
  obtain ⟨v1, i, q, r, m1, f, rfl, h1, h2, h3, k⟩ := k
  obtain ⟨L, hP0, hD, hdom⟩ := hP
  obtain ⟨k0, hk, hk'⟩ := zpl_at (cy := cy) hdom h1
  have ht : (zTY cy)[a]? = some (cy a, .object (zrcn a)) := by
    rcases (show a = 4 ∨ a = 5 ∨ a = 6 ∨ a = 7 by omega) with h | h | h | h <;> subst h <;> rfl
  cases v1 with
  | none => exact va_astqN hx hb hK hP0 hD hS k0 a hk' ht h2 hc (fun H1 locs1 g1 g2 g3 => k hu hv H1 locs1 arr (zRep.set (zaR a m1 (va_up f i.toNatClampNeg none)) hD hdom h1 hk g1 g2) g3 hL)
  | some v1 =>
    obtain ⟨fs, h5⟩ := h3 v1 rfl
    obtain ⟨k1, hk1, hk1'⟩ := zpl_at (cy := cy) hdom h5
    exact va_astq hx hb hK hP0 hD hS k0 a k1 b hk' (by rw [hb2]; exact ht) hk1' (zcls_at hb1) h2 hc (fun H1 locs1 g1 g2 g3 => k hu hv H1 locs1 arr (zRep.set (zaR a m1 (va_up f i.toNatClampNeg (some v1))) hD hdom h1 hk g1 g2) g3 hL)
set_option maxHeartbeats 1000000 in
theorem zs_31 (C : zCx p l R s m args meth c D cy A mc ms d y) (hc : zchk y pc (31, n, a, b, ix, w, z) = true) (k : zstep cl mc ms Q (zWS p l e R s m args below meth c Qf D cy A (zL y) mc ms) (31, n, a, b, ix, w, z) pc ls st h u v) : zWS p l e R s m args below meth c Qf D cy A (zL y) mc ms pc ls st h u v := by
  obtain ⟨⟨hx, hb, hml, hr, hlk, hnm, hown⟩, hts, hF, hA, ⟨hR1, hR2, hR3, hR4⟩, hnt, hex⟩ := C
  have hK := hF.1
  intro hu hv H locs arr hP hS hL
  simp only [zchk, decide_eq_true_eq] at hc
  simp only [zstep] at k
  obtain ⟨rfl, hc⟩ := hc
  obtain ⟨q, r, m1, rfl, h1, k⟩ := k
  have hP1 := hP
  obtain ⟨L, hP0, hD, hdom⟩ := hP
  cases he : h q with
  | none => rw [he] at h1; cases h1
  | some e0 =>
    obtain ⟨k0, hk, hk'⟩ := zpl_at (cy := cy) hdom he
    rw [he] at h1
    rcases e0 with ⟨kk, n1, f⟩ | ⟨kk, n1, f⟩ | ⟨kk, n1, f⟩ | ⟨ci, fs⟩
    · simp only [zlen] at h1
      split at h1
      · rename_i h9
        cases h1
        rcases (show kk = 0 ∨ kk = 1 ∨ kk = 3 by omega) with h | h | h <;> subst h
        · exact va_alen hx hb hK hP0 k0 0 hk' rfl rfl hc (k hu hv H locs arr hP1 hS hL)
        · exact va_alen hx hb hK hP0 k0 1 hk' rfl rfl hc (k hu hv H locs arr hP1 hS hL)
        · exact va_alen hx hb hK hP0 k0 3 hk' rfl rfl hc (k hu hv H locs arr hP1 hS hL)
      · cases h1
    · simp only [zlen] at h1
      split at h1
      · rename_i h9
        subst h9
        cases h1
        exact va_alen hx hb hK hP0 k0 2 hk' rfl rfl hc (k hu hv H locs arr hP1 hS hL)
      · cases h1
    · simp only [zlen] at h1
      split at h1
      · rename_i h9
        cases h1
        rcases (show kk = 4 ∨ kk = 5 ∨ kk = 6 ∨ kk = 7 by omega) with h | h | h | h <;> subst h
        · exact va_alen hx hb hK hP0 k0 4 hk' rfl rfl hc (k hu hv H locs arr hP1 hS hL)
        · exact va_alen hx hb hK hP0 k0 5 hk' rfl rfl hc (k hu hv H locs arr hP1 hS hL)
        · exact va_alen hx hb hK hP0 k0 6 hk' rfl rfl hc (k hu hv H locs arr hP1 hS hL)
        · exact va_alen hx hb hK hP0 k0 7 hk' rfl rfl hc (k hu hv H locs arr hP1 hS hL)
      · cases h1
    · cases h1
set_option maxHeartbeats 1000000 in
theorem zs_32 (C : zCx p l R s m args meth c D cy A mc ms d y) (hc : zchk y pc (32, n, a, b, ix, w, z) = true) (k : zstep cl mc ms Q (zWS p l e R s m args below meth c Qf D cy A (zL y) mc ms) (32, n, a, b, ix, w, z) pc ls st h u v) : zWS p l e R s m args below meth c Qf D cy A (zL y) mc ms pc ls st h u v := by
  obtain ⟨⟨hx, hb, hml, hr, hlk, hnm, hown⟩, hts, hF, hA, ⟨hR1, hR2, hR3, hR4⟩, hnt, hex⟩ := C
  have hK := hF.1
  intro hu hv H locs arr hP hS hL
  simp only [zchk, decide_eq_true_eq] at hc
  simp only [zstep] at k
  obtain ⟨rfl, hc, ha, rfl, hw⟩ := hc
  obtain ⟨h1, h2, k⟩ := k
  obtain ⟨L, hP0, hD, hdom⟩ := hP
  refine va_new (fs := (zdf a (zcls a).2.2).map zval) hx hb hts (zcls_in ha) (zty a) (zcls_ty ha) hown (hts _ (zin_mem hw)) (hts _ (zinst ha).1) (hts _ (zinst ha).2) hK hP0 hD hS hA (zcls_at ha) (fun j hj => by rw [zdf_at hj, znoflt ha j hj]) (by rw [hR1]; exact h1) (by rw [hR2]; exact h2) hc (fun q H1 g1 g2 g3 => ?_)
  obtain ⟨g4, g5⟩ := zRep.push (cy := cy) (zO a (zdf a (zcls a).2.2)) hdom g1 g2
  exact k q g4 h1 h2 H1 locs arr g5 g3 hL
set_option maxHeartbeats 1000000 in
theorem zs_33 (C : zCx p l R s m args meth c D cy A mc ms d y) (hc : zchk y pc (33, n, a, b, ix, w, z) = true) (k : zstep cl mc ms Q (zWS p l e R s m args below meth c Qf D cy A (zL y) mc ms) (33, n, a, b, ix, w, z) pc ls st h u v) : zWS p l e R s m args below meth c Qf D cy A (zL y) mc ms pc ls st h u v := by
  obtain ⟨⟨hx, hb, hml, hr, hlk, hnm, hown⟩, hts, hF, hA, ⟨hR1, hR2, hR3, hR4⟩, hnt, hex⟩ := C
  have hK := hF.1
  intro hu hv H locs arr hP hS hL
  simp only [zchk, decide_eq_true_eq] at hc
  simp only [zstep] at k
  obtain ⟨rfl, ha, hc⟩ := hc
  obtain ⟨i, r, rfl, h1, h2, h3, h4, k⟩ := k
  obtain ⟨L, hP0, hD, hdom⟩ := hP
  have go : ∀ (a0 : vp_A) (ty : FieldType), newarray.typeOf (zate a) = ty → ztr cy (znew a i.toNatClampNeg) = .inl (cy a, a0) → (∀ cA : ClassId, vp_cell cA a0 = arrV cA i.toNatClampNeg (fun _ => defaultValue ty)) → i.toNatClampNeg * componentBytes ty ≤ 536870912 → (∀ cA, va_RA s cA ty → cA = cy a) → W p l e R s m args below meth c H locs u v Qf (F0 m pc arr ((zI i :: r).map zval)) := by
    intro a0 ty e1 e2 e3 e4 e5
    refine va_newa hx hb (hts _ (zarrw ha)) e1 hK hP0 hD hS hA e3 h1 rfl e4 (by rw [hR1]; exact h3) (by rw [hR2]; exact h4) hc (fun q cA H1 gK g1 g2 g3 => ?_)
    have hcA : cA = cy a := e5 cA (gK.2 (zTY cy).length (cA, ty) (by simp)).2
    subst hcA
    rw [← e2] at g1 g2
    obtain ⟨g4, g5⟩ := zRep.push (cy := cy) (znew a i.toNatClampNeg) hdom g1 g2
    exact k q g4 h3 h4 H1 locs arr g5 g3 hL
  have uq : ∀ (k0 : Nat) (ty : FieldType) (cA : ClassId), (zTY cy)[k0]? = some (cy k0, ty) → (∀ c1, va_RA s c1 ty = (s.vm.findClass ("[" ++ ty.toString) = some c1)) → va_RA s cA ty → cA = cy k0 := by
    intro k0 ty cA q1 q2 q3
    have q4 := (hK.2 k0 _ q1).2
    rw [q2] at q3 q4
    exact Option.some.inj (q3.symm.trans q4)
  rcases (show a = 0 ∨ a = 1 ∨ a = 2 ∨ a = 3 by omega) with h | h | h | h <;> subst h
  · exact go (i.toNatClampNeg, .inl (fun _ => 0)) .byte rfl rfl (fun cA => rfl) (by show _ * 1 ≤ _; omega) (fun cA q => uq 0 .byte cA rfl (fun _ => rfl) q)
  · exact go (i.toNatClampNeg, .inl (fun _ => 0)) .int rfl rfl (fun cA => rfl) (by show _ * 4 ≤ _; omega) (fun cA q => uq 1 .int cA rfl (fun _ => rfl) q)
  · exact go (i.toNatClampNeg, .inr (.inl (fun _ => 0))) .long rfl rfl (fun cA => rfl) (by show _ * 8 ≤ _; omega) (fun cA q => uq 2 .long cA rfl (fun _ => rfl) q)
  · exact go (i.toNatClampNeg, .inl (fun _ => 0)) .boolean rfl rfl (fun cA => rfl) (by show _ * 1 ≤ _; omega) (fun cA q => uq 3 .boolean cA rfl (fun _ => rfl) q)
set_option maxHeartbeats 1000000 in
theorem zs_34 (C : zCx p l R s m args meth c D cy A mc ms d y) (hc : zchk y pc (34, n, a, b, ix, w, z) = true) (k : zstep cl mc ms Q (zWS p l e R s m args below meth c Qf D cy A (zL y) mc ms) (34, n, a, b, ix, w, z) pc ls st h u v) : zWS p l e R s m args below meth c Qf D cy A (zL y) mc ms pc ls st h u v := by
  obtain ⟨⟨hx, hb, hml, hr, hlk, hnm, hown⟩, hts, hF, hA, ⟨hR1, hR2, hR3, hR4⟩, hnt, hex⟩ := C
  have hK := hF.1
  intro hu hv H locs arr hP hS hL
  simp only [zchk, decide_eq_true_eq] at hc
  simp only [zstep] at k
  obtain ⟨rfl, h5, h8, hc, hw⟩ := hc
  obtain ⟨i, r, rfl, h1, h2, h3, h4, k⟩ := k
  obtain ⟨L, hP0, hD, hdom⟩ := hP
  have ht : (zTY cy)[a]? = some (cy a, .object (zrcn a)) := by
    rcases (show a = 4 ∨ a = 5 ∨ a = 6 ∨ a = 7 by omega) with h | h | h | h <;> subst h <;> rfl
  refine va_newq hx hb hown (hts _ (zin_mem hw)) (hF.2.2.1 a h5 h8) hK hP0 hD hS hA h1 rfl (by omega) (by rw [hR1]; exact h3) (by rw [hR2]; exact h4) hc (fun q cA H1 gK g1 g2 g3 => ?_)
  have hcA : cA = cy a := by
    obtain ⟨_, _, _, _, _, q1⟩ := (gK.2 (zTY cy).length (cA, .object (zrcn a)) (by simp)).2
    obtain ⟨_, _, _, _, _, q2⟩ := (hK.2 a _ ht).2
    exact Option.some.inj (q1.symm.trans q2)
  subst hcA
  obtain ⟨g4, g5⟩ := zRep.push (cy := cy) (zaR a i.toNatClampNeg (fun _ => none)) hdom g1 g2
  exact k q g4 h3 h4 H1 locs arr g5 g3 hL
set_option maxHeartbeats 1000000 in
theorem zs_39 (C : zCx p l R s m args meth c D cy A mc ms d y) (hc : zchk y pc (39, n, a, b, ix, w, z) = true) (k : zstep cl mc ms Q (zWS p l e R s m args below meth c Qf D cy A (zL y) mc ms) (39, n, a, b, ix, w, z) pc ls st h u v) : zWS p l e R s m args below meth c Qf D cy A (zL y) mc ms pc ls st h u v := by
  obtain ⟨⟨hx, hb, hml, hr, hlk, hnm, hown⟩, hts, hF, hA, ⟨hR1, hR2, hR3, hR4⟩, hnt, hex⟩ := C
  have hK := hF.1
  intro hu hv H locs arr hP hS hL
  simp only [zchk, decide_eq_true_eq] at hc
  simp only [zstep] at k
  obtain ⟨x, r, rfl, k⟩ := k
  unfold zswt at k
  cases hq : zSW[a]? with
  | none => rw [hq] at hc; cases hc
  | some q =>
    obtain ⟨dd, lo, hi, offs, tg⟩ := q
    rw [hq] at hc k
    dsimp only at k
    simp only [decide_eq_true_eq] at hc
    obtain ⟨hc, hd, hlen, hsz, hmap⟩ := hc
    by_cases ho : x.toInt < lo ∨ hi < x.toInt
    · rw [if_pos ho] at k
      exact lv_tableOut hx hb hc ho hd (k hu hv H locs arr hP hS hL)
    · rw [if_neg ho] at k
      have h1 : ¬ x.toInt < lo := fun z => ho (Or.inl z)
      have h2 : ¬ hi < x.toInt := fun z => ho (Or.inr z)
      have hlt : (x.toInt - lo).toNat < offs.length := by omega
      have hlt2 : (x.toInt - lo).toNat < tg.length := by omega
      refine lv_tableIn (off := offs[(x.toInt - lo).toNat]) (tgt := tg.getD (x.toInt - lo).toNat 0) hx hb hc h1 h2 (by simp [hlt]) ?_ (k hu hv H locs arr hP hS hL)
      have h3 := congrArg (fun t => t[(x.toInt - lo).toNat]?) hmap
      simp only [List.getElem?_map, List.getElem?_eq_getElem hlt, List.getElem?_eq_getElem hlt2, Option.map_some, Option.some.injEq] at h3
      rw [h3, List.getD_eq_getElem?_getD, List.getElem?_eq_getElem hlt2]
      rfl
set_option maxHeartbeats 1000000 in
theorem zs_40 (C : zCx p l R s m args meth c D cy A mc ms d y) (hc : zchk y pc (40, n, a, b, ix, w, z) = true) (k : zstep cl mc ms Q (zWS p l e R s m args below meth c Qf D cy A (zL y) mc ms) (40, n, a, b, ix, w, z) pc ls st h u v) : zWS p l e R s m args below meth c Qf D cy A (zL y) mc ms pc ls st h u v := by
  obtain ⟨⟨hx, hb, hml, hr, hlk, hnm, hown⟩, hts, hF, hA, ⟨hR1, hR2, hR3, hR4⟩, hnt, hex⟩ := C
  have hK := hF.1
  intro hu hv H locs arr hP hS hL
  simp only [zchk, decide_eq_true_eq] at hc
  simp only [zstep] at k
  obtain ⟨rfl, hc, hw⟩ := hc
  obtain ⟨q, r, rfl, h1, k⟩ := k
  refine W.objInit hx hb hown (hts _ (zin_mem hw)) (hts _ zobjw.1) (hts _ zobjw.2) rfl (by show arr.size = _; rw [hL.2.1, hml]) rfl hc (by omega) ?_ (k hu hv H locs arr hP hS hL)
  have := zmap_sum r
  show 2 * 0 + _ + 12 ≤ _
  omega
set_option maxHeartbeats 1000000 in
theorem zs_44 (C : zCx p l R s m args meth c D cy A mc ms d y) (hc : zchk y pc (44, n, a, b, ix, w, z) = true) (k : zstep cl mc ms Q (zWS p l e R s m args below meth c Qf D cy A (zL y) mc ms) (44, n, a, b, ix, w, z) pc ls st h u v) : zWS p l e R s m args below meth c Qf D cy A (zL y) mc ms pc ls st h u v := by
  obtain ⟨⟨hx, hb, hml, hr, hlk, hnm, hown⟩, hts, hF, hA, ⟨hR1, hR2, hR3, hR4⟩, hnt, hex⟩ := C
  have hK := hF.1
  intro hu hv H locs arr hP hS hL
  simp only [zchk, decide_eq_true_eq] at hc
  simp only [zstep] at k
  obtain ⟨rfl, ha, hc, hw⟩ := hc
  obtain ⟨N, I1, p1, I2, p2, r, m1, f, m2, g, rfl, h1, h2, h3, h4, h5, h6, h7, h8, h9, k⟩ := k
  obtain ⟨L, hP0, hD, hdom⟩ := hP
  obtain ⟨k1, hk1, hk1'⟩ := zpl_at (cy := cy) hdom h3
  obtain ⟨k2, hk2, hk2'⟩ := zpl_at (cy := cy) hdom h4
  have hsum := zmap_sum r
  have h13 : nativeFrameWords "java/lang/System" "arraycopy" 5 = 7 := by decide +kernel
  have hloc : ((r.map zval).map fun v => v.category).sum + (nativeFrameWords "java/lang/System" "arraycopy" 5 + 11) ≤ R.locals := by rw [h13]; omega
  rcases (show a = 0 ∨ a = 1 by omega) with h | h <;> subst h
  · exact va_copyi hx hb (by rw [hml, hL.2.1]) hown (hts _ (zin_mem hw)) (hts _ zcpyw.1) (hts _ zcpyw.2.1) (hts _ zcpyw.2.2) hK hP0 hD hS k1 k2 0 0 hk1' hk2' rfl rfl rfl h5 h6 h7 h8 h9 h2 (by omega) hloc hc (fun H1 locs1 g1 g2 g3 => k hu hv H1 locs1 arr (zRep.set (zaI 0 m2 (va_cpy f g I1.toNatClampNeg I2.toNatClampNeg N.toNatClampNeg)) hD hdom h4 hk2 g1 g2) g3 hL)
  · exact va_copyi hx hb (by rw [hml, hL.2.1]) hown (hts _ (zin_mem hw)) (hts _ zcpyw.1) (hts _ zcpyw.2.1) (hts _ zcpyw.2.2) hK hP0 hD hS k1 k2 1 1 hk1' hk2' rfl rfl rfl h5 h6 h7 h8 h9 h2 (by omega) hloc hc (fun H1 locs1 g1 g2 g3 => k hu hv H1 locs1 arr (zRep.set (zaI 1 m2 (va_cpy f g I1.toNatClampNeg I2.toNatClampNeg N.toNatClampNeg)) hD hdom h4 hk2 g1 g2) g3 hL)
set_option maxHeartbeats 1000000 in
theorem zs_45 (C : zCx p l R s m args meth c D cy A mc ms d y) (hc : zchk y pc (45, n, a, b, ix, w, z) = true) (k : zstep cl mc ms Q (zWS p l e R s m args below meth c Qf D cy A (zL y) mc ms) (45, n, a, b, ix, w, z) pc ls st h u v) : zWS p l e R s m args below meth c Qf D cy A (zL y) mc ms pc ls st h u v := by
  obtain ⟨⟨hx, hb, hml, hr, hlk, hnm, hown⟩, hts, hF, hA, ⟨hR1, hR2, hR3, hR4⟩, hnt, hex⟩ := C
  have hK := hF.1
  intro hu hv H locs arr hP hS hL
  simp only [zchk, decide_eq_true_eq] at hc
  simp only [zstep] at k
  obtain ⟨rfl, hc, hw⟩ := hc
  obtain ⟨y1, x, r, rfl, h1, k⟩ := k
  have hsum := zmap_sum r
  exact va_mmin hx hb (by rw [hml, hL.2.1]) hown (hts _ (zin_mem hw)) (hts _ zminw.1) (hts _ zminw.2.1) (hts _ zminw.2.2) (by omega) (by omega) (by omega) (by omega) hc (k hu hv H locs arr hP hS hL)
end
