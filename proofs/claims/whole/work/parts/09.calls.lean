/-! Calls, returns, throws; every run of the pure machine is a contract of the real one. -/
def zrm (d mc ms : Nat) : Room := { frames := d + 7, cells := mc, slots := ms, locals := 60 * d + 200 }
def zws (j : Nat) : List Cond := Cond.code (zN j) (zC j) (zL j) (zRt j) :: zTBL
def zPc (D : va_G) (cy : Nat → ClassId) (A : Nat → Prop) (as : List zV) (h : zH) : Array Value → State → Prop := fun a U => a = (as.map zval).toArray ∧ zRep D cy A h U.heap ∧ zFix D cy A U ∧ ∀ q, U.heap.size ≤ q → A q
def zQc (D : va_G) (cy : Nat → ClassId) (A : Nat → Prop) (Q : zQ) : Array Value → State → Outcome → State → Prop := fun _ st o t => ∃ r h', o = .returned (Option.map zval r) ∧ Q h' (.inl r) ∧ zRep D cy A h' t.heap ∧ va_F A st t
def zXc (D : va_G) (cy : Nat → ClassId) (A : Nat → Prop) (Q : zQ) : String → State → State → Prop := fun E st t => ∃ k h', k < 4 ∧ E = zexc k ∧ Q h' (.inr k) ∧ zRep D cy A h' t.heap ∧ va_F A st t
def zIH (l : Launch) (D : va_G) (cy : Nat → ClassId) (A : Nat → Prop) (d : Nat) : Prop := ∀ j as h mc ms Q, j < 152 → zCall d j as h mc ms Q → vx_Met l (zN j) (zws j) (zrm d mc ms) (zPc D cy A as h) (zQc D cy A Q) (zXc D cy A Q) mc ms A
theorem zMet_of {l : Launch} {y : MethodName} {ws : List Cond} {rm : Room} {Pc : Array Value → State → Prop} {Qc : Array Value → State → Outcome → State → Prop} {XC : String → State → State → Prop} {mc ms : Nat} {free : Addr → Prop} (hM : vx_Met l y ws rm Pc Qc XC mc ms free) (hX : ∀ E st t, ¬ XC E st t) : Met l y ws rm Pc Qc mc ms free := by
  intro p e h1 h2 h3 s m args below h4 h5 h6 h7
  obtain ⟨n, o, g1, g2, g3, g4⟩ := hM p e h1 h2 h3 s m args below h4 h5 h6 h7
  refine ⟨n, o, g1, g2, g3, ?_⟩
  rcases g4 with g4 | ⟨q, -, E, ce, L, g5, -⟩
  · exact g4
  · exact absurd g5 (hX _ _ _)
theorem zFix.blind {D : va_G} {cy : Nat → ClassId} {A : Nat → Prop} {U : State} {g : JFrame} {mk : MethodId} {a : Array Value} (h : zFix D cy A U) : zFix D cy A (U.calling g mk a) :=
  ⟨va_K.moved (u := U) (U := U.calling g mk a) (Vm.Alike.refl U.vm) h.1, fun q hq => va_Nw.same rfl (rfl : U.vm = (U.calling g mk a).vm) (h.2.1 q hq), fun k h1 h2 => va_AO.moved (u := U) (U := U.calling g mk a) (Vm.Alike.refl U.vm) (h.2.2.1 k h1 h2), vx_Zq.moved (u := U) (U := U.calling g mk a) (Vm.Alike.refl U.vm) h.2.2.2.1, vx_Zq.moved (u := U) (U := U.calling g mk a) (Vm.Alike.refl U.vm) h.2.2.2.2.1, fun k hk => va_Nw.same rfl (rfl : U.vm = (U.calling g mk a).vm) (h.2.2.2.2.2.1 k hk), fun x hx => va_Nw.same rfl (rfl : U.vm = (U.calling g mk a).vm) (h.2.2.2.2.2.2 x hx)⟩
theorem zblind {D : va_G} {cy : Nat → ClassId} {A : Nat → Prop} {as : List zV} {h : zH} : FrameBlind (zPc D cy A as h) := fun a U g mk ⟨q1, q2, q3, q4⟩ => ⟨q1, q2, q3.blind, q4⟩
section
variable {p : Program} {l : Launch} {e : Env} {R : Room} {s : State} {m : MethodId} {args : Array Value} {below : List Frame} {meth : Method} {c : Code} {Qf : State → Prop} {D : va_G} {cy : Nat → ClassId} {A : Nat → Prop} {mc ms d y : Nat} {cl : Nat → List zV → zH → Nat → Nat → zQ → Prop} {Q : zQ} {n a b ix w : Nat} {z : Int} {pc : Nat} {ls : List (Option zV)} {st : List zV} {h : zH} {u v : Nat}
theorem zafter {H : Heap} {locs : List Loc} {arr : Array Slot} {r st0 : List Value} {rz : List zV} {mc' ms' : Nat} {av : Array Value} {X : zX} (hr : va_Run p l e R s m args below meth c H locs u v mc' ms' (F0 m pc arr st0) r (zQc D cy A (zaft X (pc + 3) ls rz (u + mc') (v + ms')) av) A) (hS : va_S A s.heap H locs)
    (kk : ∀ (o : Option zV) (h1 : zH) (H1 : Heap) (locs1 : List Loc), zaft X (pc + 3) ls rz (u + mc') (v + ms') h1 (.inl o) → zRep D cy A h1 H1 → va_S A s.heap H1 locs1 → W p l e R s m args below meth c H1 locs1 (u + mc') (v + ms') Qf (F0 m (pc + 3) arr ((Option.map zval o).toList ++ r))) :
    W p l e R s m args below meth c H locs u v Qf (F0 m pc arr st0) := by
  intro T hT X0
  obtain ⟨vv, st₀, t, T', L, h0, X', hL, e1, e2, ⟨o, h1, ho, hq, hrep, hz, hk⟩, stp⟩ := hr T hT X0
  have ho : vv = Option.map zval o := by cases ho; rfl
  subst ho
  rw [h0] at hz hk
  obtain ⟨t2, a1, b1⟩ := kk o h1 T'.heap (locs ++ L) hq (by rw [e1]; exact hrep)
    ⟨Nat.le_trans hS.1 (by rw [e1]; exact hz), fun q g1 g2 => by rw [e1, hk q (Nat.lt_of_lt_of_le g1 hS.1) g2]; exact hS.2.1 q g1 g2, fun q hq => by
      rcases List.mem_append.mp hq with h | h
      · exact hS.2.2 q h
      · exact hL q h⟩ T' rfl X'
  exact ⟨t2, stp t2 a1, b1⟩
theorem zmck_spec {j : Nat} (hj : zmck j = true) : plainName (zN j).cls = true ∧ ((zN j).cls ≠ "java/lang/invoke/MethodHandle" ∧ (zN j).cls ≠ "java/lang/invoke/VarHandle") ∧ (parseMethodDescriptor (zN j).desc).map (fun d => d.parameters.length) = some (zn j) ∧ zL j ≤ 40 ∧ Cond.code (zN j) (zC j) (zL j) (zRt j) ∈ zTBL ∧ Cond.initialized (zN j).cls ∈ zTBL ∧ (zK j = 0 → Cond.instanceMethod (zN j) ∈ zTBL ∧ Cond.selects (zN j).cls (zN j) (zN j) ∈ zTBL ∧ zci j < 11 ∧ (zcls (zci j)).1 = (zN j).cls) ∧ (zK j = 1 → Cond.static (zN j) ∈ zTBL) ∧ (zK j = 2 → Cond.instanceMethod (zN j) ∈ zTBL ∧ (zN j).name = "<init>" ∧ zRt j = none) := by
  unfold zmck at hj
  simp only [Bool.and_eq_true, decide_eq_true_eq] at hj
  obtain ⟨⟨⟨⟨⟨⟨h1, h2⟩, h3⟩, h4⟩, h5⟩, h6⟩, h7⟩ := hj
  refine ⟨h1, h2, h3, h4, zin_mem h5, zin_mem h6, fun q => ?_, fun q => ?_, fun q => ?_⟩
  · rw [q] at h7
    simp only [Bool.and_eq_true, decide_eq_true_eq] at h7
    exact ⟨zin_mem h7.1.1, zin_mem h7.1.2, h7.2⟩
  · rw [q] at h7
    exact zin_mem h7
  · rw [q] at h7
    simp only [Bool.and_eq_true, decide_eq_true_eq] at h7
    exact ⟨zin_mem h7.1, h7.2⟩
theorem zgoodTBL : GoodIn zTBL zTBL := fun w h => ⟨h, zTBL_good h⟩
theorem zgood_ws {j : Nat} (h : Cond.code (zN j) (zC j) (zL j) (zRt j) ∈ zTBL) : GoodIn zTBL (zws j) := fun w hw => by
  rcases List.mem_cons.mp hw with q | q
  · subst q; exact ⟨h, zTBL_good h⟩
  · exact ⟨q, zTBL_good q⟩
set_option maxHeartbeats 1000000 in
theorem zs_35 (hck : ∀ j, j < 152 → zmck j = true) (IH : zIH l D cy A d) (C : zCx p l R s m args meth c D cy A mc ms d y) (hc : zchk y pc (35, n, a, b, ix, w, z) = true) (k : zstep (zCall d) mc ms Q (zWS p l e R s m args below meth c Qf D cy A (zL y) mc ms) (35, n, a, b, ix, w, z) pc ls st h u v) : zWS p l e R s m args below meth c Qf D cy A (zL y) mc ms pc ls st h u v := by
  obtain ⟨⟨hx, hb, hml, hr, hlk, hnm, hown⟩, hts, hF, hA, ⟨hR1, hR2, hR3, hR4⟩, hnt, hex⟩ := C
  have hK := hF.1
  intro hu hv H locs arr hP hS hL
  simp only [zchk, decide_eq_true_eq] at hc
  simp only [zstep] at k
  obtain ⟨rfl, hj, hc⟩ := hc
  obtain ⟨as, r, mc', ms', rfl, hlen, hsum, h1, h2, hrc, k⟩ := k
  have hM := zMet_of (IH a as h mc' ms' _ hj k) (fun E st t ⟨k, h', _, _, q, _⟩ => q)
  obtain ⟨c1, c2, c3, c4, c5, c6, c7, c8, c9⟩ := zmck_spec (hck a hj)
  have hW : 2 * (F0 m pc arr ((as.reverse ++ r).map zval)).monitorRoom + ((r.map zval).map fun v => v.category).sum ≤ 8 := by
    rw [zmap_sum]
    show 2 * 0 + _ ≤ 8
    omega
  have hroom : (zrm d mc' ms').frames + 1 ≤ R.frames ∧ 8 + (zL a + 11) + (zrm d mc' ms').locals ≤ R.locals := by
    show d + 7 + 1 ≤ R.frames ∧ 8 + (zL a + 11) + (60 * d + 200) ≤ R.locals
    omega
  have hfit : u + mc' ≤ R.cells ∧ v + ms' ≤ R.slots := by rw [hR1, hR2]; exact ⟨h1, h2⟩
  have pre : ∀ U : State, U.heap = H → s.WarmedH U.vm → zPc D cy A as h (as.map zval).toArray U := fun U hU hW => ⟨rfl, by rw [hU]; exact hP, hF.to hW (fun a g1 g2 => by rw [hU]; exact hS.2.1 a g1 g2), fun q hq => hA q (Nat.le_trans hS.1 (by rw [← hU]; exact hq))⟩
  have S : CallFix p m c (zC y) (zL y) s args zTBL (zown y) := ⟨hx, hb, hml, hown, hts⟩
  have fin : ∀ (av : Array Value), va_Run p l e R s m args below meth c H locs u v mc' ms' (F0 m pc arr ((as.reverse ++ r).map zval)) (r.map zval) (zQc D cy A (zaft (zWS p l e R s m args below meth c Qf D cy A (zL y) mc ms) (pc + 3) ls r (u + mc') (v + ms')) av) A → W p l e R s m args below meth c H locs u v Qf (F0 m pc arr ((as.reverse ++ r).map zval)) := by
    intro av hrun
    refine zafter hrun hS (fun o h1' H1 locs1 hq hrep hS1 => ?_)
    cases o with
    | none => exact hq h1 h2 H1 locs1 arr hrep hS1 hL
    | some v1 => exact hq h1 h2 H1 locs1 arr hrep hS1 hL
  have hstk : (as.reverse ++ r).map zval = (as.map zval).reverse ++ r.map zval := by rw [List.map_append, List.map_reverse]
  rcases hc with ⟨hz, hk, rfl, hc, hw⟩ | ⟨hz, hk, rfl, hc, hw⟩ | ⟨hz, hk, rfl, hc, hw⟩ | ⟨hz, hk, rfl, hc, hw⟩ | ⟨hz, hk, rfl, hc, hw⟩
  · rw [hk] at hrc
    obtain ⟨q, t, fs, rfl, hq⟩ := hrc
    obtain ⟨c71, c72, c73, c74⟩ := c7 hk
    have hcw : CallW R s args (zown y) (zN a).cls ix (zN a) (zC a) (zL a) (zRt a) (zws a) (zrm d mc' ms') mc' ms' (zn a) := cwV (zn a) hts (fun w' h' => by
      unfold wsV at h'
      rcases List.mem_append.mp h' with h' | h'
      · have : w' ∈ zTBL := by
          simp only [List.mem_cons, List.not_mem_nil, or_false] at h'
          rcases h' with h' | h' | h' | h' <;> subst h'
          · exact zin_mem hw
          · exact c71
          · exact c72
          · exact c6
        exact ⟨this, zTBL_good this⟩
      · exact zgood_ws c5 w' h') rfl rfl rfl ⟨rfl, c2.1, c2.2, c3⟩ hroom
    obtain ⟨L, hP0, hD, hdom⟩ := hP
    obtain ⟨k0, hk0, hk0'⟩ := zpl_at (cy := cy) hdom hq
    have hrv := va_recv hK hP0 (zcls_at c73) hk0'
    rw [c74] at hrv
    exact fin _ (va_runV (As := t.map zval) (b := q) S hM hcw ⟨zblind, hrv, pre⟩ rfl (by simpa using hlen) hL.2.1 (by show ((zR (some q) :: t).reverse ++ r).map zval = _; rw [hstk]; simp [zval, va_rf]) hW hc hfit)
  · have hcw : CallB R s args (zown y) ix (zN a) (zC a) (zL a) (zRt a) (zws a) (zrm d mc' ms') mc' ms' (zn a) ∧ (Cond.static (zN a)).before args s = true := va_cwS (zn a) hts (fun w' h' => by
      unfold va_wsS at h'
      rcases List.mem_append.mp h' with h' | h'
      · have : w' ∈ zTBL := by
          simp only [List.mem_cons, List.not_mem_nil, or_false] at h'
          rcases h' with h' | h' | h' <;> subst h'
          · exact zin_mem hw
          · exact c8 hk
          · exact c6
        exact ⟨this, zTBL_good this⟩
      · exact zgood_ws c5 w' h') rfl rfl rfl ⟨c2.1, c2.2, c3⟩ hroom
    exact fin _ (va_runS (As := as.map zval) S hM hcw ⟨zblind, pre⟩ rfl (by simpa using hlen) hL.2.1 hstk hW hc hfit)
  · rw [hk] at hrc
    obtain ⟨q, t, rfl⟩ := hrc
    obtain ⟨c91, c92, c93⟩ := c9 hk
    have c5' := c5
    rw [c93] at c5'
    have hcw := cwI (R := R) (own := zown y) (index := ix) (y := zN a) (bytes := zC a) (maxL := zL a) (rm := zrm d mc' ms') (mc := mc') (ms := ms') (ws := zws a) (ws' := zTBL) (zn a) hts (zgood_ws c5) (by unfold zws; rw [c93]) rfl rfl (hts _ c6) (hts _ (zin_mem hw)) (hts _ c91) c92 ⟨c2.1, c2.2, c3⟩ hroom
    exact fin _ (va_runI (As := t.map zval) (b := q) S hM hcw ⟨zblind, pre⟩ rfl (by simpa using hlen) hL.2.1 (by show ((zR (some q) :: t).reverse ++ r).map zval = _; rw [hstk]; simp [zval, va_rf]) hW hc hfit)
  · have hcw := va_cnB (R := R) (host := "VersionSolver") (own := zown y) (index := ix) (y := zN a) (bytes := zC a) (maxL := zL a) (ret := zRt a) (rm := zrm d mc' ms') (mc := mc') (ms := ms') (ws := zws a) (ws' := zTBL) (zn a) hts (zgood_ws c5) rfl rfl rfl (hF.2.1 _ hw) (hts _ c6) ⟨c2.1, c2.2, c3⟩ hroom
    exact fin _ (va_runSN (As := as.map zval) S hM ⟨hcw, hts _ (c8 hk), trivial⟩ ⟨zblind, pre⟩ rfl (by simpa using hlen) hL.2.1 hstk hW hc hfit)
  · rw [hk] at hrc
    obtain ⟨q, t, rfl⟩ := hrc
    obtain ⟨c91, c92, c93⟩ := c9 hk
    have hcw := va_cnB (R := R) (host := "VersionSolver") (own := zown y) (index := ix) (y := zN a) (bytes := zC a) (maxL := zL a) (ret := none) (rm := zrm d mc' ms') (mc := mc') (ms := ms') (ws := zws a) (ws' := zTBL) (zn a) hts (zgood_ws c5) (by unfold zws; rw [c93]) rfl rfl (hF.2.1 _ hw) (hts _ c6) ⟨c2.1, c2.2, c3⟩ hroom
    exact fin _ (va_runIN (As := t.map zval) (b := q) S hM ⟨hcw, c92, hts _ c91⟩ ⟨zblind, pre⟩ rfl (by simpa using hlen) hL.2.1 (by show ((zR (some q) :: t).reverse ++ r).map zval = _; rw [hstk]; simp [zval, va_rf]) hW hc hfit)
end
