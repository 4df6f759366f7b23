/-! A helper's contract out of a run of the pure machine; the law's own machine. -/
set_option maxHeartbeats 2000000 in
theorem hall (l : Launch) (hnt : l.stackTraces = false) (D : va_G) (cy : Nat → ClassId) (A : Nat → Prop) (hm : ∀ j, j < 152 → zmck j = true) (ht : ∀ j, j < 152 → ztck j = true) (hm2 : ∀ j, 152 ≤ j → j < 165 → hmck j = true) (ht2 : ∀ j, 152 ≤ j → j < 165 → htck j = true) (d : Nat) : ∀ j as h mc ms Q, 152 ≤ j → j < 165 → hCall d j as h mc ms Q → vx_Met l (zN j) (hws j) (zrm (d + 1) mc ms) (hPc D cy A as h) (zQc D cy A Q) (zXc D cy A Q) mc ms A := by
  have IH := zall l hnt D cy A hm ht d
  intro j as h mc ms Q hj1 hj2 k
  obtain ⟨hlen, k⟩ := k
  have hmj := hm2 j hj1 hj2
  have hp : plainName (zN j).cls = true := by
    unfold hmck at hmj
    simp only [Bool.and_eq_true] at hmj
    exact hmj.1.1.1.1.1.1.1
  refine vx_ofWH (cc := zC j) (maxL := zL j) (ret := zRt j) (hh := hH j) hp rfl ?_
  intro p e s m args below meth c s₁ B hml hv
  obtain ⟨⟨rfl, hP, hF, hA⟩, hNC⟩ := hv
  have C : zCx p l (headSpec (hws j) (zrm (d + 1) mc ms)).room s m (as.map zval).toArray meth c D cy A mc ms d j := by
    refine ⟨⟨B.exec, B.bytes, hml, B.returns, B.notSynchronized, (name_of_methodNamed B.named B.method).1, findClass_of_methodNamed B.named⟩, fun w hw => atoms_spec (ws := hws j) B.pre w (List.mem_cons_of_mem _ hw), hF, hA, ⟨rfl, rfl, ?_, ?_⟩, hnt, fun hj => absurd hj (by omega)⟩
    · show d + 8 ≤ d + 1 + 7
      omega
    · show 60 * d + 260 ≤ 60 * (d + 1) + 200
      omega
  have htab : c.exceptionTable.toList = tableOf (hH j) := vx_table (x := zN j) B (atoms_spec (ws := hws j) B.pre _ List.mem_cons_self)
  rw [lg_entry_eq]
  refine k (zWS p l e (headSpec (hws j) (zrm (d + 1) mc ms)).room s m (as.map zval).toArray below meth c (vx_MQ below (zQc D cy A Q) (zXc D cy A Q) (as.map zval).toArray s mc ms A) D cy A (zL j) mc ms) ?_ (Nat.zero_le _) (Nat.zero_le _) s.heap [] _ hP va_S.rf (zent_has hlen)
  intro pc ls st h u v ⟨o, ho, hs⟩
  have hck : hchk j pc o = true := List.all_eq_true.mp (ht2 j hj1 hj2) (pc, o) (zlookup_mem _ _ _ ho)
  by_cases h43 : o.1 = 43
  · exact hs_43 hm hmj IH C htab hNC h43 hck hs
  · unfold hchk at hck
    unfold hstep at hs
    rw [if_neg h43] at hck hs
    rw [Bool.and_eq_true, decide_eq_true_eq] at hck
    obtain ⟨h38, hck⟩ := hck
    by_cases h6 : o.1 = 36
    · obtain ⟨kk, n, a, b, ix, w, z⟩ := o
      have h6 : kk = 36 := h6
      subst h6
      exact zs_36 C hck hs
    · by_cases h7 : o.1 = 37
      · obtain ⟨kk, n, a, b, ix, w, z⟩ := o
        have h7 : kk = 37 := h7
        subst h7
        exact zs_37 C hck hs
      · exact zs_all hm IH C ⟨h6, h7, h38⟩ hck hs
/-- a step of the law -/
def lstep (d b L : Nat) (xs : Nat → Int32) (mc ms : Nat) (X : zX) (o : zOp) (pc : Nat) (ls : List (Option zV)) (st : List zV) (h : zH) (c s : Nat) : Prop :=
  if o.1 = 41 then ∃ i r, st = zI (nI i) :: zR (some b) :: r ∧ i < L ∧ X (pc + 1) ls (zI (xs i) :: r) h c s
  else if o.1 = 42 then ∃ r, st = zR (some b) :: r ∧ X (pc + 1) ls (zI (nI L) :: r) h c s
  else if o.1 = 36 then st = [zI 1]
  else if o.1 = 35 ∧ 152 ≤ o.2.2.1 then ∃ as r mc' ms', st = as.reverse ++ r ∧ as.length = o.2.2.2.1 ∧ (r.map zcat).sum ≤ 8 ∧ c + mc' ≤ mc ∧ s + ms' ≤ ms ∧ hCall d o.2.2.1 as h mc' ms' (zaft X (pc + 3) ls r (c + mc') (s + ms'))
  else zstep (zCall (d + 1)) mc ms (fun _ _ => False) X o pc ls st h c s
theorem hEv_Q {d : Nat} {H : Nat → Option Nat} {T : List (Nat × zOp)} {mc ms : Nat} {Q Q' : zQ} (hq : ∀ h o, Q h o → Q' h o) {pc : Nat} {ls : List (Option zV)} {st : List zV} {h : zH} {c s : Nat} (k : hEv d H T mc ms Q pc ls st h c s) : hEv d H T mc ms Q' pc ls st h c s := by
  intro X hX
  refine k X fun pc ls st h c s ⟨o, ho, q⟩ => hX pc ls st h c s ⟨o, ho, ?_⟩
  exact hstep_mono hq (fun _ _ _ _ _ _ z => z) q
theorem lstep_mono {d b L : Nat} {xs : Nat → Int32} {mc ms : Nat} {X Y : zX} (hX : ∀ pc ls st h c s, X pc ls st h c s → Y pc ls st h c s) {o : zOp} {pc : Nat} {ls : List (Option zV)} {st : List zV} {h : zH} {c s : Nat} : lstep d b L xs mc ms X o pc ls st h c s → lstep d b L xs mc ms Y o pc ls st h c s := by
  unfold lstep
  intro k
  by_cases e1 : o.1 = 41
  · rw [if_pos e1] at k ⊢
    obtain ⟨i, r, a1, a2, a3⟩ := k
    exact ⟨i, r, a1, a2, hX _ _ _ _ _ _ a3⟩
  · rw [if_neg e1] at k ⊢
    by_cases e2 : o.1 = 42
    · rw [if_pos e2] at k ⊢
      obtain ⟨r, a1, a3⟩ := k
      exact ⟨r, a1, hX _ _ _ _ _ _ a3⟩
    · rw [if_neg e2] at k ⊢
      by_cases e3 : o.1 = 36
      · rw [if_pos e3] at k ⊢
        exact k
      · rw [if_neg e3] at k ⊢
        by_cases e4 : o.1 = 35 ∧ 152 ≤ o.2.2.1
        · rw [if_pos e4] at k ⊢
          obtain ⟨as, r, m1, m2, a1, a2, a3, a4, a5, a6, a7⟩ := k
          exact ⟨as, r, m1, m2, a1, a2, a3, a4, a5, a6, hEv_Q (zaft_mono hX) a7⟩
        · rw [if_neg e4] at k ⊢
          exact zstep_mono (zCall_mono (d + 1)) (fun _ _ z => z) hX k
def lEv (d b L : Nat) (xs : Nat → Int32) (mc ms : Nat) : zX := fun pc ls st h c s =>
  ∀ X : zX, (∀ pc ls st h c s, (∃ o, tb_165.lookup pc = some o ∧ lstep d b L xs mc ms X o pc ls st h c s) → X pc ls st h c s) → X pc ls st h c s
theorem lEv.step {d b L : Nat} {xs : Nat → Int32} {mc ms : Nat} {pc : Nat} {ls : List (Option zV)} {st : List zV} {h : zH} {c s : Nat} {o : zOp} (ho : tb_165.lookup pc = some o) (k : lstep d b L xs mc ms (lEv d b L xs mc ms) o pc ls st h c s) : lEv d b L xs mc ms pc ls st h c s := by
  intro X hX
  exact hX _ _ _ _ _ _ ⟨o, ho, lstep_mono (fun pc ls st h c s z => z X hX) k⟩
def lchk (pc : Nat) (o : zOp) : Bool :=
  if o.1 = 41 then decide (decode (zC 165) pc = .ok (.iaload, 1)) else if o.1 = 42 then decide (decode (zC 165) pc = .ok (.arraylength, 1)) else if o.1 = 36 then decide (decode (zC 165) pc = .ok (.ireturn, 1)) else if o.1 = 35 ∧ 152 ≤ o.2.2.1 then decide (o.2.2.1 < 165 ∧ o.2.2.2.1 = zn o.2.2.1 ∧ decode (zC 165) pc = .ok (.invokestatic o.2.2.2.2.1, 3) ∧ zin o.2.2.2.2.2.1 (.methodLink (zown 165) o.2.2.2.2.1 (zN o.2.2.1)) = true) else decide (o.1 ≠ 37 ∧ o.1 ≠ 38) && zchk 165 pc o
def ltck : Bool := tb_165.all (fun q => lchk q.1 q.2)
theorem hmck_spec {j : Nat} (hj : hmck j = true) : ((zN j).cls ≠ "java/lang/invoke/MethodHandle" ∧ (zN j).cls ≠ "java/lang/invoke/VarHandle") ∧ (parseMethodDescriptor (zN j).desc).map (fun d => d.parameters.length) = some (zn j) ∧ zL j ≤ 40 ∧ Cond.codeWith (zN j) (zC j) (zL j) (zRt j) (hH j) ∈ zTBL ∧ Cond.initialized (zN j).cls ∈ zTBL ∧ Cond.static (zN j) ∈ zTBL := by
  unfold hmck at hj
  simp only [Bool.and_eq_true, decide_eq_true_eq] at hj
  obtain ⟨⟨⟨⟨⟨⟨⟨h1, h2⟩, h3⟩, h4⟩, h5⟩, h6⟩, h7⟩, h8⟩ := hj
  exact ⟨h2, h3, h4, zin_mem h5, zin_mem h6, zin_mem h7⟩
section
variable {p : Program} {l : Launch} {e : Env} {R : Room} {s : State} {m : MethodId} {args : Array Value} {below : List Frame} {meth : Method} {c : Code} {Qf : State → Prop} {D : va_G} {cy : Nat → ClassId} {A : Nat → Prop} {mc ms d y : Nat} {pc : Nat} {ls : List (Option zV)} {st : List zV} {h : zH} {u v : Nat}
set_option maxHeartbeats 2000000 in
/-- a helper is called -/
theorem ls_35 (hm2 : ∀ j, 152 ≤ j → j < 165 → hmck j = true) (IH : ∀ j as h mc ms Q, 152 ≤ j → j < 165 → hCall d j as h mc ms Q → vx_Met l (zN j) (hws j) (zrm (d + 1) mc ms) (hPc D cy A as h) (zQc D cy A Q) (zXc D cy A Q) mc ms A) (C : zCx p l R s m args meth c D cy A mc ms (d + 1) y) (hNC : zNC s) {a ix w : Nat} {as r : List zV} {mc' ms' : Nat} (ha : 152 ≤ a) (ha2 : a < 165) (hdc : decode (zC y) pc = .ok (.invokestatic ix, 3)) (hw : zin w (.methodLink (zown y) ix (zN a)) = true) (hlen : as.length = zn a) (hsum : (r.map zcat).sum ≤ 8) (h1 : u + mc' ≤ mc) (h2 : v + ms' ≤ ms) (k : hCall d a as h mc' ms' (zaft (zWS p l e R s m args below meth c Qf D cy A (zL y) mc ms) (pc + 3) ls r (u + mc') (v + ms'))) : zWS p l e R s m args below meth c Qf D cy A (zL y) mc ms pc ls (as.reverse ++ r) h u v := by
  obtain ⟨⟨hx, hb, hml, hr, hlk, hnm, hown⟩, hts, hF, hA, ⟨hR1, hR2, hR3, hR4⟩, hnt, hex⟩ := C
  intro hu hv H locs arr hP hS hL
  have hM := zMet_of (IH a as h mc' ms' _ ha ha2 k) (fun E st t ⟨k, h', _, _, q, _⟩ => q)
  obtain ⟨c2, c3, c4, c5, c6, c8⟩ := hmck_spec (hm2 a ha ha2)
  have hW : 2 * (F0 m pc arr ((as.reverse ++ r).map zval)).monitorRoom + ((r.map zval).map fun v => v.category).sum ≤ 8 := by
    rw [zmap_sum]
    show 2 * 0 + _ ≤ 8
    omega
  have hroom : (zrm (d + 1) mc' ms').frames + 1 ≤ R.frames ∧ 8 + (zL a + 11) + (zrm (d + 1) mc' ms').locals ≤ R.locals := by
    show d + 1 + 7 + 1 ≤ R.frames ∧ 8 + (zL a + 11) + (60 * (d + 1) + 200) ≤ R.locals
    omega
  have hfit : u + mc' ≤ R.cells ∧ v + ms' ≤ R.slots := by rw [hR1, hR2]; exact ⟨h1, h2⟩
  have pre : ∀ U : State, U.heap = H → s.WarmedH U.vm → hPc D cy A as h (as.map zval).toArray U := fun U hU hW => ⟨⟨rfl, by rw [hU]; exact hP, hF.to hW (fun a g1 g2 => by rw [hU]; exact hS.2.1 a g1 g2), fun q hq => hA q (Nat.le_trans hS.1 (by rw [← hU]; exact hq))⟩, fun k hk j hj n => va_Nc.moved hW.alike (hNC k hk j hj n)⟩
  have S : CallFix p m c (zC y) (zL y) s args zTBL (zown y) := ⟨hx, hb, hml, hown, hts⟩
  have hstk : (as.reverse ++ r).map zval = (as.map zval).reverse ++ r.map zval := by rw [List.map_append, List.map_reverse]
  have hgood : GoodIn zTBL (hws a) := fun w' hw' => by
    rcases List.mem_cons.mp hw' with q | q
    · subst q; exact ⟨c5, zTBL_good c5⟩
    · exact ⟨q, zTBL_good q⟩
  have hcw : vx_CSW R s args (zown y) ix (zN a) (zC a) (zL a) (zRt a) (hH a) (hws a) (zrm (d + 1) mc' ms') mc' ms' (zn a) := vx_cwSW (zn a) hts (fun w' h' => by
    unfold va_wsS at h'
    rcases List.mem_append.mp h' with h' | h'
    · have : w' ∈ zTBL := by
        simp only [List.mem_cons, List.not_mem_nil, or_false] at h'
        rcases h' with h' | h' | h' <;> subst h'
        · exact zin_mem hw
        · exact c8
        · exact c6
      exact ⟨this, zTBL_good this⟩
    · exact hgood w' h') rfl rfl rfl ⟨c2.1, c2.2, c3⟩ hroom
  have hrun := vx_runSW (p := p) (l := l) (e := e) (R := R) (s := s) (m := m) (args := args) (below := below) (meth := meth) (c := c) (H := H) (locs := locs) (cells := u) (slots := v) (rest := r.map zval) (g := F0 m pc arr ((as.reverse ++ r).map zval)) (As := as.map zval) S hM hcw ⟨hblind, pre⟩ rfl (by simpa using hlen) hL.2.1 hstk hW hdc hfit
  refine zafter hrun hS (fun o h1' H1 locs1 hq hrep hS1 => ?_)
  cases o with
  | none => exact hq h1 h2 H1 locs1 arr hrep hS1 hL
  | some v1 => exact hq h1 h2 H1 locs1 arr hrep hS1 hL
end
