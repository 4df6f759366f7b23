/-! The law's helpers: calls whose throws are caught. -/
def hH (j : Nat) : List (Nat × Nat × Nat × Nat) := match j with
  | 152 => [(0, 11, 14, 13), (0, 11, 18, 15)]
  | 153 => [(0, 9, 12, 21), (0, 9, 15, 13), (0, 9, 18, 15), (0, 9, 21, 23)]
  | 154 => [(0, 17, 20, 21)]
  | 155 => [(0, 5, 8, 21), (0, 5, 11, 13)]
  | 156 => [(0, 16, 19, 21)]
  | 157 => [(0, 8, 11, 15)]
  | 158 => [(0, 9, 12, 21)]
  | 159 => [(0, 9, 12, 21)]
  | 160 => [(0, 16, 19, 21), (0, 16, 22, 13)]
  | 161 => [(0, 9, 12, 21), (0, 9, 15, 13)]
  | 162 => [(0, 10, 13, 21)]
  | 163 => [(0, 10, 13, 21)]
  | 164 => [(0, 9, 12, 21)]
  | _ => []
/-- which of the four a row of the table takes -/
def hcl (t : Nat) : Nat := if t = 13 then 0 else if t = 15 then 1 else if t = 21 then 2 else 3
def hin (t : Nat) : Nat := if t = 13 then 238 else if t = 15 then 239 else if t = 21 then 327 else 328
def hfd : List (Nat × Nat × Nat × Nat) → Nat → Option Nat
  | [], _ => none
  | q :: t, k => if hcl q.2.2.2 = k then some q.2.2.1 else hfd t k
/-- what goes on behind a call that may throw -/
def hQ (X : zX) (H : Nat → Option Nat) (pc : Nat) (ls : List (Option zV)) (r : List zV) (c s : Nat) : zQ := fun h o => match o with
  | .inl (some v) => X pc ls (v :: r) h c s
  | .inl none => X pc ls r h c s
  | .inr k => ∃ pc', H k = some pc' ∧ ∀ q, X pc' ls [zR (some q)] h c s
def hstep (cl : Nat → List zV → zH → Nat → Nat → zQ → Prop) (H : Nat → Option Nat) (mc ms : Nat) (Q : zQ) (X : zX) (o : zOp) (pc : Nat) (ls : List (Option zV)) (st : List zV) (h : zH) (c s : Nat) : Prop :=
  if o.1 = 43 then ∃ as r mc' ms', st = as.reverse ++ r ∧ as.length = o.2.2.2.1 ∧ (r.map zcat).sum ≤ 8 ∧ c + mc' ≤ mc ∧ s + ms' ≤ ms ∧ zrcv (zK o.2.2.1) (zci o.2.2.1) as h ∧ cl o.2.2.1 as h mc' ms' (hQ X H (pc + 3) ls r (c + mc') (s + ms'))
  else zstep cl mc ms Q X o pc ls st h c s
theorem hQ_mono {X Y : zX} {H : Nat → Option Nat} (hX : ∀ pc ls st h c s, X pc ls st h c s → Y pc ls st h c s) {pc : Nat} {ls : List (Option zV)} {r : List zV} {c s : Nat} : ∀ h o, hQ X H pc ls r c s h o → hQ Y H pc ls r c s h o := by
  intro h o k
  rcases o with (_ | v) | e
  · exact hX _ _ _ _ _ _ k
  · exact hX _ _ _ _ _ _ k
  · obtain ⟨p, a, b⟩ := k
    exact ⟨p, a, fun q => hX _ _ _ _ _ _ (b q)⟩
theorem hstep_mono {d : Nat} {H : Nat → Option Nat} {mc ms : Nat} {Q Q' : zQ} {X Y : zX} (hQ' : ∀ h o, Q h o → Q' h o) (hX : ∀ pc ls st h c s, X pc ls st h c s → Y pc ls st h c s)
    {o : zOp} {pc : Nat} {ls : List (Option zV)} {st : List zV} {h : zH} {c s : Nat} : hstep (zCall d) H mc ms Q X o pc ls st h c s → hstep (zCall d) H mc ms Q' Y o pc ls st h c s := by
  unfold hstep
  intro k
  by_cases e : o.1 = 43
  · rw [if_pos e] at k ⊢
    obtain ⟨as, r, m1, m2, a1, a2, a3, a4, a5, a6, a7⟩ := k
    exact ⟨as, r, m1, m2, a1, a2, a3, a4, a5, a6, zCall_mono d _ _ _ _ _ _ _ (hQ_mono hX) a7⟩
  · rw [if_neg e] at k ⊢
    exact zstep_mono (zCall_mono d) hQ' hX k
def hEv (d : Nat) (H : Nat → Option Nat) (T : List (Nat × zOp)) (mc ms : Nat) (Q : zQ) : zX := fun pc ls st h c s =>
  ∀ X : zX, (∀ pc ls st h c s, (∃ o, T.lookup pc = some o ∧ hstep (zCall d) H mc ms Q X o pc ls st h c s) → X pc ls st h c s) → X pc ls st h c s
theorem hEv.step {d : Nat} {H : Nat → Option Nat} {T : List (Nat × zOp)} {mc ms : Nat} {Q : zQ} {pc : Nat} {ls : List (Option zV)} {st : List zV} {h : zH} {c s : Nat} {o : zOp} (ho : T.lookup pc = some o) (k : hstep (zCall d) H mc ms Q (hEv d H T mc ms Q) o pc ls st h c s) : hEv d H T mc ms Q pc ls st h c s := by
  intro X hX
  exact hX _ _ _ _ _ _ ⟨o, ho, hstep_mono (fun _ _ z => z) (fun pc ls st h c s z => z X hX) k⟩
/-- a helper at depth d + 1 -/
def hCall (d y : Nat) (as : List zV) (h : zH) (mc ms : Nat) (Q : zQ) : Prop := (zargs as).length ≤ zL y ∧ hEv d (hfd (hH y)) (ztb y) mc ms Q 0 (zent (zL y) as) [] h 0 0
def hchk (y pc : Nat) (o : zOp) : Bool := if o.1 = 43 then decide (o.2.1 = 3 ∧ o.2.2.1 < 152 ∧ zK o.2.2.1 = 0 ∧ o.2.2.2.1 = zn o.2.2.1 + 1 ∧ decode (zC y) pc = .ok (.invokevirtual o.2.2.2.2.1, 3) ∧ zin o.2.2.2.2.2.1 (.methodLink (zown y) o.2.2.2.2.1 (zN o.2.2.1)) = true ∧ ∀ q ∈ hH y, q.1 ≤ pc ∧ pc < q.2.1) else decide (o.1 ≠ 38) && zchk y pc o
/-- what is checked of a helper by itself -/
def hmck (j : Nat) : Bool := plainName (zN j).cls && decide ((zN j).cls ≠ "java/lang/invoke/MethodHandle" ∧ (zN j).cls ≠ "java/lang/invoke/VarHandle") && decide ((parseMethodDescriptor (zN j).desc).map (fun d => d.parameters.length) = some (zn j)) && decide (zL j ≤ 40) && zin (zw j).1 (.codeWith (zN j) (zC j) (zL j) (zRt j) (hH j)) && zin (zw j).2.2.2 (.initialized (zN j).cls) && zin (zw j).2.1 (.static (zN j)) && decide (∀ q ∈ hH j, q.2.2.2 ≠ 0 ∧ zin (hin q.2.2.2) (.classLink (zown j) q.2.2.2 (zexc (hcl q.2.2.2))) = true)
def htck (j : Nat) : Bool := (ztb j).all (fun q => hchk j q.1 q.2)
def hws (j : Nat) : List Cond := Cond.codeWith (zN j) (zC j) (zL j) (zRt j) (hH j) :: zTBL
/-- the four throwables are no kinds of each other -/
def zNC (U : State) : Prop := ∀ k, k < 4 → ∀ j, j < 4 → k ≠ j → va_Nc (zexc k) (zexc j) U
def hPc (D : va_G) (cy : Nat → ClassId) (A : Nat → Prop) (as : List zV) (h : zH) : Array Value → State → Prop := fun a U => zPc D cy A as h a U ∧ zNC U
theorem hblind {D : va_G} {cy : Nat → ClassId} {A : Nat → Prop} {as : List zV} {h : zH} : FrameBlind (hPc D cy A as h) := fun a U g mk ⟨q1, q2⟩ => ⟨zblind a U g mk q1, fun k hk j hj n => va_Nc.moved (u := U) (U := U.calling g mk a) (Vm.Alike.refl U.vm) (q2 k hk j hj n)⟩
/-- the row that takes it, and those ahead -/
theorem hfd_split : ∀ (L : List (Nat × Nat × Nat × Nat)) (k pc : Nat), hfd L k = some pc → ∃ pre x suf, L = pre ++ x :: suf ∧ hcl x.2.2.2 = k ∧ x.2.2.1 = pc ∧ ∀ z ∈ pre, ¬ hcl z.2.2.2 = k
  | [], k, pc, h => by cases h
  | q :: t, k, pc, h => by
    rw [hfd] at h
    by_cases e : hcl q.2.2.2 = k
    · rw [if_pos e] at h
      cases h
      exact ⟨[], q, t, rfl, e, rfl, fun z hz => by cases hz⟩
    · rw [if_neg e] at h
      obtain ⟨pre, x, suf, a, b, c, d⟩ := hfd_split t k pc h
      refine ⟨q :: pre, x, suf, by rw [a]; rfl, b, c, fun z hz => ?_⟩
      rcases List.mem_cons.mp hz with w | w
      · rw [w]; exact e
      · exact d z w
theorem hcl_4 (t : Nat) : hcl t < 4 := by
  unfold hcl
  repeat' split
  all_goals omega
section
variable {p : Program} {l : Launch} {e : Env} {R : Room} {s : State} {m : MethodId} {args : Array Value} {below : List Frame} {meth : Method} {c : Code} {Qf : State → Prop} {D : va_G} {cy : Nat → ClassId} {A : Nat → Prop} {mc ms d y : Nat} {Q : zQ} {pc : Nat} {ls : List (Option zV)} {st : List zV} {h : zH} {u v : Nat}
set_option maxHeartbeats 2000000 in
theorem hs_43 (hck : ∀ j, j < 152 → zmck j = true) (hm : hmck y = true) (IH : zIH l D cy A d) (C : zCx p l R s m args meth c D cy A mc ms d y) (htab : c.exceptionTable.toList = tableOf (hH y)) (hNC : zNC s) {o : zOp} (h43 : o.1 = 43) (hc : hchk y pc o = true) (k : hstep (zCall d) (hfd (hH y)) mc ms Q (zWS p l e R s m args below meth c Qf D cy A (zL y) mc ms) o pc ls st h u v) : zWS p l e R s m args below meth c Qf D cy A (zL y) mc ms pc ls st h u v := by
  obtain ⟨⟨hx, hb, hml, hr, hlk, hnm, hown⟩, hts, hF, hA, ⟨hR1, hR2, hR3, hR4⟩, hnt, hex⟩ := C
  have hK := hF.1
  intro hu hv H locs arr hP hS hL
  obtain ⟨kk, n, a, b, ix, w, z⟩ := o
  unfold hchk at hc
  unfold hstep at k
  rw [if_pos h43] at hc k
  simp only [decide_eq_true_eq] at hc
  dsimp only at hc k
  obtain ⟨hn3, hj, hk0, rfl, hdc, hw, hcov⟩ := hc
  obtain ⟨as, r, mc', ms', rfl, hlen, hsum, h1, h2, hrc, k⟩ := k
  have hM := IH a as h mc' ms' _ hj k
  obtain ⟨c1, c2, c3, c4, c5, c6, c7, c8, c9⟩ := zmck_spec (hck a hj)
  have hW : 2 * (F0 m pc arr ((as.reverse ++ r).map zval)).monitorRoom + ((r.map zval).map fun v => v.category).sum ≤ 8 := by
    rw [zmap_sum]
    show 2 * 0 + _ ≤ 8
    omega
  have hroom : (zrm d mc' ms').frames + 1 ≤ R.frames ∧ 8 + (zL a + 11) + (zrm d mc' ms').locals ≤ R.locals := by
    show d + 7 + 1 ≤ R.frames ∧ 8 + (zL a + 11) + (60 * d + 200) ≤ R.locals
    omega
  have hfit : u + mc' ≤ R.cells ∧ v + ms' ≤ R.slots := by rw [hR1, hR2]; exact ⟨h1, h2⟩
  have pre : ∀ U : State, U.heap = H → s.WarmedH U.vm → zPc D cy A as h (as.map zval).toArray U := fun U hU hW => ⟨rfl, by rw [hU]; exact hP, hF.to hW (fun a g1 g2 => by rw [hU]; exact hS.2.1 a g1 g2), fun q hq => hA q (Nat.le_trans hS.1 (by rw [← hU]; exact hq))⟩
  have S : CallFix p m c (zC y) (zL y) s args zTBL (zown y) := ⟨hx, hb, hml, hown, hts⟩
  have hstk : (as.reverse ++ r).map zval = (as.map zval).reverse ++ r.map zval := by rw [List.map_append, List.map_reverse]
  rw [hk0] at hrc
  obtain ⟨q, t, fs, rfl, hq⟩ := hrc
  obtain ⟨c71, c72, c73, c74⟩ := c7 hk0
  have hcw : CallW R s args (zown y) (zN a).cls ix (zN a) (zC a) (zL a) (zRt a) (zws a) (zrm d mc' ms') mc' ms' (zn a) := cwV (zn a) hts (fun w' h' => by
    unfold wsV at h'
    rcases List.mem_append.mp h' with h' | h'
    · have : w' ∈ zTBL := by
        simp only [List.mem_cons, List.not_mem_nil, or_false] at h'
        rcases h' with h' | h' | h' | h' <;> subst h'
        · exact zin_mem hw
        · exact c71
        · exact c72
        · exact c6
      exact ⟨this, zTBL_good this⟩
    · exact zgood_ws c5 w' h') rfl rfl rfl ⟨rfl, c2.1, c2.2, c3⟩ hroom
  obtain ⟨L, hP0, hD, hdom⟩ := hP
  obtain ⟨k0, hk0', hk1⟩ := zpl_at (cy := cy) hdom hq
  have hrv := va_recv hK hP0 (zcls_at c73) hk1
  rw [c74] at hrv
  have hrun := vx_runV (p := p) (l := l) (e := e) (R := R) (s := s) (m := m) (args := args) (below := below) (meth := meth) (c := c) (H := H) (locs := locs) (cells := u) (slots := v) (rest := r.map zval) (g := F0 m pc arr (((zR (some q) :: t).reverse ++ r).map zval)) (As := t.map zval) (b := q) S hM hcw ⟨zblind, hrv, pre⟩ rfl (by simpa using hlen) hL.2.1 (by show ((zR (some q) :: t).reverse ++ r).map zval = _; rw [hstk]; simp [zval, va_rf]) hW hdc hfit
  intro T hT X0
  have keep : ∀ {st₀ t T' : State} {L : List Loc}, st₀.heap = H → T'.heap = t.heap → va_F A st₀ t → (∀ q ∈ L, A q.base) → va_S A s.heap T'.heap (locs ++ L) := fun h0 e1 hz hL => by
    obtain ⟨hz, hk⟩ := hz
    rw [h0] at hz hk
    exact ⟨Nat.le_trans hS.1 (by rw [e1]; exact hz), fun q g1 g2 => by rw [e1, hk q (Nat.lt_of_lt_of_le g1 hS.1) g2]; exact hS.2.1 q g1 g2, fun q hq => by
      rcases List.mem_append.mp hq with h | h
      · exact hS.2.2 q h
      · exact hL q h⟩
  rcases hrun T hT X0 with ⟨vv, st₀, t', T', L', h0, X', hL', e1, e2, ⟨o, hh, ho, hq', hrep, hz⟩, stp⟩ | ⟨q9, st₀, t', T', L', E, ce, h0, X', hL', e1, e2, ⟨ek, hh, hk4, hE, hq', hrep, hz⟩, hce, hcv, hcl', stp⟩
  · have ho : vv = Option.map zval o := by cases ho; rfl
    subst ho
    have hS' := keep h0 e1 hz hL'
    have kk : W p l e R s m args below meth c T'.heap (locs ++ L') (u + mc') (v + ms') Qf (F0 m (pc + 3) arr ((Option.map zval o).toList ++ r.map zval)) := by
      cases o with
      | none => exact hq' h1 h2 T'.heap (locs ++ L') arr (by rw [e1]; exact hrep) hS' hL
      | some v1 => exact hq' h1 h2 T'.heap (locs ++ L') arr (by rw [e1]; exact hrep) hS' hL
    obtain ⟨t2, a1, b1⟩ := kk T' rfl X'
    exact ⟨t2, stp t2 a1, b1⟩
  · have hS' := keep h0 e1 hz hL'
    obtain ⟨pc', hH', kx⟩ := hq'
    obtain ⟨pr, x, sf, s1, s2, s3, s4⟩ := hfd_split _ _ _ hH'
    unfold hmck at hm
    simp only [Bool.and_eq_true, decide_eq_true_eq] at hm
    have hrows := hm.2
    have mem : ∀ z ∈ pr ++ x :: sf, z ∈ hH y := fun z hz => by rw [s1]; exact hz
    have kw : W p l e R s m args below meth c T'.heap (locs ++ L') (u + mc') (v + ms') Qf (F0 m pc' arr [.ref q9]) := kx q9 h1 h2 T'.heap (locs ++ L') arr (by rw [e1]; exact hrep) hS' hL
    have xin : x ∈ hH y := mem x (List.mem_append_right _ List.mem_cons_self)
    have hcat : vx_W p l e R s m args below meth c T'.heap (locs ++ L') (u + mc') (v + ms') Qf (F0 m pc arr (r.map zval)) q9 := by
      refine vx_catch (own := zown y) (name := zexc (hcl x.2.2.2)) (E := E) (ce := ce) hown (tableOf pr) ⟨x.1, x.2.1, x.2.2.1, x.2.2.2⟩ (tableOf sf) ?_ (fun z hz => ?_) ?_ (hrows x xin).1 (hts _ (zin_mem (hrows x xin).2)) ?_ (by rw [e1]; exact hce) hcv hcl' (by show W p l e R s m args below meth c _ _ _ _ Qf (F0 m x.2.2.1 arr _); rw [s3]; exact kw)
      · rw [htab, s1]; simp [tableOf]
      · obtain ⟨z', z1, z2⟩ := List.mem_map.mp hz
        have zin' : z' ∈ hH y := mem z' (List.mem_append_left _ z1)
        refine Or.inr ⟨by rw [← z2]; exact (hrows z' zin').1, zexc (hcl z'.2.2.2), by rw [← z2]; exact hts _ (zin_mem (hrows z' zin').2), ?_⟩
        rw [hE]
        exact hNC ek hk4 _ (hcl_4 _) (fun z => s4 z' z1 z.symm)
      · have := hcov x xin
        simp [covers, this.1, this.2]
      · rw [hE, s2]
        exact va_Nw.use rfl (hF.2.2.2.2.2.1 ek hk4)
    obtain ⟨t2, a1, b1⟩ := hcat T' rfl X'
    exact ⟨t2, stp.trans a1, b1⟩
end
