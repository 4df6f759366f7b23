/-! THE CLAIM OUT OF ONE WALK OF THE LAW'S BODY. Your part is whole_start (and what it stands on); all else here is the same for every law, but numbers. -/
def R_law : String := "VersionSolverLaw"
def lw_P (b : Addr) (xs : List Int32) (args : Array Value) (s : State) : Prop := args = #[.ref b] ∧ s.IntsAt b xs ∧ xs.length ≤ 256 ∧ (Jvm.Cond.and given_1 narrow_1).before args s = true
def lw_Q (_ : Array Value) (s : State) (o : Outcome) (t : State) : Prop := o = .returned (some (.int 1)) ∧ Framed s o t [] 600128 7301098
def lw_Z (below : List Frame) (a : Array Value) (s : State) : State → Prop := fun t => ∃ o, t.status = .running ∧ Ended t below o ∧ lw_Q a s o t
/-- the law's own end, with 1 on the stack, nothing written that was there before, its room as the claim has it -/
theorem lw_ret {p : Program} {l : Launch} {e : Env} {s : State} {m : MethodId} {below : List Frame} {meth : Method} {c : Code} {b : Nat} (hx : p.tables.exec = Jvm.exec) (hb : c.code = code) (hr : meth.sig.returnType = ret) (hlocks : meth.locks = false) {pc : Nat} {H : Heap} {ls : Array Slot} (hdg : decode code pc = .ok (.ireturn, 1)) : W p l e room_1 s m #[Value.ref b] below meth c H [] 600128 7301098 (lw_Z below #[Value.ref b] s) (F0 m pc ls [.int 1]) := by
  intro T hT X
  obtain ⟨fs, hret, hrun, hended, hW, hframe⟩ := X.leave (v := some (.int 1)) (hlocks := hlocks) (fun h => by rw [hr] at h; cases h)
  have hmeth' : T.vm.method? m = some meth := X.method'
  refine ⟨T.setFrames fs, ?_, .returned (some (.int 1)), hrun, hended, rfl, ⟨_, rfl⟩, hW, hframe⟩
  jvm_step X.here [X.here.top, hx, hb, hdg, hmeth', hr, ret, narrow_b1]
  (try refine ⟨rfl, ?_⟩); (try refine ⟨rfl, ?_⟩)
  first | (intro acts; rw [hret _ acts rfl rfl rfl]) | rw [hret _ _ rfl rfl rfl]
  exact Steps.refl _
/-- what holds at the law's entry: the machine, the code, the tables' words (any of lw_tbl by 'hts w (by decide +kernel)'), the script of L ints xs at the cell b, what the Statement gives of the start (any of its parts by flat_of_before) -/
def lw_At (p : Program) (s : State) (m : MethodId) (meth : Method) (c : Code) (b L : Nat) (xs : Nat → Int32) : Prop :=
  p.tables.exec = Jvm.exec ∧ c.code = code ∧ meth.sig.returnType = ret ∧ c.maxLocals = 7 ∧ s.vm.findClass R_law = some m.cls ∧ (∀ w ∈ lw_tbl, w.before #[Value.ref b] s = true) ∧ va_X b L xs s s.heap ∧ b < s.heap.size ∧ meth.locks = false ∧ (Jvm.Cond.and given_1 narrow_1).before #[Value.ref b] s = true ∧ meth.name = (zN 165).name

/-! The world at the law's entry. -/
theorem arr_p {s : State} {args : Array Value} {ty : FieldType} (h : (Cond.arrayClass ty).before args s = true) (hr : ∀ cA, s.vm.findClass ("[" ++ ty.toString) = some cA → va_RA s cA ty) : ∃ cA, ArrOfT s cA ty ∧ va_RA s cA ty := by
  obtain ⟨cA, kA, comp, h1, h2, h3⟩ := Cond.arrayClass_spec h
  exact ⟨cA, fun n z => ⟨fun k h => (by cases h), kA, h2, comp, h3⟩, hr cA h1⟩
theorem arr_o {s : State} {args : Array Value} {C : String} (h : (Cond.arrayOver (.object C)).before args s = true) : ∃ cA, ArrOfT s cA (.object C) ∧ va_RA s cA (.object C) := by
  obtain ⟨comp, c, k, h1, h2, h3, h4, h5⟩ := Cond.arrayOver_spec h
  exact ⟨c, fun n z => ⟨fun k h => (by cases h), k, h3, comp, h4⟩, k, comp, h3, h4, h1, h5⟩
def insI (a : Nat) : Nat := match a with
  | 0 => 107
  | 1 => 338
  | 2 => 123
  | 3 => 705
  | 4 => 752
  | 5 => 140
  | 6 => 778
  | 7 => 684
  | 8 => 667
  | 9 => 99
  | _ => 1073
theorem insI_ok : ∀ a : Fin 11, lw_tbl[insI a]? = some (.instantiable (zcls a).1 (zcls a).2.2) := by decide +kernel
theorem aoI_ok : lw_tbl[129]? = some (.arrayOver (.object (zrcn 4))) ∧ lw_tbl[167]? = some (.arrayOver (.object (zrcn 5))) ∧ lw_tbl[758]? = some (.arrayOver (.object (zrcn 6))) ∧ lw_tbl[415]? = some (.arrayOver (.object (zrcn 7))) := by decide +kernel
theorem acI_ok : lw_tbl[121]? = some (.arrayClass .byte) ∧ lw_tbl[164]? = some (.arrayClass .int) ∧ lw_tbl[165]? = some (.arrayClass .long) ∧ lw_tbl[1169]? = some (.arrayClass .boolean) := by decide +kernel
def nsI (k : Nat) : Nat := match k with
  | 0 => 124
  | 1 => 746
  | 2 => 753
  | _ => 833
theorem nsI_ok : ∀ k : Fin 4, ∀ q, zNest[k.val]? = some q → lw_tbl[nsI k]? = some (.methodLinkNest q.1 q.2.1 q.2.2.1 q.2.2.2) := by
  intro k q hq
  have : ∀ k : Fin 4, lw_tbl[nsI k]? = (zNest[k.val]?).map (fun q => .methodLinkNest q.1 q.2.1 q.2.2.1 q.2.2.2) := by decide +kernel
  rw [this k, hq]; rfl
theorem stI_ok : lw_tbl[271]? = some (.laysStatic Bundle.tN "UNASSIGNED_STACK" Bundle.steD) ∧ lw_tbl[273]? = some (.laysStatic Bundle.tN "SUPPRESSED_SENTINEL" Bundle.listD) ∧ lw_tbl[73]? = some (.initialized Bundle.tN) := by decide +kernel
def csI (k : Nat) : Nat := match k with
  | 0 => 246
  | 1 => 311
  | 2 => 364
  | _ => 864
theorem csI_ok : ∀ k : Fin 4, lw_tbl[csI k]? = some (.castable (zexc k) (zexc k)) := by decide +kernel
theorem dcI_ok : ∀ x ∈ zDecl, Cond.declares x ∈ lw_tbl := by decide +kernel
theorem ncI_ok : ∀ k : Fin 4, ∀ j : Fin 4, k.val ≠ j.val → Cond.not (.castable (zexc k) (zexc j)) ∈ flatC (Jvm.Cond.and given_1 narrow_1) := by decide +kernel
theorem isI_ok : Cond.isRef (.static Bundle.tN "UNASSIGNED_STACK" Bundle.steD) ∈ flatC (Jvm.Cond.and given_1 narrow_1) ∧ Cond.isRef (.static Bundle.tN "SUPPRESSED_SENTINEL" Bundle.listD) ∈ flatC (Jvm.Cond.and given_1 narrow_1) := by decide +kernel
theorem lw_world {s : State} {b : Nat} (hts : ∀ w ∈ lw_tbl, w.before #[Value.ref b] s = true) (hgv : (Jvm.Cond.and given_1 narrow_1).before #[Value.ref b] s = true) : ∃ (D : va_G) (cy : Nat → ClassId), zFix D cy (fun q => s.heap.size ≤ q) s ∧ zNC s := by
  have hi : ∀ {i : Nat} {w : Cond}, lw_tbl[i]? = some w → w.before #[Value.ref b] s = true := fun h => hts _ (List.mem_of_getElem? h)
  have hg := flat_of_before _ hgv
  have ex : ∀ a : Nat, ∃ q : ClassId × (Nat → Nat), a < 11 → u_Kn s (zcls a).1 (zcls a).2.1 (zcls a).2.2 q.1 q.2 := fun a => by
    by_cases h : a < 11
    · obtain ⟨c, i, k⟩ := u_known (C := (zcls a).1) (T := (zcls a).2.1) (N := (zcls a).2.2) (n := (zcls a).2.2) (ws := zTBL) (fun w hw => hts w (List.mem_filter.mp hw).1) (zcls_in h) (hi (insI_ok ⟨a, h⟩))
      exact ⟨(c, i), fun _ => k⟩
    · obtain ⟨c, i, k⟩ := u_known (C := (zcls 0).1) (T := (zcls 0).2.1) (N := (zcls 0).2.2) (n := (zcls 0).2.2) (ws := zTBL) (fun w hw => hts w (List.mem_filter.mp hw).1) (zcls_in (by omega)) (hi (insI_ok ⟨0, by omega⟩))
      exact ⟨(c, i), fun z => absurd z h⟩
  obtain ⟨c0, x0⟩ := arr_p (hi acI_ok.1) (fun _ h => h)
  obtain ⟨c1, x1⟩ := arr_p (hi acI_ok.2.1) (fun _ h => h)
  obtain ⟨c2, x2⟩ := arr_p (hi acI_ok.2.2.1) (fun _ h => h)
  obtain ⟨c3, x3⟩ := arr_p (hi acI_ok.2.2.2) (fun _ h => h)
  obtain ⟨c4, x4⟩ := arr_o (hi aoI_ok.1)
  obtain ⟨c5, x5⟩ := arr_o (hi aoI_ok.2.1)
  obtain ⟨c6, x6⟩ := arr_o (hi aoI_ok.2.2.1)
  obtain ⟨c7, x7⟩ := arr_o (hi aoI_ok.2.2.2)
  refine ⟨(fun a => (Classical.choose (ex a)).1, fun a => (Classical.choose (ex a)).2), fun k => [c0, c1, c2, c3, c4, c5, c6, c7].getD k c0, ⟨⟨fun a q hq => ?_, fun k q hq => ?_⟩, fun q hq => ?_, fun k h1 h2 => ?_, ?_, ?_, fun k hk => ?_, fun x hx => ?_⟩, fun k hk j hj n => ?_⟩
  · have h : a < 11 := (List.getElem?_eq_some_iff.mp hq).1
    have := Classical.choose_spec (ex a) h
    rw [zcls_at h] at hq
    cases hq
    exact this
  · have h : k < 8 := (List.getElem?_eq_some_iff.mp hq).1
    rcases (show k = 0 ∨ k = 1 ∨ k = 2 ∨ k = 3 ∨ k = 4 ∨ k = 5 ∨ k = 6 ∨ k = 7 by omega) with z | z | z | z | z | z | z | z <;> subst z <;> cases hq
    · exact x0
    · exact x1
    · exact x2
    · exact x3
    · exact x4
    · exact x5
    · exact x6
    · exact x7
  · obtain ⟨k, hk, e⟩ := List.getElem_of_mem hq
    have e2 : zNest[k]? = some q := by rw [List.getElem?_eq_getElem hk, e]
    exact va_Nw.of rfl (hi (nsI_ok ⟨k, hk⟩ q e2))
  · rcases (show k = 4 ∨ k = 5 ∨ k = 6 ∨ k = 7 by omega) with z | z | z | z <;> subst z
    · exact va_AO.of (hi aoI_ok.1)
    · exact va_AO.of (hi aoI_ok.2.1)
    · exact va_AO.of (hi aoI_ok.2.2.1)
    · exact va_AO.of (hi aoI_ok.2.2.2)
  · exact vx_Zqof (hi stI_ok.1) (hi stI_ok.2.2) (hg _ isI_ok.1) (fun a ha => Nat.not_le.mpr ha)
  · exact vx_Zqof (hi stI_ok.2.1) (hi stI_ok.2.2) (hg _ isI_ok.2) (fun a ha => Nat.not_le.mpr ha)
  · exact va_Nw.of rfl (hi (csI_ok ⟨k, hk⟩))
  · exact va_Nw.of rfl (hts _ (dcI_ok x hx))
  · exact va_Nc.of (hg _ (ncI_ok ⟨k, hk⟩ ⟨j, hj⟩ n))
set_option maxHeartbeats 4000000 in
/-- the law's run, out of a run of its pure machine -/
theorem lw_run (l : Launch) (hnt : l.stackTraces = false) {p : Program} {e : Env} {s : State} {m : MethodId} {below : List Frame} {meth : Method} {c : Code} {b L d : Nat} {xs : Nat → Int32} (hL : L ≤ 256) (hd : d ≤ 1000) (C0 : lw_At p s m meth c b L xs) (hm : ∀ j, j < 152 → zmck j = true) (ht : ∀ j, j < 152 → ztck j = true) (hm2 : ∀ j, 152 ≤ j → j < 165 → hmck j = true) (ht2 : ∀ j, 152 ≤ j → j < 165 → htck j = true) (ht3 : ltck = true) (k : lEv d b L xs 600128 7301098 0 [some (zR (some b)), none, none, none, none, none, none] [] (fun _ => none) 0 0) : W p l e room_1 s m #[Value.ref b] below meth c s.heap [] 0 0 (lw_Z below #[Value.ref b] s) (entryFrame m ([Value.ref b] : List Value).toArray 7) := by
  obtain ⟨hx, hb, hr, hml, hown, hts, hX, hbl, hlocks, hgv, hname⟩ := C0
  obtain ⟨D, cy, hF, hNC⟩ := lw_world hts hgv
  have hA : ∀ q : Nat, s.heap.size ≤ q → (fun q : Nat => s.heap.size ≤ q) q := fun _ h => h
  have hbA : ¬ (fun q : Nat => s.heap.size ≤ q) b := Nat.not_le.mpr hbl
  have C : zCx p l room_1 s m #[Value.ref b] meth c D cy (fun q => s.heap.size ≤ q) 600128 7301098 (d + 1) 165 := by
    refine ⟨⟨hx, hb, hml, hr, hlocks, hname, hown⟩, fun w hw => hts w (List.mem_filter.mp hw).1, hF, hA, ⟨rfl, rfl, ?_, ?_⟩, hnt, fun h => absurd h (by omega)⟩
    · show d + 1 + 8 ≤ 2048
      omega
    · show 60 * (d + 1) + 260 ≤ 84000
      omega
  have IH1 := zall l hnt D cy (fun q => s.heap.size ≤ q) hm ht (d + 1)
  have IH2 := hall l hnt D cy (fun q => s.heap.size ≤ q) hm ht hm2 ht2 d
  have hrep0 : zRep D cy (fun q => s.heap.size ≤ q) (fun _ => none) s.heap := ⟨[], fun k q h => by simp [va_pl] at h, ⟨fun i j p q h => by simp [va_pl] at h, fun k q h => by simp [va_pl] at h⟩, fun a => ⟨fun h => (by cases h), fun h => absurd rfl h⟩⟩
  rw [lg_entry_eq]
  refine k (zWS p l e room_1 s m #[Value.ref b] below meth c (lw_Z below #[Value.ref b] s) D cy (fun q => s.heap.size ≤ q) 7 600128 7301098) ?_ (Nat.zero_le _) (Nat.zero_le _) s.heap [] _ hrep0 va_S.rf (zent_has (as := [zR (some b)]) (n := 7) (Nat.le_of_ble_eq_true rfl))
  intro pc ls st h u v ⟨o, ho, hs⟩
  have hck : lchk pc o = true := List.all_eq_true.mp ht3 (pc, o) (zlookup_mem _ _ _ ho)
  unfold lchk at hck
  unfold lstep at hs
  by_cases e1 : o.1 = 41
  · rw [if_pos e1] at hck hs
    obtain ⟨i, r, rfl, hi, hs⟩ := hs
    intro hu hv H locs arr hP hS hLs
    refine va_sld (p := p) (e := e) (R := room_1) (m := m) (meth := meth) (c := c) (rest := r.map zval) hx hb hX hbl hbA hS (vp_in_nI hi (by omega)) (of_decide_eq_true hck) ?_
    rw [nI_clamp (by omega)]
    exact hs hu hv H locs arr hP hS hLs
  · rw [if_neg e1] at hck hs
    by_cases e2 : o.1 = 42
    · rw [if_pos e2] at hck hs
      obtain ⟨r, rfl, hs⟩ := hs
      intro hu hv H locs arr hP hS hLs
      refine va_slen (p := p) (e := e) (R := room_1) (m := m) (meth := meth) (c := c) (rest := r.map zval) hx hb hX hbl hbA hS (of_decide_eq_true hck) ?_
      exact hs hu hv H locs arr hP hS hLs
    · rw [if_neg e2] at hck hs
      by_cases e3 : o.1 = 36
      · rw [if_pos e3] at hck hs
        subst hs
        intro hu hv H locs arr hP hS hLs
        refine va_forget (fun q hq => hS.2.2 q hq) ?_
        refine W.widen (k := 600128) (n := 7301098) hu hv ?_
        exact lw_ret hx hb hr hlocks (of_decide_eq_true hck)
      · rw [if_neg e3] at hck hs
        by_cases e4 : o.1 = 35 ∧ 152 ≤ o.2.2.1
        · rw [if_pos e4] at hck hs
          obtain ⟨g1, g2, g3, g4⟩ := of_decide_eq_true hck
          obtain ⟨as, r, mc', ms', rfl, a1, a2, a3, a4, a5⟩ := hs
          exact ls_35 hm2 IH2 C hNC e4.2 g1 g3 g4 (a1.trans g2) a2 a3 a4 a5
        · rw [if_neg e4] at hck hs
          rw [Bool.and_eq_true, decide_eq_true_eq] at hck
          exact zs_all hm IH1 C ⟨e3, hck.1.1, hck.1.2⟩ hck.2 hs
