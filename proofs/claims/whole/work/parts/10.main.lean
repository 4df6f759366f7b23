/-! Returns and throws; the contract of every method out of a run of the pure machine. -/
def zenm : List String := ["java/lang/RuntimeException", "java/lang/Exception"]
theorem zthr_good {k : Nat} (hk : k < 4) : ∀ w ∈ (vx_at0 RX9 (zexi k) (zexc k) zenm).filter goodWord, w ∈ zTBL := by
  have : ∀ k, k < 4 → ∀ w ∈ (vx_at0 RX9 (zexi k) (zexc k) zenm).filter goodWord, w ∈ zTBL := by decide +kernel
  exact this k hk
theorem zthr_bad {k : Nat} (hk : k < 4) : ∀ w ∈ (vx_at0 RX9 (zexi k) (zexc k) zenm).filter (fun w => !goodWord w), w ∈ Cond.castable (zexc k) (zexc k) :: zDecl.map Cond.declares := by
  have : ∀ k, k < 4 → ∀ w ∈ (vx_at0 RX9 (zexi k) (zexc k) zenm).filter (fun w => !goodWord w), w ∈ Cond.castable (zexc k) (zexc k) :: zDecl.map Cond.declares := by decide +kernel
  exact this k hk
theorem zthr_ot {k : Nat} (hk : k < 4) : ∀ w ∈ vx_at0 RX9 (zexi k) (zexc k) zenm, vx_ot w = true := by
  have : ∀ k, k < 4 → ∀ w ∈ vx_at0 RX9 (zexi k) (zexc k) zenm, vx_ot w = true := by decide +kernel
  exact this k hk
theorem zthr_w {k : Nat} (hk : k < 4) : Cond.initialized (zexc k) ∈ zTBL ∧ Bundle.fit (zexc k) = true ∧ vx_ot (Cond.initialized (zexc k)) = true := by
  have : ∀ k, k < 4 → Cond.initialized (zexc k) ∈ zTBL ∧ Bundle.fit (zexc k) = true ∧ vx_ot (Cond.initialized (zexc k)) = true := by decide +kernel
  exact this k hk
section
variable {p : Program} {l : Launch} {e : Env} {R : Room} {s : State} {m : MethodId} {args : Array Value} {below : List Frame} {meth : Method} {c : Code} {Qf : State → Prop} {D : va_G} {cy : Nat → ClassId} {A : Nat → Prop} {mc ms d y : Nat} {cl : Nat → List zV → zH → Nat → Nat → zQ → Prop} {Q : zQ} {n a b ix w : Nat} {z : Int} {pc : Nat} {ls : List (Option zV)} {st : List zV} {h : zH} {u v : Nat}
set_option maxHeartbeats 1000000 in
theorem zs_36 (C : zCx p l R s m args meth c D cy A mc ms d y) (hc : zchk y pc (36, n, a, b, ix, w, z) = true) (k : zstep cl mc ms Q (zWS p l e R s m args below meth c (vx_MQ below (zQc D cy A Q) (zXc D cy A Q) args s mc ms A) D cy A (zL y) mc ms) (36, n, a, b, ix, w, z) pc ls st h u v) : zWS p l e R s m args below meth c (vx_MQ below (zQc D cy A Q) (zXc D cy A Q) args s mc ms A) D cy A (zL y) mc ms pc ls st h u v := by
  obtain ⟨⟨hx, hb, hml, hr, hlk, hnm, hown⟩, hts, hF, hA, ⟨hR1, hR2, hR3, hR4⟩, hnt, hex⟩ := C
  intro hu hv H locs arr hP hS hL
  simp only [zchk, Bool.and_eq_true, decide_eq_true_eq] at hc
  simp only [zstep] at k
  obtain ⟨v1, rfl, h1, k⟩ := k
  obtain ⟨ht, hc⟩ := hc
  refine W.widen (k := mc) (n := ms) hu hv (vx_ret ?_)
  have hq : ∀ t : State, t.heap = H → s.WarmedH t.vm → zQc D cy A Q args s (.returned (some (zval v1))) t := fun t ht _ => ⟨some v1, h, rfl, k, by rw [ht]; exact hP, hS.F ht⟩
  rcases hc with ⟨ha, hc⟩ | ⟨rfl, hc⟩ | ⟨rfl, hc⟩
  · rcases (show a = 0 ∨ a = 1 by omega) with h9 | h9 <;> subst h9
    · obtain ⟨x, rfl⟩ := h1
      exact W.iret hx hb (by rw [hr]; exact of_decide_eq_true ht) hq hS.2.2 hc hlk
    · obtain ⟨x, rfl, h2⟩ := h1
      exact W.zret hx hb (by rw [hr]; exact of_decide_eq_true ht) (zb01 h2).1 hq hS.2.2 hc hlk
  · obtain ⟨x, rfl⟩ := h1
    exact W.lret hx hb (by rw [hr]; exact of_decide_eq_true ht) hq hS.2.2 hc hlk
  · obtain ⟨x, rfl⟩ := h1
    have hrt : ∃ rt, zRt y = some rt ∧ ((∃ n, rt = .object n) ∨ ∃ t, rt = .array t) := by
      cases hz : zRt y with
      | none => rw [hz] at ht; simp [zrty] at ht
      | some t =>
        rw [hz] at ht
        cases t with
        | object n => exact ⟨_, rfl, Or.inl ⟨n, rfl⟩⟩
        | array n => exact ⟨_, rfl, Or.inr ⟨n, rfl⟩⟩
        | _ => simp [zrty] at ht
    obtain ⟨rt, e1, e2⟩ := hrt
    exact W.aret hx hb (by rw [hr]; exact e1) e2 (by cases x with
      | none => exact Or.inl rfl
      | some x => exact Or.inr ⟨x, rfl⟩) hq hS.2.2 hc hlk
theorem zs_37 (C : zCx p l R s m args meth c D cy A mc ms d y) (hc : zchk y pc (37, n, a, b, ix, w, z) = true) (k : zstep cl mc ms Q (zWS p l e R s m args below meth c (vx_MQ below (zQc D cy A Q) (zXc D cy A Q) args s mc ms A) D cy A (zL y) mc ms) (37, n, a, b, ix, w, z) pc ls st h u v) : zWS p l e R s m args below meth c (vx_MQ below (zQc D cy A Q) (zXc D cy A Q) args s mc ms A) D cy A (zL y) mc ms pc ls st h u v := by
  obtain ⟨⟨hx, hb, hml, hr, hlk, hnm, hown⟩, hts, hF, hA, ⟨hR1, hR2, hR3, hR4⟩, hnt, hex⟩ := C
  intro hu hv H locs arr hP hS hL
  simp only [zchk, decide_eq_true_eq] at hc
  simp only [zstep] at k
  obtain ⟨rfl, k⟩ := k
  refine W.widen (k := mc) (n := ms) hu hv (vx_ret ?_)
  exact W.vret hx hb (by rw [hr]; exact hc.1) (fun t ht _ => ⟨none, h, rfl, k, by rw [ht]; exact hP, hS.F ht⟩) hS.2.2 hc.2 hlk
theorem zs_38 (hy : y < 152) (C : zCx p l R s m args meth c D cy A mc ms d y) (hc : zchk y pc (38, n, a, b, ix, w, z) = true) (k : zstep cl mc ms Q (zWS p l e R s m args below meth c (vx_MQ below (zQc D cy A Q) (zXc D cy A Q) args s mc ms A) D cy A (zL y) mc ms) (38, n, a, b, ix, w, z) pc ls st h u v) : zWS p l e R s m args below meth c (vx_MQ below (zQc D cy A Q) (zXc D cy A Q) args s mc ms A) D cy A (zL y) mc ms pc ls st h u v := by
  obtain ⟨⟨hx, hb, hml, hr, hlk, hnm, hown⟩, hts, hF, hA, ⟨hR1, hR2, hR3, hR4⟩, hnt, hex⟩ := C
  intro hu hv H locs arr hP hS hL
  simp only [zchk, decide_eq_true_eq] at hc
  simp only [zstep] at k
  obtain ⟨h1, h2, h3, k⟩ := k
  obtain ⟨ha, rfl, ho, d0, d3, d4, d7, hw⟩ := hc
  have hsum := zmap_sum st
  have hown' := hown
  have hw' := zin_mem hw
  rw [ho] at hown' hw'
  refine vx_throw0 (own := RX9) (cls := zexc a) (names := zenm) (A := A) hx hb hnt hown' (zthr_w ha).2.1 (by decide +kernel) (hts _ hw') (hts _ (zthr_w ha).1)
    (vx_hat (fun w q => hts _ (zthr_good ha w q)) (zthr_bad ha) (fun w q => by
      rcases List.mem_cons.mp q with q | q
      · rw [q]; exact va_Nw.use rfl (hF.2.2.2.2.2.1 a ha)
      · obtain ⟨x, q1, q2⟩ := List.mem_map.mp q
        rw [← q2]; exact va_Nw.use rfl (hF.2.2.2.2.2.2 x q1))) ?_ hF.2.2.2.1 hF.2.2.2.2.1 hS (by rw [hL.2.1, hml]) d0 d3 d4 d7 (fun x q => (hex hy x q).elim) ?_ ?_ (by rw [hR1]; exact h1) (by rw [hR2]; exact h2) hlk ?_ hS.2.2 h1 h2
  · intro w' q
    rcases List.mem_cons.mp q with q | q
    · subst q; rfl
    · rcases List.mem_cons.mp q with q | q
      · subst q; exact (zthr_w ha).2.2
      · exact zthr_ot ha w' q
  · show 2 + 3 < R.frames
    omega
  · show _ + (13 * (2 + 1) + 42) ≤ R.locals
    omega
  · intro t _ hz hk
    refine ⟨a, h, ha, rfl, k, ?_, ⟨Nat.le_trans hS.1 hz, fun q g1 g2 => by rw [hk q (Nat.lt_of_lt_of_le g1 hS.1)]; exact hS.2.1 q g1 g2⟩⟩
    obtain ⟨L, hP0, hD, hdom⟩ := hP
    exact ⟨L, hP0.kept (fun k0 q hq => hk q.1 ((hP0 k0 q hq).lt)), hD, hdom⟩
set_option maxHeartbeats 4000000 in
theorem zs_all (hck : ∀ j, j < 152 → zmck j = true) (IH : zIH l D cy A d) (C : zCx p l R s m args meth c D cy A mc ms d y) {o : zOp} (ho : o.1 ≠ 36 ∧ o.1 ≠ 37 ∧ o.1 ≠ 38) (hc : zchk y pc o = true) (k : zstep (zCall d) mc ms Q (zWS p l e R s m args below meth c Qf D cy A (zL y) mc ms) o pc ls st h u v) : zWS p l e R s m args below meth c Qf D cy A (zL y) mc ms pc ls st h u v := by
  obtain ⟨kk, n, a, b, ix, w, z⟩ := o
  match kk, ho, hc, k with
  | 0, _, hc, k => exact zs_0 C hc k
  | 1, _, hc, k => exact zs_1 C hc k
  | 2, _, hc, k => exact zs_2 C hc k
  | 3, _, hc, k => exact zs_3 C hc k
  | 4, _, hc, k => exact zs_4 C hc k
  | 5, _, hc, k => exact zs_5 C hc k
  | 6, _, hc, k => exact zs_6 C hc k
  | 7, _, hc, k => exact zs_7 C hc k
  | 8, _, hc, k => exact zs_8 C hc k
  | 9, _, hc, k => exact zs_9 C hc k
  | 10, _, hc, k => exact zs_10 C hc k
  | 11, _, hc, k => exact zs_11 C hc k
  | 12, _, hc, k => exact zs_12 C hc k
  | 13, _, hc, k => exact zs_13 C hc k
  | 14, _, hc, k => exact zs_14 C hc k
  | 15, _, hc, k => exact zs_15 C hc k
  | 16, _, hc, k => exact zs_16 C hc k
  | 17, _, hc, k => exact zs_17 C hc k
  | 18, _, hc, k => exact zs_18 C hc k
  | 19, _, hc, k => exact zs_19 C hc k
  | 20, _, hc, k => exact zs_20 C hc k
  | 21, _, hc, k => exact zs_21 C hc k
  | 22, _, hc, k => exact zs_22 C hc k
  | 23, _, hc, k => exact zs_23 C hc k
  | 24, _, hc, k => exact zs_24 C hc k
  | 25, _, hc, k => exact zs_25 C hc k
  | 26, _, hc, k => exact zs_26 C hc k
  | 27, _, hc, k => exact zs_27 C hc k
  | 28, _, hc, k => exact zs_28 C hc k
  | 29, _, hc, k => exact zs_29 C hc k
  | 30, _, hc, k => exact zs_30 C hc k
  | 31, _, hc, k => exact zs_31 C hc k
  | 32, _, hc, k => exact zs_32 C hc k
  | 33, _, hc, k => exact zs_33 C hc k
  | 34, _, hc, k => exact zs_34 C hc k
  | 35, _, hc, k => exact zs_35 hck IH C hc k
  | 36, ho, _, _ => exact absurd rfl ho.1
  | 37, ho, _, _ => exact absurd rfl ho.2.1
  | 38, ho, _, _ => exact absurd rfl ho.2.2
  | 39, _, hc, k => exact zs_39 C hc k
  | 40, _, hc, k => exact zs_40 C hc k
  | 41, _, _, k => exact k.elim
  | 42, _, _, k => exact k.elim
  | 43, _, _, k => exact k.elim
  | 44, _, hc, k => exact zs_44 C hc k
  | 45, _, hc, k => exact zs_45 C hc k
  | n + 46, _, _, k => exact k.elim
end
theorem zlookup_mem : ∀ (T : List (Nat × zOp)) (pc : Nat) (o : zOp), T.lookup pc = some o → (pc, o) ∈ T
  | [], _, _, h => by cases h
  | (a, b) :: t, pc, o, h => by
    rw [List.lookup_cons] at h
    by_cases hq : pc = a
    · subst hq
      simp at h
      subst h
      exact List.mem_cons_self
    · have : (pc == a) = false := by simpa using hq
      rw [this] at h
      exact List.mem_cons_of_mem _ (zlookup_mem t pc o h)
theorem zargs_has : ∀ (as : List zV) (i : Nat) (v : zV), (zargs as)[i]? = some (some v) → ∀ k, (k + i, zval v) ∈ lv_args k (as.map zval)
  | [], _, _, h, _ => by simp [zargs] at h
  | x :: t, i, v, h, k => by
    rcases x with x | x | x
    · cases i with
      | zero =>
        have h : zI x = v := by simpa [zargs] using h
        subst h
        exact List.mem_cons_self
      | succ i =>
        have h : (zargs t)[i]? = some (some v) := by simpa [zargs] using h
        have := zargs_has t i v h (k + 1)
        rw [show k + 1 + i = k + (i + 1) by omega] at this
        exact List.mem_cons_of_mem _ this
    · cases i with
      | zero =>
        have h : zJ x = v := by simpa [zargs] using h
        subst h
        exact List.mem_cons_self
      | succ i =>
        cases i with
        | zero => simp [zargs] at h
        | succ i =>
          have h : (zargs t)[i]? = some (some v) := by simpa [zargs] using h
          have := zargs_has t i v h (k + 2)
          rw [show k + 2 + i = k + (i + 1 + 1) by omega] at this
          exact List.mem_cons_of_mem _ this
    · cases i with
      | zero =>
        have h : zR x = v := by simpa [zargs] using h
        subst h
        exact List.mem_cons_self
      | succ i =>
        have h : (zargs t)[i]? = some (some v) := by simpa [zargs] using h
        have := zargs_has t i v h (k + 1)
        rw [show k + 1 + i = k + (i + 1) by omega] at this
        have h1 : (Value.category (zval (zR x))) ≠ 2 := by cases x <;> simp [zval, va_rf, Value.category]
        refine List.mem_cons_of_mem _ ?_
        rw [if_neg h1]
        exact this
theorem zargs_len : ∀ (as : List zV), (lg_sl (as.map zval)).length = (zargs as).length
  | [] => rfl
  | x :: t => by
    have ih := zargs_len t
    rcases x with x | x | (_ | x) <;> simp [zargs, lg_sl, zval, va_rf, Value.category] at ih ⊢ <;> exact ih
theorem zent_has {as : List zV} {n : Nat} (h : (zargs as).length ≤ n) : zhas ((lg_sl (as.map zval) ++ List.replicate (n - (lg_sl (as.map zval)).length) Slot.unset).toArray) n (zent n as) := by
  have h1 := lv_entry (as.map zval) (n := n) (by rw [zargs_len]; exact h)
  refine ⟨by simp [zent]; omega, h1.1, h1.2.1, fun i v hi => ?_⟩
  have hi : (zargs as)[i]? = some (some v) := by
    unfold zent at hi
    by_cases hq : i < (zargs as).length
    · rw [List.getElem?_append_left hq] at hi
      exact hi
    · rw [List.getElem?_append_right (by omega)] at hi
      rw [List.getElem?_replicate] at hi
      split at hi <;> cases hi
  have := h1.2.2 _ (zargs_has as i v hi 0)
  simpa using this
set_option maxHeartbeats 1000000 in
/-- what the pure machine does, the real one does -/
theorem zall (l : Launch) (hnt : l.stackTraces = false) (D : va_G) (cy : Nat → ClassId) (A : Nat → Prop) (hm : ∀ j, j < 152 → zmck j = true) (ht : ∀ j, j < 152 → ztck j = true) : ∀ d, zIH l D cy A d
  | 0 => fun _ _ _ _ _ _ _ k => k.elim
  | d + 1 => by
    have IH := zall l hnt D cy A hm ht d
    intro j as h mc ms Q hj k
    obtain ⟨hlen, k⟩ := k
    obtain ⟨c1, c2, c3, c4, c5, c6, c7, c8, c9⟩ := zmck_spec (hm j hj)
    refine vx_ofW (cc := zC j) (maxL := zL j) (ret := zRt j) c1 rfl ?_
    intro p e s m args below meth c s₁ B hml hex hv
    obtain ⟨rfl, hP, hF, hA⟩ := hv
    have C : zCx p l (headSpec (zws j) (zrm (d + 1) mc ms)).room s m (as.map zval).toArray meth c D cy A mc ms d j := by
      refine ⟨⟨B.exec, B.bytes, hml, B.returns, B.notSynchronized, (name_of_methodNamed B.named B.method).1, findClass_of_methodNamed B.named⟩, fun w hw => atoms_spec (ws := zws j) B.pre w (List.mem_cons_of_mem _ hw), hF, hA, ⟨rfl, rfl, ?_, ?_⟩, hnt, fun _ => hex⟩
      · show d + 8 ≤ d + 1 + 7
        omega
      · show 60 * d + 260 ≤ 60 * (d + 1) + 200
        omega
    rw [lg_entry_eq]
    refine k (zWS p l e (headSpec (zws j) (zrm (d + 1) mc ms)).room s m (as.map zval).toArray below meth c (vx_MQ below (zQc D cy A Q) (zXc D cy A Q) (as.map zval).toArray s mc ms A) D cy A (zL j) mc ms) ?_ (Nat.zero_le _) (Nat.zero_le _) s.heap [] _ hP va_S.rf (zent_has hlen)
    intro pc ls st h u v ⟨o, ho, hs⟩
    have hck : zchk j pc o = true := List.all_eq_true.mp (ht j hj) (pc, o) (zlookup_mem _ _ _ ho)
    by_cases h6 : o.1 = 36
    · obtain ⟨kk, n, a, b, ix, w, z⟩ := o
      have h6 : kk = 36 := h6
      subst h6
      exact zs_36 C hck hs
    · by_cases h7 : o.1 = 37
      · obtain ⟨kk, n, a, b, ix, w, z⟩ := o
        have h7 : kk = 37 := h7
        subst h7
        exact zs_37 C hck hs
      · by_cases h8 : o.1 = 38
        · obtain ⟨kk, n, a, b, ix, w, z⟩ := o
          have h8 : kk = 38 := h8
          subst h8
          exact zs_38 hj C hck hs
        · exact zs_all hm IH C ⟨h6, h7, h8⟩ hck hs
