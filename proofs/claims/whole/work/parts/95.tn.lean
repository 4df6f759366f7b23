/-! What a published version is for the class's heap. -/
theorem lk_no {α : Type} {q : Nat} : ∀ (D : List (Nat × α)), D.lookup q = none ↔ ∀ (j : Nat) (d : Nat × α), D[j]? = some d → ¬ d.1 = q
  | [] => ⟨fun _ j d h => (by simp at h), fun _ => rfl⟩
  | (a, b) :: T => by
    rw [List.lookup_cons]
    by_cases e : q = a
    · subst e
      simp only [BEq.rfl]
      exact ⟨nofun, fun h => absurd rfl (h 0 (q, b) rfl)⟩
    · have : (q == a) = false := by simpa using e
      rw [this]
      show T.lookup q = none ↔ _
      rw [lk_no T]
      constructor
      · intro h j d hj
        cases j with
        | zero =>
          have : (a, b) = d := by simpa using hj
          rw [← this]
          exact fun z => e z.symm
        | succ j => exact h j d (by simpa using hj)
      · exact fun h j d hj => h (j + 1) d (by simpa using hj)
theorem lk_ex {α : Type} {q : Nat} {l : α} : ∀ (D : List (Nat × α)), D.lookup q = some l → ∃ j : Nat, D[j]? = some (q, l)
  | [], h => by cases h
  | (a, b) :: T, h => by
    rw [List.lookup_cons] at h
    by_cases e : q = a
    · subst e
      simp only [BEq.rfl] at h
      cases h
      exact ⟨0, rfl⟩
    · have : (q == a) = false := by simpa using e
      rw [this] at h
      obtain ⟨j, hj⟩ := lk_ex T h
      exact ⟨j + 1, by simpa using hj⟩
def dsL (D : List (Nat × List sV)) : Prop := ∀ (j k : Nat) (d e : Nat × List sV), D[j]? = some d → D[k]? = some e → d.1 = e.1 → j = k
theorem lk_at {D : List (Nat × List sV)} (h : dsL D) {j q : Nat} {l : List sV} (hj : D[j]? = some (q, l)) : D.lookup q = some l := by
  cases e : D.lookup q with
  | none => exact absurd rfl ((lk_no D).mp e j _ hj)
  | some l' =>
    obtain ⟨k, hk⟩ := lk_ex D e
    have := h j k _ _ hj hk rfl
    subst this
    rw [hj] at hk
    cases hk
    rfl
theorem pd_ds {t : Nat → Int32} {n : Nat} : ∀ (f a : Nat) (D L : List (Nat × List sV)), pdC t n f a D L → dsL D → dsL L
  | 0, a, D, L, h, hd => by rw [h.2]; exact hd
  | f + 1, a, D, L, h, hd => by
    rcases h with ⟨_, _, e⟩ | ⟨_, q, l, e, _, _, _, hl, hp⟩
    · rw [e]; exact hd
    · refine pd_ds f e _ L hp (fun j k d d' hj hk he => ?_)
      rcases snoc_at rfl hj with ⟨a1, a2⟩ | ⟨a1, a2⟩
      · rcases snoc_at rfl hk with ⟨b1, b2⟩ | ⟨b1, b2⟩
        · omega
        · rw [a2] at he
          exact absurd he.symm ((lk_no D).mp hl k d' b2)
      · rcases snoc_at rfl hk with ⟨b1, b2⟩ | ⟨b1, b2⟩
        · rw [b2] at he
          exact absurd he ((lk_no D).mp hl j d a2)
        · exact hd j k d d' a2 b2 he
theorem wd_neg {x : Int32} (h : x < 0) : isWd x = false ∧ ¬ x = nI 46 ∧ ¬ x = nI 43 := by
  have l : ∀ k : Nat, k < 128 → x < nI k := fun k hk => by
    rw [Int32.lt_iff_toInt_lt] at h ⊢
    rw [nI_toInt (by omega)]
    have : (0 : Int32).toInt = 0 := by decide
    omega
  have ne : ∀ k : Nat, k < 128 → ¬ x = nI k := fun k hk z => by
    have := l k hk
    rw [z, Int32.lt_iff_toInt_lt] at this
    omega
  have d : isDg x = false := by simp [isDg, l 48 (by omega)]
  refine ⟨?_, ne 46 (by omega), ne 43 (by omega)⟩
  simp [isWd, d, l 65 (by omega), l 97 (by omega), ne 45 (by omega)]
theorem vch_b {x : Int32} (h : vch x = true) : x.toInt8.toInt32 = x := by
  by_cases g : nI 127 < x
  · have : vch x = false := by simp [vch, tx_wd1 g, (tx_big (c := 46) (by omega) g).1, (tx_big (c := 43) (by omega) g).1]
    rw [this] at h; cases h
  · by_cases g0 : x < 0
    · have w := wd_neg g0
      have : vch x = false := by simp [vch, w.1, w.2.1, w.2.2]
      rw [this] at h; cases h
    · obtain ⟨k, hk, e⟩ := nI_of g0
      rw [e] at g ⊢
      exact i2b_n (Nat.lt_of_not_le (fun z => g ((nI_ltI (by omega) hk).mpr (by omega))))
/-! sound publications -/
abbrev pubB (n : Nat) (r : rA) : Bool := !(pubF n r).2.1 && decide ((pubF n r).1 = n)
theorem pubB_no {n : Nat} {r : rA} (h : veN (r 2) n 0 ∨ (veR (r 2) n 0 ∧ pdN (r 2) n 5 (veE (r 2) n 0) [])) : pubB n r = false := by
  rcases pub_no h with z | z
  · rw [pubB, z]; rfl
  · rw [pubB, decide_eq_false z, Bool.and_false]
theorem hsF_f {r : rA} {pk : Int32} : ∀ k, hsF r pk k = false → ∀ i, i < k → r 16 i = pk → ¬ ordF r i (wsz r i) 40 (wsz r 40) = 0
  | 0, _, i, hi, _ => absurd hi (Nat.not_lt_zero _)
  | k + 1, h, i, hi, e => by
    rw [hsF, Bool.or_eq_false_iff] at h
    by_cases q : i = k
    · subst q
      have := h.2
      rw [decide_eq_true e, Bool.true_and] at this
      exact of_decide_eq_false this
    · exact hsF_f k h.1 i (by omega) e
theorem hs_eq {r R : rA} {v p : Nat} {V : vV} (hI : rVs r v) (pR : pF r R) (ev : vEq V (rowV R 40)) : ∀ k, k ≤ v → hsV r p V k = hsF R (nI p) k
  | 0, _ => rfl
  | k + 1, hk => by
    have hv := hI.1.1
    have sm := pF_sm pR
    rw [hsV, hsF, hs_eq hI pR ev k (by omega), pR.2.1 16 (by omega), ord_eq, ordV_cg (sm_row (sm.1 k (by omega)).1 (hI.1.2.1 k (by omega))).2 ev]
/-- what is known where the class has read a publication -/
theorem pub_H {n v : Nat} {r : rA} {L : List (Nat × List sV)} (hI : rVs r v) (h : veR (r 2) n 0) (h2 : pdC (r 2) n 5 (veE (r 2) n 0) [] L) : pubB n r = true ∧ rowOK (pubF n r).2.2 40 ∧ vEq (veV (r 2) n 0) (rowV (pubF n r).2.2 40) ∧ pkS (pubF n r).2.2 L ∧ rqS (pubF n r).2.2 L ∧ dsL L ∧ (∀ j, j < veE (r 2) n 0 → (pubF n r).2.2 19 (960 + j) = r 2 j) ∧ ∀ p, p < 8 → v < 40 → hsF (pubF n r).2.2 (nI p) v = false → pbH (pubF n r).2.2 v p L.length (veE (r 2) n 0) := by
  obtain ⟨R, e, a1, a2, a3, a4, a5, a6, a7, a8, a9, a10⟩ := pub_ok h h2
  have ds : dsL L := pd_ds 5 _ [] L h2 (fun j k d e hj => (by simp at hj))
  rw [pubB, e]
  dsimp only
  have rk : rowOK R 40 := by
    have : R 10 40 = nI 0 := a10.trans hI.2.2.2.2.1
    refine ⟨a2, ?_⟩
    rw [sgn, this, nI_clamp (by omega)]
    exact ⟨rfl, by omega⟩
  have get : ∀ k, k < L.length → ∃ d, L[k]? = some d := fun k hk => ⟨L[k], List.getElem?_eq_getElem hk⟩
  refine ⟨by simp, rk, a1, a6, a7, ds, a5, fun p hp hv hs => ⟨hv, hp, rk, ⟨a8, a9⟩, fun k hk => ?_, fun k hk j hj q => ?_, fun k hk => ?_, fun i hi q => ?_, ⟨a3, a4⟩, fun j hj => ?_⟩⟩
  · obtain ⟨d, hd⟩ := get k hk
    exact ⟨d.1, (a6 k d hd).1, (a6 k d hd).2⟩
  · obtain ⟨d, hd⟩ := get k hk
    obtain ⟨d', hd'⟩ := get j hj
    rw [(a6 k d hd).2, (a6 j d' hd').2] at q
    exact ds k j d d' hd hd' (nI_i (by have := (a6 k d hd).1; omega) (by have := (a6 j d' hd').1; omega) q)
  · obtain ⟨d, hd⟩ := get k hk
    exact (a7 k d hd).2
  · rw [← ord_eq]
    exact hsF_f v hs i hi q
  · rw [a5 j hj]
    exact vch_b (ve_ch h.1 (Nat.zero_le _) hj)
/-- the new release stands for the new version -/
theorem rel_new {g : zH} {R r' : rA} {t : Nat → Int32} {v p len pv pw pr pd : Nat} {V : vV} {L : List (Nat × List sV)} (o : pbO R r' v p L.length len) (h24 : len ≤ 24) (h40 : rowOK R 40) (ev : vEq V (rowV R 40)) (pS : pkS R L) (qS : rqS R L) (ds : dsL L) (h19 : ∀ j, j < len → R 19 (960 + j) = t j) (b : rlB g pv pw pr pd V len t L) : relB g r' v pv pw pr pd L.length := by
  obtain ⟨o1, o2, o3, ⟨o4, o5⟩, ⟨o6, o7⟩, ⟨o8, o9⟩, ⟨o10, o11⟩, o12, o13, o14, o15⟩ := o
  obtain ⟨⟨b1, fb, b2, b3⟩, ⟨f, c1, c2⟩, ⟨fd, d1, d2⟩, l5⟩ := b
  have get : ∀ k, k < L.length → ∃ d, L[k]? = some d := fun k hk => ⟨L[k], List.getElem?_eq_getElem hk⟩
  refine ⟨vrAt_cg (vEq_trans ev (rowV_cp o3 h40.1.2)) b1, ⟨len, fb, o10, h24, b2, fun j hj => ?_⟩, ⟨fd, d1, fun j hj => ?_⟩, ⟨f, c1, fun k hk => ⟨fun e => ?_, fun j e => ?_⟩⟩⟩
  · rw [o11 j (by omega), h19 j hj]; exact b3 j hj
  · obtain ⟨d, hd⟩ := get j hj
    rw [o12 j hj, (pS j d hd).2]
    exact d2 j d.1 (by rw [List.getElem?_map, hd]; rfl)
  · refine (c2 k hk).1 ((lk_no L).mpr (fun j d hd q => ?_))
    have hj : j < L.length := (List.getElem?_eq_some_iff.mp hd).1
    refine (ndX_none _).mp e j hj ?_
    rw [o12 j hj, (pS j d hd).2, q]
  · obtain ⟨hj, q⟩ := ndX_some _ _ e
    obtain ⟨d, hd⟩ := get j hj
    have p8 := (pS j d hd).1
    rw [o12 j hj, (pS j d hd).2] at q
    have ek : d.1 = k := nI_i (by omega) (by omega) q
    have hd' : L[j]? = some (k, d.2) := by rw [hd, ← ek]
    obtain ⟨u, u1, u2⟩ := (c2 k hk).2 d.2 (lk_at ds hd')
    exact ⟨u, u1, (o14 j hj).1 _ _ ((qS j d hd).1 _ _ u2)⟩
/-! the search's tables -/
theorem srK_pb {Kf : Nat → Int32} {O : Nat → Int64} {r r' : rA} {v p : Nat} (hv : v < 40) (hp : p < 8) (k : srK Kf O (vR v) (kpR r)) (e : ∀ o, vR v o → kpR r' o = kpR r o) (ev : pkN r' v = p) : srK (upd Kf v (nI (pkN r' v))) (vp_updL O (pkN r' v) (O (pkN r' v) ||| zlsh 0 1 (nI v))) (vR (v + 1)) (kpR r') := by
  obtain ⟨a, b, c⟩ := k
  have kv : kpR r' v = p := by rw [kpR, if_pos hv]; exact ev
  have vs : ∀ o, vR (v + 1) o ↔ o = v ∨ vR v o := fun o => by unfold vR; omega
  have nv : ¬ vR v v := fun z => by unfold vR at z; omega
  rw [ev]
  refine ⟨fun o ho => ?_, fun q hq o ho => ?_, fun q hq => ⟨(vs _).mpr (Or.inr (c q hq).1), ?_⟩⟩
  · by_cases z : o = v
    · subst z
      rw [upd_at, kv]
      exact ⟨by omega, rfl, hp⟩
    · have ho' := ((vs o).mp ho).resolve_left z
      rw [upd_ne _ _ z, e o ho']
      exact a o ho'
  · by_cases z : q = p
    · subst z
      rw [upL_s, tst_or, tst_sh (by omega) ho, Bool.or_eq_true, b q hq o ho, decide_eq_true_eq, vs o]
      constructor
      · rintro (⟨x, y⟩ | x)
        · exact ⟨Or.inr x, by rw [e o x]; exact y⟩
        · rw [x]; exact ⟨Or.inl rfl, kv⟩
      · rintro ⟨x | x, y⟩
        · exact Or.inr x
        · exact Or.inl ⟨x, by rw [← e o x]; exact y⟩
    · rw [upL_n _ _ z, b q hq o ho, vs o]
      constructor
      · rintro ⟨x, y⟩; exact ⟨Or.inr x, by rw [e o x]; exact y⟩
      · rintro ⟨x | x, y⟩
        · rw [x, kv] at y; exact absurd y.symm z
        · exact ⟨x, by rw [← e o x]; exact y⟩
  · rw [e _ (c q hq).1]; exact (c q hq).2
theorem cSp_pb {r r' : rA} {v : Nat} {C : Nat → Int64} (hv : v < 40) (hC : cSp r v C) (e : ∀ a b, vR v a → vR v b → clR r' a b = clR r a b) : cSp r' (v + 1) (lnB r' v C (v + 1)) := fun a ha b hb => by
  have vs : ∀ o, vR (v + 1) o ↔ o = v ∨ vR v o := fun o => by unfold vR; omega
  rw [lnB_iff hv hb (v + 1) (by omega), lnA_iff hv hb 8 (by omega), hC a ha b hb]
  constructor
  · rintro ((⟨x, y, z⟩ | ⟨p, x, y, z⟩) | ⟨q, x, y, z⟩)
    · exact ⟨(vs _).mpr (Or.inr x), (vs _).mpr (Or.inr y), by rw [e a b x y]; exact z⟩
    · rcases z with ⟨z1, z2⟩ | ⟨z1, z2⟩
      · subst z1 z2
        exact ⟨(vs _).mpr (Or.inl rfl), Or.inr (by omega), by rw [clR, if_pos hv, if_neg (by omega), show 40 + p - 40 = p by omega]; exact y⟩
      · subst z1 z2
        exact ⟨Or.inr (by omega), (vs _).mpr (Or.inl rfl), by rw [clR, if_neg (by omega), if_pos hv, show 40 + p - 40 = p by omega]; exact y⟩
    · rcases z with ⟨z1, z2⟩ | ⟨z1, z2⟩
      · subst z1 z2
        exact ⟨Or.inl (by omega), Or.inl (by omega), by rw [clR, if_pos hv, if_pos (by omega)]; exact y⟩
      · subst z1 z2
        exact ⟨Or.inl (by omega), Or.inl (by omega), by rw [clR, if_pos (by omega), if_pos hv, Bool.or_comm]; exact y⟩
  · rintro ⟨x, y, z⟩
    by_cases ea : a = v
    · subst ea
      by_cases eb : b < 40
      · refine Or.inr ⟨b, ?_, ?_, Or.inl ⟨rfl, rfl⟩⟩
        · rcases y with y | y <;> omega
        · rw [clR, if_pos hv, if_pos eb] at z; exact z
      · refine Or.inl (Or.inr ⟨b - 40, ?_, ?_, Or.inl ⟨rfl, by omega⟩⟩)
        · rcases y with y | y <;> omega
        · rw [clR, if_pos hv, if_neg eb] at z; exact z
    · by_cases eb : b = v
      · subst eb
        by_cases ec : a < 40
        · refine Or.inr ⟨a, ?_, ?_, Or.inr ⟨rfl, rfl⟩⟩
          · rcases x with x | x <;> omega
          · rw [clR, if_pos ec, if_pos hv, Bool.or_comm] at z; exact z
        · refine Or.inl (Or.inr ⟨a - 40, ?_, ?_, Or.inr ⟨by omega, rfl⟩⟩)
          · omega
          · rw [clR, if_neg ec, if_pos hv] at z; exact z
      · have x' := ((vs a).mp x).resolve_left ea
        have y' := ((vs b).mp y).resolve_left eb
        exact Or.inl (Or.inl ⟨x', y', by rw [← e a b x' y']; exact z⟩)
