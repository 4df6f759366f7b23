/-! What publish does with the rows. -/
section
variable {R : rA} {v : Nat} {pk : Int32}
theorem pb1_n {j : Nat} (h : j ≠ 18) : pb1 R v j = crF R 40 v j := by rw [pb1, rset_n _ _ _ h]
theorem p2_o {j : Nat} (h : j < 5 ∨ j = 15 ∨ 19 < j) : pb2 R v pk j = R j := by
  unfold pb2
  rw [rset_n _ _ _ (by omega), rset_n _ _ _ (by omega), rset_n _ _ _ (by omega), rput_n (by omega), pb1_n (by omega), crF_n (by omega)]
theorem p2_r {row : Nat} (h : row ≠ v) : sRow R (pb2 R v pk) row := ⟨fun j hj => by rw [pb2_n (by omega)]; exact (crF_sr h).1 j hj, fun c hc => by rw [pb2_n (by omega)]; exact (crF_sr h).2 c hc⟩
theorem p2_c : cRow R (pb2 R v pk) 40 v := ⟨fun j hj => by rw [pb2_n (by omega)]; exact crF_cp.1 j hj, fun c hc => by rw [pb2_n (by omega)]; exact crF_cp.2 c hc⟩
theorem p2_12 : pb2 R v pk 12 = R 12 := by rw [pb2_n (by omega), crF_n (by omega)]
theorem p2_13 : pb2 R v pk 13 = R 13 := by rw [pb2_n (by omega), crF_n (by omega)]
theorem p2_14 {i : Nat} (h : i ≠ v) : pb2 R v pk 14 i = R 14 i := by
  unfold pb2
  rw [rset_ne _ _ _ h, rset_n _ _ _ (by decide), rset_n _ _ _ (by decide), rput_n (by decide), pb1_n (by decide), crF_n (by omega)]
theorem p2_16 : pb2 R v pk 16 v = pk ∧ ∀ i, i ≠ v → pb2 R v pk 16 i = R 16 i := by
  unfold pb2
  rw [rset_n _ _ _ (by decide), rset_n _ _ _ (by decide)]
  refine ⟨rset_at _ _ _ _, fun i h => ?_⟩
  rw [rset_ne _ _ _ h, rput_n (by decide), pb1_n (by decide), crF_n (by omega)]
theorem p2_17 : pb2 R v pk 17 v = bI false ∧ ∀ i, i ≠ v → pb2 R v pk 17 i = R 17 i := by
  unfold pb2
  rw [rset_n _ _ _ (by decide)]
  refine ⟨rset_at _ _ _ _, fun i h => ?_⟩
  rw [rset_ne _ _ _ h, rset_n _ _ _ (by decide), rput_n (by decide), pb1_n (by decide), crF_n (by omega)]
theorem p2_18 : pb2 R v pk 18 v = R 18 40 ∧ ∀ i, i ≠ v → pb2 R v pk 18 i = R 18 i := by
  unfold pb2
  rw [rset_n _ _ _ (by decide), rset_n _ _ _ (by decide), rset_n _ _ _ (by decide), rput_n (by decide), pb1]
  refine ⟨?_, fun i h => ?_⟩
  · rw [rset_at, crF_n (by omega)]
  · rw [rset_ne _ _ _ h, crF_n (by omega)]
theorem p2_19 : (∀ c, c < 24 → pb2 R v pk 19 (24 * v + c) = R 19 (960 + c)) ∧ ∀ i, i < 24 * v ∨ 24 * v + 24 ≤ i → pb2 R v pk 19 i = R 19 i := by
  unfold pb2
  rw [rset_n _ _ _ (by decide), rset_n _ _ _ (by decide), rset_n _ _ _ (by decide)]
  have e : pb1 R v 19 = R 19 := by rw [pb1_n (by decide), crF_n (by omega)]
  have g : ∀ i, rput (pb1 R v) 19 (24 * v) (fun y => pb1 R v 19 (960 + y)) 24 19 i = if 24 * v ≤ i ∧ i < 24 * v + 24 then R 19 (960 + (i - 24 * v)) else R 19 i := fun i => by simp [rput, e]
  refine ⟨fun c hc => ?_, fun i h => ?_⟩
  · rw [g, if_pos (by omega), show 24 * v + c - 24 * v = c by omega]
  · rw [g, if_neg (by omega)]
end
theorem pbN_ok {R : rA} {v : Nat} (hv : v < 40) : ∀ k, k ≤ 5 → (∀ x, x < k → pbN R v k 13 (5 * v + x) = R 13 (200 + x) ∧ pbN R v k 12 (8 + 5 * v + x) = R 12 (208 + x) ∧ ∀ m, m < 4 → cRow R (pbN R v k) (41 + 4 * (208 + x) + m) (41 + 4 * (8 + 5 * v + x) + m)) ∧ (∀ i, i < 5 * v ∨ 5 * v + k ≤ i → pbN R v k 13 i = R 13 i) ∧ (∀ i, i < 8 + 5 * v ∨ 8 + 5 * v + k ≤ i → pbN R v k 12 i = R 12 i) ∧ ∀ row, row < 41 + 4 * (8 + 5 * v) ∨ 41 + 4 * (8 + 5 * v + k) ≤ row → sRow R (pbN R v k) row
  | 0, _ => ⟨fun x hx => absurd hx (Nat.not_lt_zero _), fun _ _ => rfl, fun _ _ => rfl, fun row _ => sRow_refl R row⟩
  | k + 1, hk => by
    obtain ⟨a, b, c, d⟩ := pbN_ok (R := R) hv k (by omega)
    rw [pbN]
    generalize pbN R v k = P at *
    have e13 : P 13 (200 + k) = R 13 (200 + k) := b _ (by omega)
    have e12 : P 12 (208 + k) = R 12 (208 + k) := c _ (by omega)
    rw [e13, show rset P 13 (5 * v + k) (R 13 (200 + k)) 12 (208 + k) = R 12 (208 + k) by rw [rset_n _ _ _ (by decide)]; exact e12]
    have s : ∀ row, sRow P (rset (rset P 13 (5 * v + k) (R 13 (200 + k))) 12 (8 + 5 * v + k) (R 12 (208 + k))) row := fun row => sRow_of (fun j hj => by rw [rset_n _ _ _ (by omega), rset_n _ _ _ (by omega)])
    have q13 : rset (rset P 13 (5 * v + k) (R 13 (200 + k))) 12 (8 + 5 * v + k) (R 12 (208 + k)) 13 = rset P 13 (5 * v + k) (R 13 (200 + k)) 13 := rset_n _ _ _ (by decide)
    have q12 : ∀ i, rset (rset P 13 (5 * v + k) (R 13 (200 + k))) 12 (8 + 5 * v + k) (R 12 (208 + k)) 12 i = if i = 8 + 5 * v + k then R 12 (208 + k) else P 12 i := fun i => by
      by_cases e : i = 8 + 5 * v + k
      · rw [if_pos e, e, rset_at]
      · rw [if_neg e, rset_ne _ _ _ e, rset_n _ _ _ (by decide)]
    generalize rset (rset P 13 (5 * v + k) (R 13 (200 + k))) 12 (8 + 5 * v + k) (R 12 (208 + k)) = Q at *
    obtain ⟨u, w⟩ := crN_ok (r := Q) (i := 41 + 4 * (208 + k)) (j := 41 + 4 * (8 + 5 * v + k)) 4 (by omega)
    have n13 : crN Q (41 + 4 * (208 + k)) (41 + 4 * (8 + 5 * v + k)) 4 13 = rset P 13 (5 * v + k) (R 13 (200 + k)) 13 := by rw [crN_n (by omega), q13]
    have n12 : ∀ i, crN Q (41 + 4 * (208 + k)) (41 + 4 * (8 + 5 * v + k)) 4 12 i = if i = 8 + 5 * v + k then R 12 (208 + k) else P 12 i := fun i => by rw [crN_n (by omega), q12]
    generalize crN Q (41 + 4 * (208 + k)) (41 + 4 * (8 + 5 * v + k)) 4 = Z at *
    refine ⟨fun x hx => ?_, fun i hi => ?_, fun i hi => ?_, fun row hr => sRow_tr (d row (by omega)) (sRow_tr (s row) (w row (by omega)))⟩
    · by_cases e : x = k
      · subst e
        refine ⟨by rw [n13, rset_at], by rw [n12, if_pos rfl], fun m hm => ?_⟩
        exact sRow_c (sRow_tr (d _ (by omega)) (s _)) (u m hm)
      · obtain ⟨a1, a2, a3⟩ := a x (by omega)
        refine ⟨by rw [n13, rset_ne _ _ _ (by omega)]; exact a1, by rw [n12, if_neg (by omega)]; exact a2, fun m hm => ?_⟩
        exact cRow_s (a3 m hm) (sRow_tr (s _) (w _ (by omega)))
    · rw [n13, rset_ne _ _ _ (by omega)]; exact b i (by omega)
    · rw [n12, if_neg (by omega)]; exact c i (by omega)
/-- what is known of a publication that is sound -/
def pbH (R : rA) (v p m len : Nat) : Prop := v < 40 ∧ p < 8 ∧ rowOK R 40 ∧ (R 14 40 = nI m ∧ m ≤ 5) ∧ (∀ k, k < m → ∃ x, x < 8 ∧ R 13 (200 + k) = nI x) ∧ (∀ k, k < m → ∀ j, j < m → R 13 (200 + k) = R 13 (200 + j) → k = j) ∧ (∀ k, k < m → rqK R (208 + k)) ∧ (∀ i, i < v → R 16 i = nI p → ¬ ordV (rowV R i) (rowV R 40) = 0) ∧ (R 18 40 = nI len ∧ len ≤ 24) ∧ ∀ j, j < len → (R 19 (960 + j)).toInt8.toInt32 = R 19 (960 + j)
/-- what stands in the arrays behind it -/
def pbO (R r' : rA) (v p m len : Nat) : Prop := (∀ j, j < 5 ∨ j = 15 ∨ 19 < j → r' j = R j) ∧ rSm v (fun y => ¬ (8 + 5 * v ≤ y ∧ y < 8 + 5 * v + m)) R r' ∧ cRow R r' 40 v ∧ (r' 14 v = nI m ∧ ∀ i, i ≠ v → r' 14 i = R 14 i) ∧ (r' 16 v = nI p ∧ ∀ i, i ≠ v → r' 16 i = R 16 i) ∧ (r' 17 v = bI false ∧ ∀ i, i ≠ v → r' 17 i = R 17 i) ∧ (r' 18 v = nI len ∧ ∀ c, c < 24 → r' 19 (24 * v + c) = R 19 (960 + c)) ∧ (∀ k, k < m → r' 13 (5 * v + k) = R 13 (200 + k)) ∧ (∀ i, i < 5 * v ∨ 5 * v + m ≤ i → r' 13 i = R 13 i) ∧ (∀ k, k < m → (∀ g q, rqAt g q (qR R (208 + k)) → rqAt g q (qR r' (8 + 5 * v + k))) ∧ rqK r' (8 + 5 * v + k)) ∧ sRow R r' 40
theorem pb_O {R : rA} {v p m len : Nat} (h : pbH R v p m len) : pbO R (pbR R v (nI p)) v p m len := by
  obtain ⟨hv, hp, h40, ⟨hm, m5⟩, _, _, hq, _, ⟨h18, l24⟩, _⟩ := h
  rw [pbR, hm, nI_clamp (by omega)]
  obtain ⟨a, b, c, d⟩ := pbN_ok (R := pb2 R v (nI p)) hv m m5
  have o : ∀ j, j < 5 ∨ 13 < j → pbN (pb2 R v (nI p)) v m j = pb2 R v (nI p) j := fun j hj => pbN_n hj m
  generalize pbN (pb2 R v (nI p)) v m = Z at *
  have sr : ∀ row, row ≠ v → (row < 41 + 4 * (8 + 5 * v) ∨ 41 + 4 * (8 + 5 * v + m) ≤ row) → sRow R Z row := fun row h1 h2 => sRow_tr (p2_r h1) (d row h2)
  refine ⟨fun j hj => (o j (by omega)).trans (p2_o (by omega)), ⟨fun i hi => ⟨sr i (by omega) (by omega), ?_, ?_, ?_, fun x hx => ?_, fun k hk => ?_⟩, fun y hy => ⟨?_, fun x hx => sr _ (by omega) (by omega)⟩⟩, cRow_s p2_c (d v (by omega)), ⟨?_, fun i hi => ?_⟩, ⟨?_, fun i hi => ?_⟩, ⟨?_, fun i hi => ?_⟩, ⟨?_, fun x hx => ?_⟩, fun k hk => ?_, fun i hi => ?_, fun k hk => ?_, sr 40 (by omega) (by omega)⟩
  · rw [o 14 (by omega), p2_14 (by omega)]
  · rw [o 16 (by omega), p2_16.2 i (by omega)]
  · rw [o 18 (by omega), p2_18.2 i (by omega)]
  · rw [o 19 (by omega), p2_19.2 _ (by omega)]
  · rw [b _ (by omega), p2_13]
  · rw [c _ (by omega), p2_12]
  · rw [o 14 (by omega), pb2_14]; exact hm
  · rw [o 14 (by omega), p2_14 hi]
  · rw [o 16 (by omega)]; exact p2_16.1
  · rw [o 16 (by omega)]; exact p2_16.2 i hi
  · rw [o 17 (by omega)]; exact p2_17.1
  · rw [o 17 (by omega)]; exact p2_17.2 i hi
  · rw [o 18 (by omega), p2_18.1]; exact h18
  · rw [o 19 (by omega)]; exact p2_19.1 x hx
  · rw [(a k hk).1, p2_13]
  · rw [b i hi, p2_13]
  · refine rqK_cp ?_ (hq k hk) (fun x hx => sRow_c (p2_r (by omega)) ((a k hk).2.2 x hx))
    rw [(a k hk).2.1, p2_12]
theorem ord_0 {V U : vV} (h : ordV V U = 0) : ordV U V = 0 := by
  rcases ord_tri (V := U) (U := V) with z | z | z
  · have := ord_pos.mpr z
    rw [h] at this
    exact absurd this (by decide +kernel)
  · exact z
  · have := ord_pos.mp z
    rw [h] at this
    exact absurd this (by decide +kernel)
theorem pb_V {R r' : rA} {v p m len : Nat} (hI : rVs R v) (h : pbH R v p m len) (o : pbO R r' v p m len) : rVs r' (v + 1) ∧ vEq (rowV R 40) (rowV r' v) := by
  obtain ⟨h1, h2, h3⟩ := hI
  obtain ⟨hv, hp, h40, ⟨hm, m5⟩, hn, hd, hq, ho, ⟨h18, l24⟩, hb⟩ := h
  obtain ⟨o1, o2, o3, ⟨o4, o5⟩, ⟨o6, o7⟩, ⟨o8, o9⟩, ⟨o10, o11⟩, o12, o13, o14, o15⟩ := o
  obtain ⟨a1, a2, a3, a4, a5⟩ := h3
  have ev : vEq (rowV R 40) (rowV r' v) := rowV_cp o3 h40.1.2
  have em : nM r' v = m := by rw [nM, o4, nI_clamp (by omega)]
  refine ⟨⟨⟨by omega, fun i hi => ?_, fun i hi => ?_, fun i hi => ?_, fun i hi k hk j hj e => ?_⟩, ⟨fun y hy => ?_, fun k hk => ?_, fun i hi j hj n e => ?_, fun q hq' => ?_⟩, fun q hq' => ?_, fun i hi => ?_, ?_, fun i hi => ?_, fun i hi hi' => ?_⟩, ev⟩
  · by_cases e : i = v
    · rw [e]; exact rowOK_cp o3 h40
    · exact (sm_row (o2.1 i (by omega)).1 (h1.2.1 i (by omega))).1
  · by_cases e : i = v
    · rw [e]; exact ⟨p, hp, o6⟩
    · rw [o7 i e]; exact h1.2.2.1 i (by omega)
  · by_cases e : i = v
    · rw [e]; exact ⟨m, m5, o4, fun k hk => by rw [o12 k hk]; exact hn k hk⟩
    · obtain ⟨x, x1, x2, x3⟩ := h1.2.2.2.1 i hi
      exact ⟨x, x1, by rw [o5 i e]; exact x2, fun k hk => by rw [o13 _ (by omega)]; exact x3 k hk⟩
  · by_cases e9 : i = v
    · subst e9
      rw [em] at hk hj
      rw [o12 k hk, o12 j hj] at e
      exact hd k hk j hj e
    · have n5 := (nM_at h1 (show i < 40 by omega)).1
      have en : nM r' i = nM R i := by rw [nM, nM, o5 i e9]
      rw [en] at hk hj
      rw [o13 _ (by omega), o13 _ (by omega)] at e
      exact h1.2.2.2.2 i (by omega) k hk j hj e
  · by_cases c : 8 + 5 * v ≤ y ∧ y < 8 + 5 * v + m
    · have := (o14 (y - (8 + 5 * v)) (by omega)).2
      rwa [show 8 + 5 * v + (y - (8 + 5 * v)) = y by omega] at this
    · exact (sm_rqK o2 c (h2.1 y hy)).2
  · rw [w0, o1 20 (by omega)]; exact h2.2.1 k hk
  · by_cases ei : i = v
    · have ej : j ≠ v := by omega
      rw [ei]
      rw [ei, o6, o7 j ej] at e
      have := ho j (by omega) e.symm
      rw [← ordV_cg ev (sm_row (o2.1 j (by omega)).1 (h1.2.1 j (by omega))).2]
      exact fun z => this (ord_0 z)
    · by_cases ej : j = v
      · rw [ej]
        rw [ej, o6, o7 i ei] at e
        rw [← ordV_cg (sm_row (o2.1 i (by omega)).1 (h1.2.1 i (by omega))).2 ev]
        exact ho i (by omega) e
      · rw [sm_ord o2 h1 (by omega) (by omega)]
        rw [o7 i ei, o7 j ej] at e
        exact h2.2.2.1 i (by omega) j (by omega) n e
  · rw [o1 21 (by omega)]
    exact (h2.2.2.2 q hq').imp id (fun ⟨i, x, y⟩ => ⟨i, by omega, y⟩)
  · rw [o1 22 (by omega)]
    exact (a1 q hq').imp id (fun ⟨i, x, y, z⟩ => ⟨i, by omega, y, by rw [o7 i (by omega)]; exact z⟩)
  · by_cases e : i = v
    · rw [e]; exact ⟨false, o8⟩
    · rw [o9 i e]; exact a2 i (by omega)
  · rw [o15.1 10 (by omega)]; exact a3
  · by_cases e : i = v
    · subst e
      exact ⟨len, l24, o10, fun j hj => by rw [o11 j (by omega)]; exact hb j hj⟩
    · obtain ⟨x, x1, x2, x3⟩ := a4 i (by omega)
      obtain ⟨_, _, _, s4, s5, _⟩ := o2.1 i (by omega)
      exact ⟨x, x1, by rw [s4]; exact x2, fun j hj => by rw [s5 j (by omega)]; exact x3 j hj⟩
  · rw [o5 i (by omega)]; exact a5 i (by omega) hi'
