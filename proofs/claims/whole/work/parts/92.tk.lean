/-! Copied rows; what want and publish do with the rows. -/
def cRow (r r' : rA) (i j : Nat) : Prop := (∀ k, (5 ≤ k ∧ k ≤ 11 ∧ k ≠ 9) → r' k j = r k i) ∧ ∀ c, c < 24 → r' 9 (24 * j + c) = r 9 (24 * i + c)
theorem sRow_tr {r r1 r2 : rA} {i : Nat} (a : sRow r r1 i) (b : sRow r1 r2 i) : sRow r r2 i := ⟨fun k hk => (b.1 k hk).trans (a.1 k hk), fun c hc => (b.2 c hc).trans (a.2 c hc)⟩
theorem cRow_s {r r1 r2 : rA} {i j : Nat} (a : cRow r r1 i j) (b : sRow r1 r2 j) : cRow r r2 i j := ⟨fun k hk => (b.1 k hk).trans (a.1 k hk), fun c hc => (b.2 c hc).trans (a.2 c hc)⟩
theorem sRow_c {r r1 r2 : rA} {i j : Nat} (a : sRow r r1 i) (b : cRow r1 r2 i j) : cRow r r2 i j := ⟨fun k hk => (b.1 k hk).trans (a.1 k hk), fun c hc => (b.2 c hc).trans (a.2 c hc)⟩
theorem sRow_of {r r' : rA} {row : Nat} (h : ∀ j, 5 ≤ j ∧ j ≤ 11 → r' j = r j) : sRow r r' row := ⟨fun j hj => by rw [h j (by omega)], fun c _ => by rw [h 9 (by omega)]⟩
theorem crF_cp {r : rA} {i j : Nat} : cRow r (crF r i j) i j := by
  refine ⟨fun k hk => ?_, fun c hc => ?_⟩
  · have : k = 5 ∨ k = 6 ∨ k = 7 ∨ k = 8 ∨ k = 10 ∨ k = 11 := by omega
    unfold crF
    rcases this with e | e | e | e | e | e <;> subst e
    · rw [cpW_n (by decide), rset_n _ _ _ (by decide), rset_n _ _ _ (by decide), rset_n _ _ _ (by decide), rset_n _ _ _ (by decide), rset_n _ _ _ (by decide), rset_at]
    · rw [cpW_n (by decide), rset_n _ _ _ (by decide), rset_n _ _ _ (by decide), rset_n _ _ _ (by decide), rset_n _ _ _ (by decide), rset_at]
    · rw [cpW_n (by decide), rset_n _ _ _ (by decide), rset_n _ _ _ (by decide), rset_n _ _ _ (by decide), rset_at]
    · rw [cpW_n (by decide), rset_n _ _ _ (by decide), rset_n _ _ _ (by decide), rset_at]
    · rw [cpW_n (by decide), rset_n _ _ _ (by decide), rset_at]
    · rw [cpW_n (by decide), rset_at]
  · unfold crF
    rw [cpW_9, if_pos (by omega), rset_n _ _ _ (by decide), rset_n _ _ _ (by decide), rset_n _ _ _ (by decide), rset_n _ _ _ (by decide), rset_n _ _ _ (by decide), rset_n _ _ _ (by decide), show 24 * j + c - 24 * j = c by omega]
theorem crF_sr {r : rA} {i j row : Nat} (h : row ≠ j) : sRow r (crF r i j) row := by
  refine ⟨fun k hk => ?_, fun c hc => ?_⟩
  · unfold crF
    rw [cpW_n hk.2.2, rset_i h, rset_i h, rset_i h, rset_i h, rset_i h, rset_i h]
  · unfold crF
    rw [cpW_9, if_neg (by omega), rset_n _ _ _ (by decide), rset_n _ _ _ (by decide), rset_n _ _ _ (by decide), rset_n _ _ _ (by decide), rset_n _ _ _ (by decide), rset_n _ _ _ (by decide)]
theorem crN_ok {r : rA} {i j : Nat} : ∀ m, j + m ≤ i → (∀ k, k < m → cRow r (crN r i j m) (i + k) (j + k)) ∧ ∀ row, row < j ∨ j + m ≤ row → sRow r (crN r i j m) row
  | 0, _ => ⟨fun k hk => absurd hk (Nat.not_lt_zero _), fun row _ => sRow_refl r row⟩
  | m + 1, h => by
    obtain ⟨a, b⟩ := crN_ok (r := r) (i := i) (j := j) m (by omega)
    rw [crN]
    refine ⟨fun k hk => ?_, fun row hr => sRow_tr (b row (by omega)) (crF_sr (by omega))⟩
    by_cases e : k = m
    · subst e
      exact sRow_c (b (i + k) (by omega)) crF_cp
    · exact cRow_s (a k (by omega)) (crF_sr (by omega))
theorem rowV_cp {r r' : rA} {i j : Nat} (h : cRow r r' i j) (h24 : (r 8 i).toNatClampNeg ≤ 24) : vEq (rowV r i) (rowV r' j) :=
  ⟨(h.1 5 (by decide)).symm, (h.1 6 (by decide)).symm, (h.1 7 (by decide)).symm, (by show _ = (r' 8 j).toNatClampNeg; rw [h.1 8 (by decide)]; rfl), fun c hc => (h.2 c (Nat.lt_of_lt_of_le hc h24)).symm⟩
theorem spR_cp {r r' : rA} {i j : Nat} (h : cRow r r' i j) (h24 : (r 8 i).toNatClampNeg ≤ 24) : sEq (spR r i) (spR r' j) := by
  unfold spR
  rw [h.1 11 (by decide), h.1 10 (by decide)]
  split
  · exact sEq_refl0
  · exact spC_cg (rowV_cp h h24) _ _
theorem rowOK_cp {r r' : rA} {i j : Nat} (h : cRow r r' i j) (k : rowOK r i) : rowOK r' j := by
  have a : wsz r' j = wsz r i := by rw [wsz, wsz, h.1 8 (by decide)]
  have b : sgn r' j = sgn r i := by rw [sgn, sgn, h.1 10 (by decide)]
  rw [rowOK, a, b, h.1 8 (by decide), h.1 10 (by decide)]; exact k
theorem cmOK_cp {r r' : rA} {i j : Nat} (h : cRow r r' i j) (k : cmOK r i) : cmOK r' j := by
  have a : wsz r' j = wsz r i := by rw [wsz, wsz, h.1 8 (by decide)]
  have b : sgn r' j = sgn r i := by rw [sgn, sgn, h.1 10 (by decide)]
  refine ⟨rowOK_cp h k.1, ?_, ?_⟩
  · rw [a, b, h.1 11 (by decide)]; exact k.2.1
  · rw [h.1 5 (by decide)]; exact k.2.2
theorem rqK_cp {r r' : rA} {y z : Nat} (h12 : r' 12 z = r 12 y) (hK : rqK r y) (hs : ∀ m, m < 4 → cRow r r' (41 + 4 * y + m) (41 + 4 * z + m)) : (∀ g p, rqAt g p (qR r y) → rqAt g p (qR r' z)) ∧ rqK r' z := by
  have ec : cnt r' z = cnt r y := by rw [cnt, cnt, h12]
  obtain ⟨k1, k2, k3⟩ := hK
  refine ⟨fun g p hq => ?_, by rw [h12, ec]; exact k1, by rw [ec]; exact k2, fun m hm => ?_⟩
  · obtain ⟨pa, f, a1, a2, a3, a4⟩ := hq
    have e0 : (qR r' z).1 = (qR r y).1 := ec
    refine ⟨pa, f, by rw [e0]; exact a1, a2, by rw [e0]; exact a3, fun j hj => ?_⟩
    rw [e0] at hj
    obtain ⟨b, b1, b2⟩ := a4 j hj
    have hj' : j < cnt r y := hj
    exact ⟨b, b1, spAt_cg (spR_cp (hs j (by omega)) (k3 j hj').1.1.2) b2⟩
  · rw [ec] at hm
    exact cmOK_cp (hs m (by omega)) (k3 m hm)
theorem rSm_tr {V : Nat} {Y : Nat → Prop} {r r1 r2 : rA} (a : rSm V Y r r1) (b : rSm V Y r1 r2) : rSm V Y r r2 := ⟨fun i hi => by
    obtain ⟨a1, a2, a3, a4, a5, a6⟩ := a.1 i hi
    obtain ⟨b1, b2, b3, b4, b5, b6⟩ := b.1 i hi
    exact ⟨sRow_tr a1 b1, b2.trans a2, b3.trans a3, b4.trans a4, fun c hc => (b5 c hc).trans (a5 c hc), fun k hk => (b6 k hk).trans (a6 k hk)⟩, fun y hy => ⟨(b.2 y hy).1.trans (a.2 y hy).1, fun m hm => sRow_tr ((a.2 y hy).2 m hm) ((b.2 y hy).2 m hm)⟩⟩
/-! the sign of the row for a new version stays -/
theorem rqR_10 {r0 n a : Nat} {r : rA} : (rqR r0 n a r).2.2 10 40 = r 10 40 := by
  have s := rqF_sam (r0 := r0) (n := n) 5 0 a r
  show (rset (rqF r0 n 5 0 a r).2.2.2 12 r0 (nI (rqF r0 n 5 0 a r).2.2.1)) 10 40 = r 10 40
  rw [rset_n _ _ _ (by decide)]
  exact (s 40 (by omega)).1 10 (by omega)
theorem pu_10 {n : Nat} : ∀ (k i a : Nat) (r : rA), (puF n k i a r).2.2 10 40 = r 10 40
  | 0, _, _, r => rfl
  | k + 1, i, a, r => by
    rw [puF]
    split
    · dsimp only
      split
      · rfl
      · split
        · dsimp only
          rw [rset_n _ _ _ (by decide), rqR_10, rset_n _ _ _ (by decide)]
        · rw [pu_10 k, rset_n _ _ _ (by decide), rqR_10, rset_n _ _ _ (by decide)]
    · rfl
theorem ver_10 {n a : Nat} {b : Bool} {r : rA} : (verF n a b r).2.2 10 = r 10 := by
  unfold verF
  dsimp only
  split
  · dsimp only
    rw [rset_n _ _ _ (by decide), bwF_arr (by decide) (by decide), rset_n _ _ _ (by decide), rset_n _ _ _ (by decide), rset_n _ _ _ (by decide)]
  · dsimp only
    rw [rset_n _ _ _ (by decide), cpR_n (by decide), bwF_arr (by decide) (by decide), rset_n _ _ _ (by decide), rset_n _ _ _ (by decide), rset_n _ _ _ (by decide)]
theorem pub_10 {n : Nat} {r : rA} : (pubF n r).2.2 10 40 = r 10 40 := by
  unfold pubF
  dsimp only
  split
  · dsimp only
    rw [rset_n _ _ _ (by decide), ver_10]
  · rw [pu_10, rset_n _ _ _ (by decide), ver_10]
theorem pu_le {n : Nat} : ∀ (k i a : Nat) (r : rA), k + i = 6 → a ≤ n → (puF n k i a r).1 ≤ n + 3
  | 0, _, a, r, _, ha => by show a ≤ n + 3; omega
  | k + 1, i, a, r, h6, ha => by
    rw [puF]
    split
    · rename_i h59
      have hlt := (ahd_eq h59 (nI_ne1 (by omega))).2.1
      dsimp only
      generalize hp : ahd n (a + 1) false (r 2) - nI 48 = p
      split
      · have := (tkA_c (n := n) (a := a + 1 + 1) (b := decide (i = 5) || !isIn p (nI 0) (nI 7)) (t := r 2) (x := nI 32)).2
        show tkA n (a + 1 + 1) (decide (i = 5) || !isIn p (nI 0) (nI 7)) (r 2) (nI 32) ≤ n + 3
        omega
      · rename_i hb
        have hb' : tkB n (a + 1 + 1) (decide (i = 5) || !isIn p (nI 0) (nI 7)) (r 2) (nI 32) = false := by
          cases e : tkB n (a + 1 + 1) (decide (i = 5) || !isIn p (nI 0) (nI 7)) (r 2) (nI 32) with
          | false => rfl
          | true => rw [e] at hb; exact absurd rfl hb
        have ha2 := (tk_ok (nI_ne1 (by omega)) hb').1
        have q3 := (rqR_ok (r0 := 208 + i) (n := n) (r := rset r 13 (200 + i) p) ha2).1.2
        split
        · exact Nat.le_trans q3 (by omega)
        · exact pu_le k (i + 1) _ _ (by omega) q3
    · show a ≤ n + 3
      omega
theorem ver_le {n : Nat} {r : rA} : (verF n 0 false r).1 ≤ n := (verF_ok (Nat.zero_le _)).1
theorem pub_le {n : Nat} {r : rA} (hn : n ≤ 160) : (pubF n r).1 < 100000 := by
  have h1 := ver_le (n := n) (r := r)
  unfold pubF
  generalize verF n 0 false r = w at *
  dsimp only
  split
  · dsimp only
    omega
  · have := pu_le (n := n) 6 0 w.1 (rset w.2.2 14 40 (nI 0)) rfl h1
    omega
/-! want -/
section
variable {R : rA} {p : Nat}
theorem wt_n {k : Nat} (h : k < 5 ∨ 12 < k) (h20 : k ≠ 20) : wtF R p k = R k := by
  rw [wtF, crN_n (by omega), rset_n _ _ _ (by omega), rset_n _ _ _ h20]
theorem wt_20 : wtF R p 20 p = bI true ∧ ∀ q, q ≠ p → wtF R p 20 q = R 20 q := by
  rw [wtF, crN_n (by omega), rset_n _ _ _ (by decide)]
  exact ⟨rset_at _ _ _ _, fun q hq => rset_ne _ _ _ hq⟩
theorem wt_12 : wtF R p 12 p = R 12 213 ∧ ∀ q, q ≠ p → wtF R p 12 q = R 12 q := by
  rw [wtF, crN_n (by omega)]
  refine ⟨?_, fun q hq => ?_⟩
  · rw [rset_at, rset_n _ _ _ (by decide)]
  · rw [rset_ne _ _ _ hq, rset_n _ _ _ (by decide)]
theorem wt_rows (hp : p < 8) : (∀ m, m < 4 → cRow R (wtF R p) (41 + 4 * 213 + m) (41 + 4 * p + m)) ∧ ∀ row, row < 41 + 4 * p ∨ 41 + 4 * p + 4 ≤ row → sRow R (wtF R p) row := by
  have s : ∀ row, sRow R (rset (rset R 20 p (bI true)) 12 p ((rset R 20 p (bI true)) 12 213)) row := fun row => sRow_of (fun j hj => by rw [rset_n _ _ _ (by omega), rset_n _ _ _ (by omega)])
  obtain ⟨a, b⟩ := crN_ok (r := rset (rset R 20 p (bI true)) 12 p ((rset R 20 p (bI true)) 12 213)) (i := 893) (j := 41 + 4 * p) 4 (by omega)
  exact ⟨fun m hm => sRow_c (s _) (a m hm), fun row hr => sRow_tr (s _) (b row hr)⟩
theorem wt_sm (hp : p < 8) : rSm 40 (fun y => y ≠ p) R (wtF R p) := by
  obtain ⟨_, b⟩ := wt_rows (R := R) hp
  refine ⟨fun i hi => ⟨b i (by omega), by rw [wt_n (by omega) (by omega)], by rw [wt_n (by omega) (by omega)], by rw [wt_n (by omega) (by omega)], fun c _ => by rw [wt_n (by omega) (by omega)], fun k _ => by rw [wt_n (by omega) (by omega)]⟩, fun y hy => ⟨wt_12.2 y hy, fun m hm => b _ (by omega)⟩⟩
/-- the wanted requirement stands in the rows of its package -/
theorem wt_rq (hp : p < 8) (hK : rqK R 213) : (∀ g q, rqAt g q (qR R 213) → rqAt g q (qR (wtF R p) p)) ∧ rqK (wtF R p) p := rqK_cp wt_12.1 hK (wt_rows hp).1
theorem wt_40 (hp : p < 8) : wtF R p 10 40 = R 10 40 := ((wt_rows (R := R) hp).2 40 (by omega)).1 10 (by omega)
theorem wt_rVs {v : Nat} (hp : p < 8) (hI : rVs R v) (hK : rqK R 213) : rVs (wtF R p) v := by
  obtain ⟨h1, h2, h3⟩ := hI
  obtain ⟨a, b, c, d, x⟩ := h3
  have hv := h1.1
  have sm : rSm v (fun y => y ≠ p) R (wtF R p) := rSm_mono (wt_sm hp) hv (fun y hy => hy)
  refine ⟨sm_rV1 sm h1 (fun i hi hi' => by rw [wt_n (by omega) (by omega)]; exact x i hi hi'), ⟨fun y hy => ?_, fun k hk => ?_, fun i hi j hj n e => ?_, fun q hq => ?_⟩, fun q hq => ?_, fun i hi => ?_, (wt_40 hp).trans c, fun i hi => ?_, fun i hi hi' => ?_⟩
  · by_cases e : y = p
    · rw [e]; exact (wt_rq hp hK).2
    · exact (sm_rqK sm e (h2.1 y hy)).2
  · by_cases e : k = p
    · rw [e, w0, wt_20.1]; decide +kernel
    · rw [w0, wt_20.2 k e]; exact h2.2.1 k hk
  · rw [sm_ord sm h1 hi hj]
    rw [wt_n (by omega) (by omega)] at e
    exact h2.2.2.1 i hi j hj n e
  · rw [wt_n (by omega) (by omega)]; exact h2.2.2.2 q hq
  · rw [wt_n (by omega) (by omega), wt_n (k := 16) (by omega) (by omega)]; exact a q hq
  · rw [wt_n (by omega) (by omega)]; exact b i hi
  · rw [wt_n (by omega) (by omega), wt_n (k := 19) (by omega) (by omega)]; exact d i hi
  · rw [wt_n (by omega) (by omega)]; exact x i hi hi'
end
