/-! The class's heap stands for other rows that hold the same. -/
section
variable {h h' g g' : zH} {K A : Nat → Nat} {n v f : Nat} {r r' : rA}
theorem cT_r (k : cT h K n r) (e : r' 2 = r 2) : cT h K n r' := by
  obtain ⟨tc, a, b, c, d, x⟩ := k
  exact ⟨tc, a, b, c, by rw [e]; exact d, x⟩
theorem cF_r (k : cF h K f r) (e : ∀ j, j < f → r' 24 j = r 24 j) : cF h K f r' := by
  obtain ⟨tc, a, b, c, d⟩ := k
  exact ⟨tc, a, b, c, fun j hj => (d j hj).trans (e j hj).symm⟩
theorem srK_kp {Kf : Nat → Int32} {O : Nat → Int64} {vO : Nat → Prop} {kp kp' : Nat → Nat} (k : srK Kf O vO kp) (e : ∀ o, vO o → kp' o = kp o) : srK Kf O vO kp' := by
  obtain ⟨a, b, c⟩ := k
  refine ⟨fun o ho => by rw [e o ho]; exact a o ho, fun p hp o ho => ?_, fun p hp => ⟨(c p hp).1, by rw [e _ (c p hp).1]; exact (c p hp).2⟩⟩
  rw [b p hp o ho]
  exact ⟨fun z => ⟨z.1, by rw [e o z.1]; exact z.2⟩, fun z => ⟨z.1, by rw [← e o z.1]; exact z.2⟩⟩
theorem cS_r (k : cS h K v r) (sm : rSm v (fun y => 8 ≤ y ∧ y < 208) r r') (h1 : rV1 r v) (hq : ∀ y, y < 208 → rqK r y) : cS h K v r' := by
  obtain ⟨Kf, O, C, T, fo, a1, a2, a3, a4, a5, b, c⟩ := k
  have hv := h1.1
  exact ⟨Kf, O, C, T, fo, a1, a2, a3, a4, a5, srK_kp b (fun o ho => sm_kpR sm ho hv), sm_cSp sm h1 (fun i hi k hk => ⟨by omega, by omega⟩) (fun y hy => hq y hy.2) c⟩
theorem cR_r (k : cR h g K r) (sm : ∀ y, y < 8 → w0 r y = true → r' 12 y = r 12 y ∧ ∀ m, m < 4 → sRow r r' (41 + 4 * y + m)) (hq : ∀ y, y < 208 → rqK r y) (e20 : ∀ p, p < 8 → r' 20 p = r 20 p) : cR h g K r' := by
  obtain ⟨fR, a, b⟩ := k
  have ew : ∀ p, p < 8 → w0 r' p = w0 r p := fun p hp => by rw [w0, w0, e20 p hp]
  refine ⟨fR, a, fun p hp => ⟨fun w => (b p hp).1 (by rw [← ew p hp]; exact w), fun w => ?_⟩⟩
  rw [ew p hp] at w
  obtain ⟨q, x, y⟩ := (b p hp).2 w
  exact ⟨q, x, (rqK_sam (sm p hp w).1 (hq p (by omega)) (sm p hp w).2).1 _ _ y⟩
theorem cP_r (k : cP h K r) (e : ∀ p, p < 8 → r' 21 p = r 21 p) : cP h K r' := by
  obtain ⟨fP, a, b⟩ := k
  exact ⟨fP, a, fun p hp => (b p hp).trans (e p hp).symm⟩
theorem cC_r (k : cC h K r) (e : ∀ p, p < 8 → r' 22 p = r 22 p) : cC h K r' := by
  obtain ⟨fP, a, b⟩ := k
  exact ⟨fP, a, fun p hp => (b p hp).trans (e p hp).symm⟩
theorem rg_r {pg pl : Nat} (k : rgI h g r v pg pl A) (sm : rSm v (fun y => 8 ≤ y ∧ y < 208) r r') (h1 : rV1 r v) (hq : ∀ y, y < 208 → rqK r y) (e17 : ∀ i, i < v → r' 17 i = r 17 i) : rgI h g r' v pg pl A := by
  have hv := h1.1
  exact sm_rgI sm h1 (fun i hi k hk => ⟨by omega, by omega⟩) (fun y hy => hq y hy.2) e17 k
/-- all of it -/
theorem st_r (k : stC h g K A n v f r) (h1 : rV1 r v) (hq : ∀ y, y < 208 → rqK r y) (sm : rSm v (fun y => y < 208) r r') (e2 : r' 2 = r 2) (e17 : ∀ i, i < v → r' 17 i = r 17 i) (e20 : ∀ p, p < 8 → r' 20 p = r 20 p) (e21 : ∀ p, p < 8 → r' 21 p = r 21 p) (e22 : ∀ p, p < 8 → r' 22 p = r 22 p) (e24 : ∀ j, j < f → r' 24 j = r 24 j) : stC h g K A n v f r' := by
  obtain ⟨a, b, c, d, e, x, y, z⟩ := k
  have sm' : rSm v (fun y => 8 ≤ y ∧ y < 208) r r' := rSm_mono sm (Nat.le_refl _) (fun y hy => hy.2)
  exact ⟨a, cT_r b e2, cF_r c e24, rg_r d sm' h1 hq e17, cS_r e sm' h1 hq, cR_r x (fun y hy _ => sm.2 y (by omega)) hq e20, cP_r y e21, cC_r z e22⟩
/-- after a reading nothing that lasts has changed -/
theorem st_pF (k : stC h g K A n v f r) (hI : rVs r v) (p : pF r r') : stC h g K A n v f r' := by
  have hv := hI.1.1
  have sm := rSm_mono (V' := v) (pF_sm p) hv (fun y hy => hy)
  have e := p.2.1
  exact st_r k hI.1 hI.2.1.1 sm (e 2 (by omega)) (fun i _ => by rw [e 17 (by omega)]) (fun i _ => by rw [e 20 (by omega)]) (fun i _ => by rw [e 21 (by omega)]) (fun i _ => by rw [e 22 (by omega)]) (fun i _ => by rw [e 24 (by omega)])
theorem rVs_pF (hI : rVs r v) (p : pF r r') (h10 : r' 10 40 = nI 0) : rVs r' v := by
  obtain ⟨h1, h2, h3⟩ := hI
  have hv := h1.1
  have sm := rSm_mono (V' := v) (pF_sm p) hv (fun y hy => hy)
  have e := p.2.1
  obtain ⟨a, b, c, d, x⟩ := h3
  refine ⟨sm_rV1 sm h1 (fun i hi hi' => by rw [p.2.2.2.2.1 i (by omega)]; exact x i hi hi'), sm_rV2 sm h1 h2 (fun k hk => ?_) (fun q hq => ?_), fun q hq => ?_, fun i hi => ?_, h10, fun i hi => ?_, fun i hi hi' => ?_⟩
  · have := h2.2.1 k hk
    rw [w0, e 20 (by omega)]
    exact this
  · rw [e 21 (by omega)]; exact h2.2.2.2 q hq
  · rw [e 22 (by omega), e 16 (by omega)]; exact a q hq
  · rw [e 17 (by omega)]; exact b i hi
  · obtain ⟨m, m1, m2, m3⟩ := d i hi
    exact ⟨m, m1, by rw [p.2.2.2.2.2.1 i (by omega)]; exact m2, fun j hj => by rw [p.2.2.2.2.2.2 _ (by omega)]; exact m3 j hj⟩
  · rw [p.2.2.2.2.1 i (by omega)]; exact x i hi hi'
/-- arrays that are no rows change: the rows hold on -/
theorem rVs_of (hI : rVs r v) (hr : ∀ j, (5 ≤ j ∧ j ≤ 14) ∨ j = 16 ∨ j = 18 ∨ j = 19 → r' j = r j) (h17 : ∀ i, i < v → ∃ y, r' 17 i = bI y) (h20 : ∀ k, k < 8 → r' 20 k = bI (w0 r' k)) (h21 : ∀ p, p < 8 → r' 21 p = -1 ∨ ∃ i, i < v ∧ r' 21 p = nI i) (h22 : ∀ p, p < 8 → r' 22 p = -1 ∨ ∃ i, i < v ∧ r' 22 p = nI i ∧ r 16 i = nI p) : rVs r' v := by
  obtain ⟨h1, h2, h3⟩ := hI
  obtain ⟨a, b, c, d, x⟩ := h3
  have sm : rSm v (fun y => y < 208) r r' := rSm_of hr
  refine ⟨sm_rV1 sm h1 (fun i hi hi' => by rw [hr 14 (by omega)]; exact x i hi hi'), sm_rV2 sm h1 h2 h20 h21, fun q hq => ?_, h17, by rw [hr 10 (by omega)]; exact c, fun i hi => ?_, fun i hi hi' => ?_⟩
  · rw [hr 16 (by omega)]; exact h22 q hq
  · rw [hr 18 (by omega), hr 19 (by omega)]; exact d i hi
  · rw [hr 14 (by omega)]; exact x i hi hi'
end
