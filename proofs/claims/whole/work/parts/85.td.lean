/-! One part of the class's heap changes. -/
section
variable {h h' g g' : zH} {K A : Nat → Nat} {n n' v f f' : Nat} {r r' : rA}
theorem po_in (S : Nat → Prop) (st : stC h g K A n v f r) (fr : ∀ y, ¬ S y → h' y = h y) (hS : ∀ y, S y → cM K A v y ∧ h' y ≠ none) (new : stC h' g K A n' v f' r') : poC h g K A v h' n' v f' r' := by
  refine ⟨g, A, ext_in st.2.2.2.1.2.2.2.2 (fun y hy => fr y (fun z => hy (hS y z).1)) (fun y hy => ?_), new, fun i hi => ⟨fun _ => rfl, fun z => absurd hi (by omega)⟩⟩
  have nn : h y ≠ none ∧ g y = none := by
    rcases hy with ⟨i, hi, e⟩ | ⟨i, hi, e⟩
    · rw [e]; exact ⟨stC_K st hi, st.1.1 i hi⟩
    · rw [e]
      obtain ⟨fs, q⟩ := stC_A st hi
      exact ⟨some_nn q, stC_gA st hi⟩
  refine ⟨nn.2, ?_⟩
  by_cases s : S y
  · exact (hS y s).2
  · rw [fr y s]; exact nn.1
theorem le_fr {S : Nat → Prop} (hg : hle g h) (fr : ∀ y, ¬ S y → h' y = h y) (hS : ∀ y, S y → g y = none) : hle g h' := fun y e q => by
  by_cases s : S y
  · rw [hS y s] at q; cases q
  · rw [fr y s]; exact hg y e q
theorem st_P (st : stC h g K A n v f r) (hI : rVs r v) (fr : ∀ y, ¬ (y = K 13) → h' y = h y) (hr : ∀ j, ¬ (j = 21) → r' j = r j) (kP : cP h' K r') : poC h g K A v h' n v f r' := by
  have st0 := st
  obtain ⟨a, b, c, d, s, x, y, z⟩ := st
  have hv := hI.1.1
  have eK : ∀ i, i < 15 → ¬ (i = 13) → h' (K i) = h (K i) := fun i hi hn => fr _ (fun q => hn (by
    rcases q with q
    · have := a.2.1 i 13 hi (by omega) q; omega
    ))
  have eA : ∀ i, i < v → h' (A i) = h (A i) := fun i hi => fr _ (fun q => by
    rcases q with q
    · exact stC_KA st0 (i := 13) (by omega) hi q.symm
    )
  have l : hle g h' := le_fr (S := (fun y => y = K 13)) d.2.2.2.2 fr (fun y q => by
    rcases q with q
    · rw [q]; exact a.1 13 (by omega)
    )
  have sm : rSm v (fun y => 8 ≤ y ∧ y < 208) r r' := rSm_of (fun j hj => hr j (by omega))
  have gA : ∀ i, i < v → g (A i) = none := fun i hi => stC_gA st0 hi
  have new : stC h' g K A n v f r' := ⟨cX_fr a a.1 (eK 0 (by omega) (by omega)), cT_r (cT_fr b (eK 1 (by omega) (by omega)) (eK 2 (by omega) (by omega))) (hr 2 (by omega)), cF_r (cF_fr c (eK 3 (by omega) (by omega)) (eK 4 (by omega) (by omega))) (fun j _ => by rw [(hr 24 (by omega))]), rg_r (rg_ex d (hle_refl g) l gA (eK 5 (by omega) (by omega)) (eK 6 (by omega) (by omega)) eA) sm hI.1 hI.2.1.1 (fun i _ => by rw [(hr 17 (by omega))]), cS_r (cS_fr s (eK 7 (by omega) (by omega)) (eK 8 (by omega) (by omega)) (eK 9 (by omega) (by omega)) (eK 10 (by omega) (by omega)) (eK 11 (by omega) (by omega))) sm hI.1 hI.2.1.1, cR_r (cR_fr x (hle_refl g) (eK 12 (by omega) (by omega))) (fun y _ _ => (rSm_of (V := 0) (Y := fun _ => True) (fun j hj => hr j (by omega))).2 y trivial) hI.2.1.1 (fun p _ => by rw [(hr 20 (by omega))]), kP, cC_r (cC_fr z (eK 14 (by omega) (by omega))) (fun p _ => by rw [(hr 22 (by omega))])⟩
  refine po_in (fun y => y = K 13) st0 fr (fun y q => ?_) new
  rcases q with q
  · rw [q]; exact ⟨Or.inl ⟨13, by omega, rfl⟩, stC_K new (by omega)⟩
theorem st_R (st : stC h g K A n v f r) (hI : rVs r v) (fr : ∀ y, ¬ (y = K 12) → h' y = h y) (hr : ∀ j, ¬ (j = 20) → r' j = r j) (kR : cR h' g K r') : poC h g K A v h' n v f r' := by
  have st0 := st
  obtain ⟨a, b, c, d, s, x, y, z⟩ := st
  have hv := hI.1.1
  have eK : ∀ i, i < 15 → ¬ (i = 12) → h' (K i) = h (K i) := fun i hi hn => fr _ (fun q => hn (by
    rcases q with q
    · have := a.2.1 i 12 hi (by omega) q; omega
    ))
  have eA : ∀ i, i < v → h' (A i) = h (A i) := fun i hi => fr _ (fun q => by
    rcases q with q
    · exact stC_KA st0 (i := 12) (by omega) hi q.symm
    )
  have l : hle g h' := le_fr (S := (fun y => y = K 12)) d.2.2.2.2 fr (fun y q => by
    rcases q with q
    · rw [q]; exact a.1 12 (by omega)
    )
  have sm : rSm v (fun y => 8 ≤ y ∧ y < 208) r r' := rSm_of (fun j hj => hr j (by omega))
  have gA : ∀ i, i < v → g (A i) = none := fun i hi => stC_gA st0 hi
  have new : stC h' g K A n v f r' := ⟨cX_fr a a.1 (eK 0 (by omega) (by omega)), cT_r (cT_fr b (eK 1 (by omega) (by omega)) (eK 2 (by omega) (by omega))) (hr 2 (by omega)), cF_r (cF_fr c (eK 3 (by omega) (by omega)) (eK 4 (by omega) (by omega))) (fun j _ => by rw [(hr 24 (by omega))]), rg_r (rg_ex d (hle_refl g) l gA (eK 5 (by omega) (by omega)) (eK 6 (by omega) (by omega)) eA) sm hI.1 hI.2.1.1 (fun i _ => by rw [(hr 17 (by omega))]), cS_r (cS_fr s (eK 7 (by omega) (by omega)) (eK 8 (by omega) (by omega)) (eK 9 (by omega) (by omega)) (eK 10 (by omega) (by omega)) (eK 11 (by omega) (by omega))) sm hI.1 hI.2.1.1, kR, cP_r (cP_fr y (eK 13 (by omega) (by omega))) (fun p _ => by rw [(hr 21 (by omega))]), cC_r (cC_fr z (eK 14 (by omega) (by omega))) (fun p _ => by rw [(hr 22 (by omega))])⟩
  refine po_in (fun y => y = K 12) st0 fr (fun y q => ?_) new
  rcases q with q
  · rw [q]; exact ⟨Or.inl ⟨12, by omega, rfl⟩, stC_K new (by omega)⟩
theorem st_T (st : stC h g K A n v f r) (hI : rVs r v) (fr : ∀ y, ¬ (y = K 1 ∨ y = K 2) → h' y = h y) (hr : ∀ j, ¬ (j = 2) → r' j = r j) (kT : cT h' K n' r') : poC h g K A v h' n' v f r' := by
  have st0 := st
  obtain ⟨a, b, c, d, s, x, y, z⟩ := st
  have hv := hI.1.1
  have eK : ∀ i, i < 15 → ¬ (i = 1 ∨ i = 2) → h' (K i) = h (K i) := fun i hi hn => fr _ (fun q => hn (by
    rcases q with q | q
    · have := a.2.1 i 1 hi (by omega) q; omega
    · have := a.2.1 i 2 hi (by omega) q; omega
    ))
  have eA : ∀ i, i < v → h' (A i) = h (A i) := fun i hi => fr _ (fun q => by
    rcases q with q | q
    · exact stC_KA st0 (i := 1) (by omega) hi q.symm
    · exact stC_KA st0 (i := 2) (by omega) hi q.symm
    )
  have l : hle g h' := le_fr (S := (fun y => y = K 1 ∨ y = K 2)) d.2.2.2.2 fr (fun y q => by
    rcases q with q | q
    · rw [q]; exact a.1 1 (by omega)
    · rw [q]; exact a.1 2 (by omega)
    )
  have sm : rSm v (fun y => 8 ≤ y ∧ y < 208) r r' := rSm_of (fun j hj => hr j (by omega))
  have gA : ∀ i, i < v → g (A i) = none := fun i hi => stC_gA st0 hi
  have new : stC h' g K A n' v f r' := ⟨cX_fr a a.1 (eK 0 (by omega) (by omega)), kT, cF_r (cF_fr c (eK 3 (by omega) (by omega)) (eK 4 (by omega) (by omega))) (fun j _ => by rw [(hr 24 (by omega))]), rg_r (rg_ex d (hle_refl g) l gA (eK 5 (by omega) (by omega)) (eK 6 (by omega) (by omega)) eA) sm hI.1 hI.2.1.1 (fun i _ => by rw [(hr 17 (by omega))]), cS_r (cS_fr s (eK 7 (by omega) (by omega)) (eK 8 (by omega) (by omega)) (eK 9 (by omega) (by omega)) (eK 10 (by omega) (by omega)) (eK 11 (by omega) (by omega))) sm hI.1 hI.2.1.1, cR_r (cR_fr x (hle_refl g) (eK 12 (by omega) (by omega))) (fun y _ _ => (rSm_of (V := 0) (Y := fun _ => True) (fun j hj => hr j (by omega))).2 y trivial) hI.2.1.1 (fun p _ => by rw [(hr 20 (by omega))]), cP_r (cP_fr y (eK 13 (by omega) (by omega))) (fun p _ => by rw [(hr 21 (by omega))]), cC_r (cC_fr z (eK 14 (by omega) (by omega))) (fun p _ => by rw [(hr 22 (by omega))])⟩
  refine po_in (fun y => y = K 1 ∨ y = K 2) st0 fr (fun y q => ?_) new
  rcases q with q | q
  · rw [q]; exact ⟨Or.inl ⟨1, by omega, rfl⟩, stC_K new (by omega)⟩
  · rw [q]; exact ⟨Or.inl ⟨2, by omega, rfl⟩, stC_K new (by omega)⟩
theorem st_F (st : stC h g K A n v f r) (hI : rVs r v) (fr : ∀ y, ¬ (y = K 3 ∨ y = K 4) → h' y = h y) (hr : ∀ j, ¬ (j = 24) → r' j = r j) (kF : cF h' K f' r') : poC h g K A v h' n v f' r' := by
  have st0 := st
  obtain ⟨a, b, c, d, s, x, y, z⟩ := st
  have hv := hI.1.1
  have eK : ∀ i, i < 15 → ¬ (i = 3 ∨ i = 4) → h' (K i) = h (K i) := fun i hi hn => fr _ (fun q => hn (by
    rcases q with q | q
    · have := a.2.1 i 3 hi (by omega) q; omega
    · have := a.2.1 i 4 hi (by omega) q; omega
    ))
  have eA : ∀ i, i < v → h' (A i) = h (A i) := fun i hi => fr _ (fun q => by
    rcases q with q | q
    · exact stC_KA st0 (i := 3) (by omega) hi q.symm
    · exact stC_KA st0 (i := 4) (by omega) hi q.symm
    )
  have l : hle g h' := le_fr (S := (fun y => y = K 3 ∨ y = K 4)) d.2.2.2.2 fr (fun y q => by
    rcases q with q | q
    · rw [q]; exact a.1 3 (by omega)
    · rw [q]; exact a.1 4 (by omega)
    )
  have sm : rSm v (fun y => 8 ≤ y ∧ y < 208) r r' := rSm_of (fun j hj => hr j (by omega))
  have gA : ∀ i, i < v → g (A i) = none := fun i hi => stC_gA st0 hi
  have new : stC h' g K A n v f' r' := ⟨cX_fr a a.1 (eK 0 (by omega) (by omega)), cT_r (cT_fr b (eK 1 (by omega) (by omega)) (eK 2 (by omega) (by omega))) (hr 2 (by omega)), kF, rg_r (rg_ex d (hle_refl g) l gA (eK 5 (by omega) (by omega)) (eK 6 (by omega) (by omega)) eA) sm hI.1 hI.2.1.1 (fun i _ => by rw [(hr 17 (by omega))]), cS_r (cS_fr s (eK 7 (by omega) (by omega)) (eK 8 (by omega) (by omega)) (eK 9 (by omega) (by omega)) (eK 10 (by omega) (by omega)) (eK 11 (by omega) (by omega))) sm hI.1 hI.2.1.1, cR_r (cR_fr x (hle_refl g) (eK 12 (by omega) (by omega))) (fun y _ _ => (rSm_of (V := 0) (Y := fun _ => True) (fun j hj => hr j (by omega))).2 y trivial) hI.2.1.1 (fun p _ => by rw [(hr 20 (by omega))]), cP_r (cP_fr y (eK 13 (by omega) (by omega))) (fun p _ => by rw [(hr 21 (by omega))]), cC_r (cC_fr z (eK 14 (by omega) (by omega))) (fun p _ => by rw [(hr 22 (by omega))])⟩
  refine po_in (fun y => y = K 3 ∨ y = K 4) st0 fr (fun y q => ?_) new
  rcases q with q | q
  · rw [q]; exact ⟨Or.inl ⟨3, by omega, rfl⟩, stC_K new (by omega)⟩
  · rw [q]; exact ⟨Or.inl ⟨4, by omega, rfl⟩, stC_K new (by omega)⟩
theorem st_C (st : stC h g K A n v f r) (hI : rVs r v) (fr : ∀ y, ¬ (y = K 7 ∨ y = K 11 ∨ y = K 14) → h' y = h y) (hr : ∀ j, ¬ (j = 22) → r' j = r j) (kS : cS h' K v r') (kC : cC h' K r') : poC h g K A v h' n v f r' := by
  have st0 := st
  obtain ⟨a, b, c, d, s, x, y, z⟩ := st
  have hv := hI.1.1
  have eK : ∀ i, i < 15 → ¬ (i = 7 ∨ i = 11 ∨ i = 14) → h' (K i) = h (K i) := fun i hi hn => fr _ (fun q => hn (by
    rcases q with q | q | q
    · have := a.2.1 i 7 hi (by omega) q; omega
    · have := a.2.1 i 11 hi (by omega) q; omega
    · have := a.2.1 i 14 hi (by omega) q; omega
    ))
  have eA : ∀ i, i < v → h' (A i) = h (A i) := fun i hi => fr _ (fun q => by
    rcases q with q | q | q
    · exact stC_KA st0 (i := 7) (by omega) hi q.symm
    · exact stC_KA st0 (i := 11) (by omega) hi q.symm
    · exact stC_KA st0 (i := 14) (by omega) hi q.symm
    )
  have l : hle g h' := le_fr (S := (fun y => y = K 7 ∨ y = K 11 ∨ y = K 14)) d.2.2.2.2 fr (fun y q => by
    rcases q with q | q | q
    · rw [q]; exact a.1 7 (by omega)
    · rw [q]; exact a.1 11 (by omega)
    · rw [q]; exact a.1 14 (by omega)
    )
  have sm : rSm v (fun y => 8 ≤ y ∧ y < 208) r r' := rSm_of (fun j hj => hr j (by omega))
  have gA : ∀ i, i < v → g (A i) = none := fun i hi => stC_gA st0 hi
  have new : stC h' g K A n v f r' := ⟨cX_fr a a.1 (eK 0 (by omega) (by omega)), cT_r (cT_fr b (eK 1 (by omega) (by omega)) (eK 2 (by omega) (by omega))) (hr 2 (by omega)), cF_r (cF_fr c (eK 3 (by omega) (by omega)) (eK 4 (by omega) (by omega))) (fun j _ => by rw [(hr 24 (by omega))]), rg_r (rg_ex d (hle_refl g) l gA (eK 5 (by omega) (by omega)) (eK 6 (by omega) (by omega)) eA) sm hI.1 hI.2.1.1 (fun i _ => by rw [(hr 17 (by omega))]), kS, cR_r (cR_fr x (hle_refl g) (eK 12 (by omega) (by omega))) (fun y _ _ => (rSm_of (V := 0) (Y := fun _ => True) (fun j hj => hr j (by omega))).2 y trivial) hI.2.1.1 (fun p _ => by rw [(hr 20 (by omega))]), cP_r (cP_fr y (eK 13 (by omega) (by omega))) (fun p _ => by rw [(hr 21 (by omega))]), kC⟩
  refine po_in (fun y => y = K 7 ∨ y = K 11 ∨ y = K 14) st0 fr (fun y q => ?_) new
  rcases q with q | q | q
  · rw [q]; exact ⟨Or.inl ⟨7, by omega, rfl⟩, stC_K new (by omega)⟩
  · rw [q]; exact ⟨Or.inl ⟨11, by omega, rfl⟩, stC_K new (by omega)⟩
  · rw [q]; exact ⟨Or.inl ⟨14, by omega, rfl⟩, stC_K new (by omega)⟩
end
