/-! publish -/
theorem rg_add {h g : zH} {r : rA} {v pg pl q : Nat} {A : Nat → Nat} {fl : Nat → Option Nat} (hv : v < 40) (c5 : h pg = some (zO 2 [zR (some pl), zI (nI (v + 1))])) (c6 : h pl = some (zaR 4 40 (va_up fl v (some q)))) (hfl : ∀ i, i < v → fl i = some (A i)) (old : ∀ i, i < v → relI h g r i (A i)) (new : relI h g r v q) (l : hle g h) : rgI h g r (v + 1) pg pl (updN A v q) := by
  refine ⟨c5, ⟨_, c6, fun i hi => ?_⟩, by omega, fun i hi => ?_, l⟩
  · by_cases e : i = v
    · rw [e, va_up_s, updN_s]
    · rw [va_up_n _ _ e, updN_n e]; exact hfl i (by omega)
  · by_cases e : i = v
    · rw [e, updN_s]; exact new
    · rw [updN_n e]; exact old i (by omega)
theorem k_learn2 {d : Nat} {h : zH} {s pg po pt pc pp pl v v0 q : Nat} {fo : Int64} {K : Nat → Int32} {O C : Nat → Int64} {g : zH} {r : rA} {A : Nat → Nat} (e : A v0 = q) (gpo : g po = none) (gpt : g pt = none) (gpc : g pc = none) (dtc : pt ≠ pc) (hv0 : v0 < v) (hr : rgI h g r v pg pl A) (hs : h s = some (srO pg po pt pc pp fo)) (hK : h po = some (zaI 1 48 K)) (hO : h pt = some (zaJ 8 O)) (hC : h pc = some (zaJ 48 C)) : zCall (d + 7) 45 [zR (some s), zI (nI v0), zR (some q)] h 0 0 (fun h' o => o = .inl none ∧ h' po = some (zaI 1 48 (upd K v0 (nI (pkN r v0)))) ∧ h' pt = some (zaJ 8 (vp_updL O (pkN r v0) (O (pkN r v0) ||| zlsh 0 1 (nI v0)))) ∧ h' pc = some (zaJ 48 (lnB r v0 C v)) ∧ (∀ y, y ≠ po → y ≠ pt → y ≠ pc → h' y = h y)) := by
  subst e
  exact k_X5_learn gpo gpt gpc dtc hv0 hr hs hK hO hC
section
variable {h h1 h2 h' g g' : zH} {K A : Nat → Nat} {n v f p q pv pw pr pd : Nat} {r : rA} {L : List (Nat × List sV)} {fl : Nat → Option Nat}
/-- old rows, seen from the new ones -/
theorem pb_sm {R r' : rA} {m len : Nat} (hv : v ≤ 40) (pR : pF r R) (o : pbO R r' v p m len) : rSm v (fun y => y < 208 ∧ ¬ (8 + 5 * v ≤ y ∧ y < 8 + 5 * v + m)) r r' := rSm_tr (rSm_mono (pF_sm pR) hv (fun y hy => hy.1)) (rSm_mono o.2.1 (Nat.le_refl _) (fun y hy => hy.2))
/-- the registry with the new release -/
theorem rg_pb (st : stC h g K A n v f r) (hI : rVs r v) (hp : p < 8) (hv : v < 40) (w1 : veR (r 2) n 0) (w2 : pdC (r 2) n 5 (veE (r 2) n 0) [] L) (hs : hsF (pubF n r).2.2 (nI p) v = false) (x : ext (fun y => y = K 1) g h g' h1) (h0 : h q = none) (gq : g' q = none) (cq : h1 q = some (rlO p pv pw pr pd L.length false)) (rb : rlB g' pv pw pr pd (veV (r 2) n 0) (veE (r 2) n 0 - 0) (fun j => r 2 (0 + j)) L) (fr : ∀ y, y ≠ K 5 → y ≠ K 6 → h2 y = h1 y) (c5 : h2 (K 5) = some (zO 2 [zR (some (K 6)), zI (nI (v + 1))])) (c6 : h2 (K 6) = some (zaR 4 40 (va_up fl v (some q)))) (hfl : ∀ i, i < v → fl i = some (A i)) : rgI h2 g' (pbR (pubF n r).2.2 v (nI p)) (v + 1) (K 5) (K 6) (updN A v q) := by
  have hx := st.1
  obtain ⟨_, y2, y3, y4, y5, y6, y7, y8⟩ := pub_H hI w1 w2
  have hH := y8 p hp hv hs
  have o := pb_O hH
  have pR : pF r (pubF n r).2.2 := pub_pF
  have sm := pb_sm hI.1.1 pR o
  have gK : ∀ i, i < 15 → g' (K i) = none := fun i hi => x_gK st x hi
  have l : hle g' h2 := le_fr (S := fun y => y = K 5 ∨ y = K 6) x.2.1 (fun y hy => fr y (fun z => hy (Or.inl z)) (fun z => hy (Or.inr z))) (fun y z => z.elim (fun z => by rw [z]; exact gK 5 (by omega)) (fun z => by rw [z]; exact gK 6 (by omega)))
  have nq : ∀ i, i < 15 → q ≠ K i := fun i hi z => stC_K st hi (by rw [← z]; exact h0)
  refine rg_add hv c5 c6 hfl (fun i hi => ?_) ?_ l
  · have k0 := st.2.2.2.1.2.2.2.1 i hi
    have eA : h2 (A i) = h (A i) := (fr _ (Ne.symm (stC_KA st (by omega) hi)) (Ne.symm (stC_KA st (by omega) hi))).trans (x_A st x (fun y z => ⟨1, by omega, z⟩) hi)
    have k1 : relI h2 g' r i (A i) := by
      obtain ⟨a1, a2, a3, a4, a5, a6, a7, b1, b2, b3, b4, b5, b6⟩ := k0
      exact ⟨a1, a2, a3, a4, a5, a6, a7, eA.trans b1, x_gA st x hi, b3, b4, b5, relB_mono x.1 b6⟩
    refine sm_relI sm hi (hI.1.2.1 i hi) (fun k hk => ⟨by omega, by omega⟩) (fun y hy => hI.2.1.1 y hy.1) ?_ k1
    rw [o.2.2.2.2.2.1.2 i (by omega), pR.2.1 17 (by omega)]
  · have := rel_new (g := g') o hH.2.2.2.2.2.2.2.2.1.2 y2 y3 y4 y5 y6 (t := fun j => r 2 (0 + j)) (fun j hj => by rw [y7 j hj, Nat.zero_add]) rb
    obtain ⟨o1, o2, o3, ⟨o4, o5⟩, ⟨o6, o7⟩, ⟨o8, o9⟩, _⟩ := o
    exact ⟨pv, pw, pr, pd, p, L.length, false, (fr _ (nq 5 (by omega)) (nq 6 (by omega))).trans cq, gq, ⟨o6, hp⟩, o8, ⟨o4, hH.2.2.2.1.2⟩, this⟩
theorem st_pb {Kf : Nat → Int32} {O C : Nat → Int64} {T : Nat → Int64} {fo : Int64} (st : stC h g K A n v f r) (hI : rVs r v) (hp : p < 8) (hv : v < 40) (w1 : veR (r 2) n 0) (w2 : pdC (r 2) n 5 (veE (r 2) n 0) [] L) (hs : hsF (pubF n r).2.2 (nI p) v = false) (x : ext (fun y => y = K 1) g h g' h1) (c1 : h1 (K 1) = some (zO 0 [zR (some (K 2)), zI (nI 0)])) (h0 : h q = none) (gq : g' q = none) (hr : rgI h2 g' (pbR (pubF n r).2.2 v (nI p)) (v + 1) (K 5) (K 6) (updN A v q)) (cq2 : h2 q ≠ none) (fr : ∀ y, y ≠ K 5 → y ≠ K 6 → h2 y = h1 y) (fr2 : ∀ y, y ≠ K 8 → y ≠ K 9 → y ≠ K 10 → h' y = h2 y)
    (hS1 : h (K 7) = some (srO (K 5) (K 8) (K 9) (K 10) (K 11) fo)) (hS5 : h (K 11) = some (zaJ 8 T)) (hsr : srK Kf O (vR v) (kpR r)) (hcs : cSp r v C) (c8 : h' (K 8) = some (zaI 1 48 (upd Kf v (nI (pkN (pbR (pubF n r).2.2 v (nI p)) v))))) (c9 : h' (K 9) = some (zaJ 8 (vp_updL O (pkN (pbR (pubF n r).2.2 v (nI p)) v) (O (pkN (pbR (pubF n r).2.2 v (nI p)) v) ||| zlsh 0 1 (nI v))))) (c10 : h' (K 10) = some (zaJ 48 (lnB (pbR (pubF n r).2.2 v (nI p)) v C (v + 1)))) : poC h g K A v h' 0 (v + 1) f (pbR (pubF n r).2.2 v (nI p)) := by
  have hx := st.1
  obtain ⟨_, y2, y3, y4, y5, y6, y7, y8⟩ := pub_H hI w1 w2
  have hH := y8 p hp hv hs
  have o := pb_O hH
  have pR : pF r (pubF n r).2.2 := pub_pF
  have sm := pb_sm hI.1.1 pR o
  generalize pbR (pubF n r).2.2 v (nI p) = r' at *
  have gK : ∀ i, i < 15 → g' (K i) = none := fun i hi => x_gK st x hi
  have nq : ∀ i, i < 15 → q ≠ K i := fun i hi z => stC_K st hi (by rw [← z]; exact h0)
  have e : ∀ i, i < 15 → i ≠ 1 → i ≠ 5 → i ≠ 6 → i ≠ 8 → i ≠ 9 → i ≠ 10 → h' (K i) = h (K i) := fun i hi n1 n5 n6 n8 n9 n10 => (fr2 _ (Kne hx hi (by omega) n8) (Kne hx hi (by omega) n9) (Kne hx hi (by omega) n10)).trans ((fr _ (Kne hx hi (by omega) n5) (Kne hx hi (by omega) n6)).trans (x_K st x hi (Kne hx hi (by omega) n1)))
  have e1 : h' (K 1) = h1 (K 1) := (fr2 _ (Kne hx (by omega) (by omega) (by omega)) (Kne hx (by omega) (by omega) (by omega)) (Kne hx (by omega) (by omega) (by omega))).trans (fr _ (Kne hx (by omega) (by omega) (by omega)) (Kne hx (by omega) (by omega) (by omega)))
  have e5 : ∀ i, i = 5 ∨ i = 6 → h' (K i) = h2 (K i) := fun i hi => fr2 _ (Kne hx (by omega) (by omega) (by omega)) (Kne hx (by omega) (by omega) (by omega)) (Kne hx (by omega) (by omega) (by omega))
  have cell : ∀ i, i = 5 ∨ i = 6 ∨ i = 8 ∨ i = 9 ∨ i = 10 → h' (K i) ≠ none := fun i hi => by
    rcases hi with z | z | z | z | z <;> subst z
    · rw [e5 5 (by omega)]; exact some_nn hr.1
    · rw [e5 6 (by omega)]
      obtain ⟨_, b, _⟩ := hr.2.1
      exact some_nn b
    · exact some_nn c8
    · exact some_nn c9
    · exact some_nn c10
  have X : ext (cM K A v) g h g' h' := by
    have x0 := ext_mo x (M' := cM K A v) (fun y z => Or.inl ⟨1, by omega, z⟩)
    have in5 : ∀ y, (y = K 5 ∨ y = K 6 ∨ y = K 8 ∨ y = K 9 ∨ y = K 10) → cM K A v y ∧ g' y = none ∧ h' y ≠ none := fun y z => by
      rcases z with z | z | z | z | z <;> rw [z]
      · exact ⟨Or.inl ⟨5, by omega, rfl⟩, gK 5 (by omega), cell 5 (by omega)⟩
      · exact ⟨Or.inl ⟨6, by omega, rfl⟩, gK 6 (by omega), cell 6 (by omega)⟩
      · exact ⟨Or.inl ⟨8, by omega, rfl⟩, gK 8 (by omega), cell 8 (by omega)⟩
      · exact ⟨Or.inl ⟨9, by omega, rfl⟩, gK 9 (by omega), cell 9 (by omega)⟩
      · exact ⟨Or.inl ⟨10, by omega, rfl⟩, gK 10 (by omega), cell 10 (by omega)⟩
    have out : ∀ y, ¬ (y = K 5 ∨ y = K 6 ∨ y = K 8 ∨ y = K 9 ∨ y = K 10) → h' y = h1 y := fun y z => (fr2 y (fun w => z (by omega)) (fun w => z (by omega)) (fun w => z (by omega))).trans (fr y (fun w => z (by omega)) (fun w => z (by omega)))
    refine ⟨x0.1, fun y w z => ?_, x0.2.2.1, fun y z => ?_, fun y z w => ?_⟩
    · by_cases c : y = K 5 ∨ y = K 6 ∨ y = K 8 ∨ y = K 9 ∨ y = K 10
      · rw [(in5 y c).2.1] at z; cases z
      · rw [out y c]; exact x0.2.1 y w z
    · by_cases c : y = K 5 ∨ y = K 6 ∨ y = K 8 ∨ y = K 9 ∨ y = K 10
      · exact (in5 y c).2.2
      · rw [out y c]; exact x0.2.2.2.1 y z
    · have c : ¬ (y = K 5 ∨ y = K 6 ∨ y = K 8 ∨ y = K 9 ∨ y = K 10) := fun z' => w (in5 y z').1
      rw [out y c]; exact x0.2.2.2.2 y z w
  have eR : ∀ j, j < 5 ∨ j = 15 ∨ 19 < j → r' j = r j := fun j hj => (o.1 j hj).trans (pR.2.1 j (by omega))
  have ev : pkN r' v = p := by rw [pkN, o.2.2.2.2.1.1, nI_clamp (by omega)]
  have kpe : ∀ u, vR v u → kpR r' u = kpR r u := fun u hu => sm_kpR sm hu hI.1.1
  have cle : ∀ a b, vR v a → vR v b → clR r' a b = clR r a b := fun a b ha hb => sm_cl sm hI.1 (fun i hi k hk => ⟨by omega, by omega⟩) (fun y hy => hI.2.1.1 y hy.1) ha hb
  have eqA : ∀ i, i < v + 1 → h' (updN A v q i) = h2 (updN A v q i) := fun i hi => by
    obtain ⟨fs, hc⟩ := rel_cell (hr.2.2.2.1 i hi)
    have n8 : ∀ (k : Nat) (z : zE), h' (K k) = some z → (∀ u, z ≠ zO 3 u) → k < 15 → (k ≠ 5 ∧ k ≠ 6) → updN A v q i ≠ K k := fun k z hz hn hk h56 w => by
      by_cases c : i = v
      · subst c
        rw [updN_s] at w
        exact nq k hk w
      · rw [updN_n c] at w
        exact stC_KA st hk (show i < v by omega) w.symm
    exact fr2 _ (n8 8 _ c8 (by nofun) (by omega) (by omega)) (n8 9 _ c9 (by nofun) (by omega) (by omega)) (n8 10 _ c10 (by nofun) (by omega) (by omega))
  have gA' : ∀ i, i < v + 1 → g' (updN A v q i) = none := fun i hi => by
    obtain ⟨_, _, _, _, _, _, _, _, z, _⟩ := hr.2.2.2.1 i hi
    exact z
  refine ⟨g', updN A v q, X, ?_, fun i hi => ?_⟩
  · obtain ⟨a, ⟨tc, b1, b2, b3, b4, b5⟩, cc, d, s, xx, yy, z⟩ := st
    refine ⟨cX_fr a gK (e 0 (by omega) (by omega) (by omega) (by omega) (by omega) (by omega) (by omega)), ⟨tc, e1.trans c1, (e 2 (by omega) (by omega) (by omega) (by omega) (by omega) (by omega) (by omega)).trans b2, by omega, fun j hj => absurd hj (Nat.not_lt_zero _), b5⟩, cF_r (cF_fr cc (e 3 (by omega) (by omega) (by omega) (by omega) (by omega) (by omega) (by omega)) (e 4 (by omega) (by omega) (by omega) (by omega) (by omega) (by omega) (by omega))) (fun j _ => by rw [eR 24 (by omega)]), rg_ex hr (hle_refl g') X.2.1 gA' (e5 5 (by omega)) (e5 6 (by omega)) eqA, ?_, cR_r (cR_fr xx X.1 (e 12 (by omega) (by omega) (by omega) (by omega) (by omega) (by omega) (by omega))) (fun y hy _ => sm.2 y ⟨by omega, by omega⟩) hI.2.1.1 (fun i _ => by rw [eR 20 (by omega)]), cP_r (cP_fr yy (e 13 (by omega) (by omega) (by omega) (by omega) (by omega) (by omega) (by omega))) (fun i _ => by rw [eR 21 (by omega)]), cC_r (cC_fr z (e 14 (by omega) (by omega) (by omega) (by omega) (by omega) (by omega) (by omega))) (fun i _ => by rw [eR 22 (by omega)])⟩
    exact ⟨_, _, _, T, fo, (e 7 (by omega) (by omega) (by omega) (by omega) (by omega) (by omega) (by omega)).trans hS1, c8, c9, c10, (e 11 (by omega) (by omega) (by omega) (by omega) (by omega) (by omega) (by omega)).trans hS5, srK_pb hv hp hsr kpe ev, cSp_pb hv hcs cle⟩
  · refine ⟨fun c => updN_n (by omega), fun c => ?_⟩
    rw [show i = v by omega, updN_s]; exact h0
end
set_option maxHeartbeats 4000000 in
theorem k_X9_publish {d : Nat} {h : zH} {g : zH} {K A : Nat → Nat} {n v f : Nat} {r : rA} {p : Nat} (st : stC h g K A n v f r) (hI : rVs r v) (hp : p < 8) : zCall (d + 9) 75 [zR (some (K 0)), zI (nI p)] h (42 * n + 180) (84 * n + 452) (fun h' o => (pubB n r = false ∧ o = .inr 0 ∧ poC h g K A v h' 0 v f r) ∨ (pubB n r = true ∧ rowOK (pubF n r).2.2 40 ∧ hsF (pubF n r).2.2 (nI p) v = true ∧ o = .inr 1 ∧ poC h g K A v h' 0 v f r) ∨ (pubB n r = true ∧ rowOK (pubF n r).2.2 40 ∧ hsF (pubF n r).2.2 (nI p) v = false ∧ v = 40 ∧ o = .inr 3 ∧ poC h g K A v h' 0 v f r) ∨ (pubB n r = true ∧ rowOK (pubF n r).2.2 40 ∧ hsF (pubF n r).2.2 (nI p) v = false ∧ v < 40 ∧ o = .inl (some (zI (nI v))) ∧ (∃ m len, pbH (pubF n r).2.2 v p m len) ∧ poC h g K A v h' 0 (v + 1) f (pbR (pubF n r).2.2 v (nI p)))) := by
  have st0 := st
  obtain ⟨hx, ⟨tc, hT1, hT2, hn, htx, htf⟩, ⟨fc, hF1, hF2, hf6, hfc⟩, hr, ⟨Kf, O, C, T, fo, hS1, hS2, hS3, hS4, hS5, hsr, hcs⟩, ⟨fR, hR1, hrt⟩, ⟨fP, hP1, hpp⟩, ⟨fC, hC1, hcc⟩⟩ := st
  have hX := hx.2.2
  have hr0 := hr
  obtain ⟨hG1, ⟨fl, hG2, hfl⟩, hv, hrel, hg⟩ := hr
  refine zCall.of (d := d + 8) (T := tb_75) (L := [some (zR (some (K 0))), some (zI (nI p)), none, none, none]) (Nat.le_of_ble_eq_true rfl) rfl rfl ?_
  have x0 : ext (fun y => y = K 1) g h g h := ext_refl hg
  refine z_ald rfl rfl ?_
  refine z_call (as := [zR (some (K 0))]) (r := []) (mc' := 2) (ms' := 7) rfl rfl rfl (Nat.le_of_ble_eq_true rfl) (by omega) (by omega) (rc0 rfl hX) (k_X9_useUpText hx hT1 hT2 hn) (by rintro _ _ ⟨_, _, e, _⟩; cases e) ?_
  rintro g_1 _ ⟨q_2, q_3, e9, h_4, h_5, e_6, e_7, e_8, f_9⟩; cases e9
  · skip
    have k_10 := (f_9 (K 0) (Kne hx (i := 0) (j := 1) (by omega) (by omega) (by omega)) (zn0 hX h_4) (zn0 hX h_5)).trans hX
    have k_11 := (f_9 (K 2) (Ne.symm (Kne hx (i := 1) (j := 2) (by omega) (by omega) (by omega))) (zn0 hT2 h_4) (zn0 hT2 h_5)).trans hT2
    have k_12 := (f_9 (K 5) (Ne.symm (Kne hx (i := 1) (j := 5) (by omega) (by omega) (by omega))) (zn0 hG1 h_4) (zn0 hG1 h_5)).trans hG1
    have k_13 := (f_9 (K 6) (Ne.symm (Kne hx (i := 1) (j := 6) (by omega) (by omega) (by omega))) (zn0 hG2 h_4) (zn0 hG2 h_5)).trans hG2
    have k_14 := (f_9 (K 7) (Ne.symm (Kne hx (i := 1) (j := 7) (by omega) (by omega) (by omega))) (zn0 hS1 h_4) (zn0 hS1 h_5)).trans hS1
    have d_15 := (zn0 hS2 h_5)
    have k_16 := (f_9 (K 8) (Ne.symm (Kne hx (i := 1) (j := 8) (by omega) (by omega) (by omega))) (zn0 hS2 h_4) d_15).trans hS2
    have k_17 := (f_9 (K 9) (Ne.symm (Kne hx (i := 1) (j := 9) (by omega) (by omega) (by omega))) (zn0 hS3 h_4) (zn0 hS3 h_5)).trans hS3
    have k_18 := (f_9 (K 10) (Ne.symm (Kne hx (i := 1) (j := 10) (by omega) (by omega) (by omega))) (zn0 hS4 h_4) (zn0 hS4 h_5)).trans hS4
    have n_19 := ext_new x0 h_4
    have n_20 := ext_gn x0 h_4
    have n_21 := ext_new x0 h_5
    have n_22 := ext_gn x0 h_5
    have x_23 := ext_mut3 x0 f_9 (Or.inr rfl) (hx.1 1 (by omega)) e_8 (Or.inl n_19) n_20 e_6 (Or.inl n_21) n_22 e_7
    have hr1 : rgI g_1 g r v (K 5) (K 6) A := x_rg st0 x_23 (fun y z => ⟨1, by omega, by omega, by omega, z⟩)
    have hg1 : hle g g_1 := x_23.2.1
    have hrel1 := hr1.2.2.2.1
    refine z_ast (ls' := [some (zR (some (K 0))), some (zI (nI p)), some (zR (some q_2)), none, none]) rfl (Nat.le_of_ble_eq_true rfl) rfl ?_
    refine z_ild rfl rfl ?_
    refine z_callF (as := [zI (nI p)]) (r := []) (v := some (zI (bI (isPk (nI p))))) rfl rfl rfl (Nat.le_of_ble_eq_true rfl) (by omega) (by omega) (rc1 rfl) k_X9_isPack ?_
    refine z_ifB1 rfl (fun b_24 => ?_) (fun b_24 => ?_)
    · refine z_ald rfl rfl ?_
      refine z_ild rfl rfl ?_
      refine z_call (as := [zR (some q_2), zI (nI p)]) (r := []) (mc' := (42 * n + 176)) (ms' := (84 * n + 438)) rfl rfl rfl (Nat.le_of_ble_eq_true rfl) (by omega) (by omega) (rc0 rfl e_6) (k_X1_publication htx hn (Nat.zero_le _) e_6 k_11 e_7 htf hg1 n_20 n_22) (by rintro _ _ (⟨_, _, _, _, _, _, _, e, _⟩ | ⟨e, _⟩) <;> cases e) ?_
      rintro g_25 o (⟨q_28, pv_29, pw_30, pr_31, pd_32, u_26, L_33, e9, w_34, w_35, x_27, n_37, n_38, c_39, b_40⟩ | ⟨e9, w_36, u_26, x_27⟩)
      · skip
        cases e9
        have k_41 := (x_27.2.2.2.2 (K 0) (some_nn k_10) (fun e => e.elim (zne k_10 e_6 (by nofun)) (zne k_10 e_7 (by nofun)))).trans k_10
        have k_42 := (x_27.2.2.2.2 (K 2) (some_nn k_11) (fun e => e.elim (zne k_11 e_6 (by nofun)) (zne k_11 e_7 (by nofun)))).trans k_11
        have k_43 := (x_27.2.2.2.2 (K 5) (some_nn k_12) (fun e => e.elim (zne k_12 e_6 (by nofun)) (zne k_12 e_7 (by nofun)))).trans k_12
        have k_44 := (x_27.2.2.2.2 (K 6) (some_nn k_13) (fun e => e.elim (zne k_13 e_6 (by nofun)) (zne k_13 e_7 (by nofun)))).trans k_13
        have k_45 := (x_27.2.2.2.2 (K 7) (some_nn k_14) (fun e => e.elim (zne k_14 e_6 (by nofun)) (zne k_14 e_7 (by nofun)))).trans k_14
        have k_46 := (x_27.2.2.2.2 (K 8) (some_nn k_16) (fun e => e.elim (zne k_16 e_6 (by nofun)) d_15)).trans k_16
        have k_47 := (x_27.2.2.2.2 (K 9) (some_nn k_17) (fun e => e.elim (zne k_17 e_6 (by nofun)) (zne k_17 e_7 (by nofun)))).trans k_17
        have k_48 := (x_27.2.2.2.2 (K 10) (some_nn k_18) (fun e => e.elim (zne k_18 e_6 (by nofun)) (zne k_18 e_7 (by nofun)))).trans k_18
        have k_49 := (x_27.2.2.2.2 (K 1) (some_nn e_8) (fun e => e.elim (zne e_8 e_6 (by nofun)) (zne e_8 e_7 (by nofun)))).trans e_8
        have x_50 := ext_call x_23 x_27 (fun y e => e.elim (fun e => by rw [e]; exact (Or.inl n_19)) (fun e => by rw [e]; exact (Or.inl n_21)))
        have n_51 := x_27.2.2.1 (K 1) (hx.1 1 (by omega)) (some_nn e_8)
        obtain ⟨y1, y2, y3, y4, y5, y6, y7, y8⟩ := pub_H hI w_34 w_35
        have h0q := ext_new x_23 n_37
        have eqs := hs_eq (p := p) hI pub_pF y3 v (Nat.le_refl _)
        have hr2 : rgI g_25 u_26 r v (K 5) (K 6) A := x_rg st0 x_50 (fun y z => ⟨1, by omega, by omega, by omega, z⟩)
        refine z_ast (ls' := [some (zR (some (K 0))), some (zI (nI p)), some (zR (some q_2)), some (zR (some q_28)), none]) rfl (Nat.le_of_ble_eq_true rfl) rfl ?_
        refine z_ald rfl rfl ?_
        refine z_nnP rfl ?_
        refine z_ald rfl rfl ?_
        refine z_get rfl k_41 rfl ?_
        refine z_ald rfl rfl ?_
        refine z_callF (as := [zR (some (K 5)), zR (some q_28)]) (r := []) (v := some (zI (bI (hsV r p (veV (r 2) n 0) v)))) rfl rfl rfl (Nat.le_of_ble_eq_true rfl) (by omega) (by omega) (rc0 rfl k_43) (k_X2_hasSame hr2 c_39 hp (vrAt_mono x_50.2.1 b_40.1.1)) ?_
        refine z_ifB0 rfl (fun b_52 => ?_) (fun b_52 => ?_)
        · refine z_ald rfl rfl ?_
          refine z_get rfl k_41 rfl ?_
          refine z_callF (as := [zR (some (K 5))]) (r := []) (v := some (zI (bI (decide (v = 40))))) rfl rfl rfl (Nat.le_of_ble_eq_true rfl) (by omega) (by omega) (rc0 rfl k_43) (k_X2_isFull hr2) ?_
          refine z_ifB0 rfl (fun b_53 => ?_) (fun b_53 => ?_)
          · have hv4 : v < 40 := by
              have := of_decide_eq_false b_53
              omega
            have hsf : hsF (pubF n r).2.2 (nI p) v = false := eqs.symm.trans b_52
            refine z_ald rfl rfl ?_
            refine z_get rfl k_41 rfl ?_
            refine z_ald rfl rfl ?_
            refine z_call (as := [zR (some (K 5)), zR (some q_28)]) (r := []) (mc' := 0) (ms' := 0) rfl rfl rfl (Nat.le_of_ble_eq_true rfl) (by omega) (by omega) (rc0 rfl k_43) (k_X2_add hr2 k_44 c_39 hv4) (by rintro _ _ ⟨e, _⟩; cases e) ?_
            rintro g_54 _ ⟨e9, e_55, e_56, f_57⟩; cases e9
            · skip
              have k_58 := (f_57 (K 0) (Kne hx (i := 0) (j := 5) (by omega) (by omega) (by omega)) (Kne hx (i := 0) (j := 6) (by omega) (by omega) (by omega))).trans k_41
              have k_59 := (f_57 (K 2) (Kne hx (i := 2) (j := 5) (by omega) (by omega) (by omega)) (Kne hx (i := 2) (j := 6) (by omega) (by omega) (by omega))).trans k_42
              have k_60 := (f_57 (K 7) (Ne.symm (Kne hx (i := 5) (j := 7) (by omega) (by omega) (by omega))) (Ne.symm (Kne hx (i := 6) (j := 7) (by omega) (by omega) (by omega)))).trans k_45
              have k_61 := (f_57 (K 8) (Ne.symm (Kne hx (i := 5) (j := 8) (by omega) (by omega) (by omega))) (Ne.symm (Kne hx (i := 6) (j := 8) (by omega) (by omega) (by omega)))).trans k_46
              have k_62 := (f_57 (K 9) (Ne.symm (Kne hx (i := 5) (j := 9) (by omega) (by omega) (by omega))) (Ne.symm (Kne hx (i := 6) (j := 9) (by omega) (by omega) (by omega)))).trans k_47
              have k_63 := (f_57 (K 10) (Ne.symm (Kne hx (i := 5) (j := 10) (by omega) (by omega) (by omega))) (Ne.symm (Kne hx (i := 6) (j := 10) (by omega) (by omega) (by omega)))).trans k_48
              have k_64 := (f_57 (K 1) (Kne hx (i := 1) (j := 5) (by omega) (by omega) (by omega)) (Kne hx (i := 1) (j := 6) (by omega) (by omega) (by omega))).trans k_49
              have k_65 := (f_57 q_28 (zne c_39 k_43 (by nofun)) (zne c_39 k_44 (by nofun))).trans c_39
              have hr3 := rg_pb st0 hI hp hv4 w_34 w_35 hsf x_50 h0q n_38 c_39 b_40 f_57 e_55 e_56 hfl
              refine z_ist (ls' := [some (zR (some (K 0))), some (zI (nI p)), some (zR (some q_2)), some (zR (some q_28)), some (zI (nI v))]) rfl (Nat.le_of_ble_eq_true rfl) rfl ?_
              refine z_ald rfl rfl ?_
              refine z_get rfl k_58 rfl ?_
              refine z_ild rfl rfl ?_
              refine z_ald rfl rfl ?_
              refine z_call (as := [zR (some (K 7)), zI (nI v), zR (some q_28)]) (r := []) (mc' := 0) (ms' := 0) rfl rfl rfl (Nat.le_of_ble_eq_true rfl) (by omega) (by omega) (rc0 rfl k_60) (k_learn2 (updN_s A v q_28) (x_gK st0 x_50 (by omega)) (x_gK st0 x_50 (by omega)) (x_gK st0 x_50 (by omega)) (Kne hx (by omega) (by omega) (by omega)) (Nat.lt_succ_self v) hr3 k_60 k_61 k_62 k_63) (by rintro _ _ ⟨e, _⟩; cases e) ?_
              rintro g_66 _ ⟨e9, e_67, e_68, e_69, f_70⟩; cases e9
              · skip
                refine z_ild rfl rfl ?_
                refine z_ret rfl ⟨_, rfl⟩ ?_
                exact Or.inr (Or.inr (Or.inr ⟨y1, y2, hsf, hv4, rfl, ⟨_, _, y8 p hp hv4 hsf⟩, st_pb st0 hI hp hv4 w_34 w_35 hsf x_50 k_49 h0q n_38 hr3 (some_nn ((f_57 _ (fun z => stC_K st0 (i := 5) (by omega) (by rw [← z]; exact h0q)) (fun z => stC_K st0 (i := 6) (by omega) (by rw [← z]; exact h0q))).trans c_39)) f_57 f_70 hS1 hS5 hsr hcs e_67 e_68 e_69⟩))
          · refine z_thr rfl (by omega) (by omega) (Nat.le_of_ble_eq_true rfl) ?_
            exact Or.inr (Or.inr (Or.inl ⟨y1, y2, eqs.symm.trans b_52, of_decide_eq_true b_53, rfl, st_rd st0 x_50 k_49⟩))
        · refine z_thr rfl (by omega) (by omega) (Nat.le_of_ble_eq_true rfl) ?_
          exact Or.inr (Or.inl ⟨y1, y2, eqs.symm.trans b_52, rfl, st_rd st0 x_50 k_49⟩)
      · skip
        cases e9
        have k_71 := (x_27.2.2.2.2 (K 0) (some_nn k_10) (fun e => e.elim (zne k_10 e_6 (by nofun)) (zne k_10 e_7 (by nofun)))).trans k_10
        have k_72 := (x_27.2.2.2.2 (K 2) (some_nn k_11) (fun e => e.elim (zne k_11 e_6 (by nofun)) (zne k_11 e_7 (by nofun)))).trans k_11
        have k_73 := (x_27.2.2.2.2 (K 5) (some_nn k_12) (fun e => e.elim (zne k_12 e_6 (by nofun)) (zne k_12 e_7 (by nofun)))).trans k_12
        have k_74 := (x_27.2.2.2.2 (K 6) (some_nn k_13) (fun e => e.elim (zne k_13 e_6 (by nofun)) (zne k_13 e_7 (by nofun)))).trans k_13
        have k_75 := (x_27.2.2.2.2 (K 7) (some_nn k_14) (fun e => e.elim (zne k_14 e_6 (by nofun)) (zne k_14 e_7 (by nofun)))).trans k_14
        have k_76 := (x_27.2.2.2.2 (K 8) (some_nn k_16) (fun e => e.elim (zne k_16 e_6 (by nofun)) d_15)).trans k_16
        have k_77 := (x_27.2.2.2.2 (K 9) (some_nn k_17) (fun e => e.elim (zne k_17 e_6 (by nofun)) (zne k_17 e_7 (by nofun)))).trans k_17
        have k_78 := (x_27.2.2.2.2 (K 10) (some_nn k_18) (fun e => e.elim (zne k_18 e_6 (by nofun)) (zne k_18 e_7 (by nofun)))).trans k_18
        have k_79 := (x_27.2.2.2.2 (K 1) (some_nn e_8) (fun e => e.elim (zne e_8 e_6 (by nofun)) (zne e_8 e_7 (by nofun)))).trans e_8
        have x_80 := ext_call x_23 x_27 (fun y e => e.elim (fun e => by rw [e]; exact (Or.inl n_19)) (fun e => by rw [e]; exact (Or.inl n_21)))
        have n_81 := x_27.2.2.1 (K 1) (hx.1 1 (by omega)) (some_nn e_8)
        have y1 := pubB_no w_36
        refine z_ast (ls' := [some (zR (some (K 0))), some (zI (nI p)), some (zR (some q_2)), some (zR none), none]) rfl (Nat.le_of_ble_eq_true rfl) rfl ?_
        refine z_ald rfl rfl ?_
        refine z_nnZ rfl ?_
        refine z_thr rfl (by omega) (by omega) (Nat.le_of_ble_eq_true rfl) ?_
        exact Or.inl ⟨y1, rfl, st_rd st0 x_80 k_79⟩
    · rw [isPk_n hp] at b_24; cases b_24
set_option maxHeartbeats 1000000 in
theorem k_publishX {d : Nat} {h : zH} {g : zH} {K A : Nat → Nat} {n v f : Nat} {r : rA} {x : Int32} (st : stC h g K A n v f r) (hpx : isPk x = false) : zCall (d + 9) 75 [zR (some (K 0)), zI (x)] h (42 * n + 180) (84 * n + 452) (fun h' o => o = .inr 2 ∧ poC h g K A v h' 0 v f r) := by
  have st0 := st
  obtain ⟨hx, ⟨tc, hT1, hT2, hn, htx, htf⟩, ⟨fc, hF1, hF2, hf6, hfc⟩, hr, ⟨Kf, O, C, T, fo, hS1, hS2, hS3, hS4, hS5, hsr, hcs⟩, ⟨fR, hR1, hrt⟩, ⟨fP, hP1, hpp⟩, ⟨fC, hC1, hcc⟩⟩ := st
  have hX := hx.2.2
  have hr0 := hr
  obtain ⟨hG1, ⟨fl, hG2, hfl⟩, hv, hrel, hg⟩ := hr
  refine zCall.of (d := d + 8) (T := tb_75) (L := [some (zR (some (K 0))), some (zI (x)), none, none, none]) (Nat.le_of_ble_eq_true rfl) rfl rfl ?_
  have x0 : ext (fun y => y = K 1) g h g h := ext_refl hg
  refine z_ald rfl rfl ?_
  refine z_call (as := [zR (some (K 0))]) (r := []) (mc' := 2) (ms' := 7) rfl rfl rfl (Nat.le_of_ble_eq_true rfl) (by omega) (by omega) (rc0 rfl hX) (k_X9_useUpText hx hT1 hT2 hn) (by rintro _ _ ⟨_, _, e, _⟩; cases e) ?_
  rintro g_1 _ ⟨q_2, q_3, e9, h_4, h_5, e_6, e_7, e_8, f_9⟩; cases e9
  · skip
    have k_10 := (f_9 (K 0) (Kne hx (i := 0) (j := 1) (by omega) (by omega) (by omega)) (zn0 hX h_4) (zn0 hX h_5)).trans hX
    have k_11 := (f_9 (K 2) (Ne.symm (Kne hx (i := 1) (j := 2) (by omega) (by omega) (by omega))) (zn0 hT2 h_4) (zn0 hT2 h_5)).trans hT2
    have k_12 := (f_9 (K 5) (Ne.symm (Kne hx (i := 1) (j := 5) (by omega) (by omega) (by omega))) (zn0 hG1 h_4) (zn0 hG1 h_5)).trans hG1
    have n_13 := ext_new x0 h_4
    have n_14 := ext_gn x0 h_4
    have n_15 := ext_new x0 h_5
    have n_16 := ext_gn x0 h_5
    have x_17 := ext_mut3 x0 f_9 (Or.inr rfl) (hx.1 1 (by omega)) e_8 (Or.inl n_13) n_14 e_6 (Or.inl n_15) n_16 e_7
    have hr1 : rgI g_1 g r v (K 5) (K 6) A := x_rg st0 x_17 (fun y z => ⟨1, by omega, by omega, by omega, z⟩)
    have hg1 : hle g g_1 := x_17.2.1
    have hrel1 := hr1.2.2.2.1
    refine z_ast (ls' := [some (zR (some (K 0))), some (zI (x)), some (zR (some q_2)), none, none]) rfl (Nat.le_of_ble_eq_true rfl) rfl ?_
    refine z_ild rfl rfl ?_
    refine z_callF (as := [zI (x)]) (r := []) (v := some (zI (bI (isPk (x))))) rfl rfl rfl (Nat.le_of_ble_eq_true rfl) (by omega) (by omega) (rc1 rfl) k_X9_isPack ?_
    refine z_ifB1 rfl (fun b_18 => ?_) (fun b_18 => ?_)
    · rw [hpx] at b_18; cases b_18
    · refine z_thr rfl (by omega) (by omega) (Nat.le_of_ble_eq_true rfl) ?_
      exact ⟨rfl, st_rd st0 x_17 e_8⟩
