/-! The law: one call on both sides. -/
/-- what holds between two rows of the script -/
def lwV (h : zH) (K : Nat → Nat) (q : Nat) (qa : Nat → Nat) (po co : Nat) : Prop := ∃ g A n a b v f r, lwI h g K A q qa po co n a b v f r
section
variable {h g h1 h2 : zH} {K A : Nat → Nat} {q : Nat} {qa : Nat → Nat} {po c n a v f : Nat} {b : Bool} {r : rA} {jr : Nat} {asr : List zV} {cd : Nat → Nat} {vd : Bool} {ee : List Nat} {cv : Int32 → Int64}
theorem lw_nM {g' : zH} {A' : Nat → Nat} {n' v' f' : Nat} {r' : rA} (I : lwI h g K A q qa po c n a b v f r) (e : ∀ y, ownL q qa po y → h1 y = h y) (st : stC h1 g' K A' n' v' f' r') {y : Nat} (hy : ownL q qa po y) : ¬ cM K A' v' y := by
  obtain ⟨_, _, hr, ⟨fo, ho⟩, hg, _⟩ := I
  intro z
  rcases z with ⟨i, hi, e'⟩ | ⟨i, hi, e'⟩
  · exact (hg y hy).2 i hi e'
  · obtain ⟨fs, hA⟩ := stC_A st hi
    rw [← e', e y hy] at hA
    rcases hy with e | e | ⟨k, t, m, hk, e⟩
    · rw [e, hr.1] at hA; cases hA
    · rw [e, ho] at hA; cases hA
    · rw [e, hr.2.1 k t m hk] at hA; cases hA
/-- what a call of the class has left is the reference's to answer -/
theorem lw_call {res : Option zV ⊕ Nat} {fo : Nat → Int64} (I : lwI h g K A q qa po c n a b v f r) (hP : agQ h K q qa po jr asr (c, n, a, b, v, f, r) cd vd ee h1 res) (e2 : ∀ y, y ≠ po → h2 y = h1 y) (hpo : h2 po = some (zaJ 1 fo)) : (∃ fs, h2 q = some (zO 10 fs)) ∧ zCall 30 jr (zR (some q) :: asr) h2 0 0 (fun h3 o => ∃ w g' A' c2 n2 a2 b2 v2 f2 r2, o = .inl w ∧ lwI h3 g' K A' q qa po c2 n2 a2 b2 v2 f2 r2 ∧ h3 po = some (zaJ 1 fo) ∧ wsF vd w ∧ ((∃ x, res = .inl (some (zI x)) ∧ w = some (zI x) ∧ c2 = 0) ∨ (res = .inl none ∧ w = none ∧ c2 = 0) ∨ ∃ e, res = .inr e ∧ c2 = cd e ∧ 1 ≤ cd e ∧ cd e ≤ 4)) := by
  have I0 := I
  obtain ⟨o1, hrs, g', A', o2, R, hR, hR2⟩ := hP
  obtain ⟨st, hV, hr, hfo, hg, inj, n1, n2⟩ := I
  have eq : h2 q = h q := (e2 q (fun e => n1 e.symm)).trans (o1 q (Or.inl rfl))
  have ek : ∀ k t m, rarr k = some (t, m) → h2 (qa k) = h (qa k) := fun k t m hk => (e2 _ (fun e => n2 k t m hk e.symm)).trans (o1 _ (Or.inr (Or.inr ⟨k, t, m, hk, rfl⟩)))
  have hr2 : rAt q qa h2 (c, n, a, b, v, f, r) := ⟨eq.trans hr.1, fun k t m hk => (ek k t m hk).trans (hr.2.1 k t m hk), hr.2.2⟩
  refine ⟨⟨_, hr2.1⟩, zCall_mono _ _ _ _ _ _ _ _ (fun h3 o z => ?_) (hR h2 hr2)⟩
  obtain ⟨⟨c2, n2', a2, b2, v2, f2, r2⟩, t1, t2, w, ho, hw⟩ := z
  obtain ⟨⟨st', hV', inj'⟩, ws, rel⟩ := hR2 c2 n2' a2 b2 v2 f2 r2 w hw
  have ko : ∀ y, ¬ ownL q qa po y → h3 y = h1 y := fun y hy => (t2 y (fun e => hy (Or.inl e)) (fun k t m hk e => hy (Or.inr (Or.inr ⟨k, t, m, hk, e⟩)))).trans (e2 y (fun e => hy (Or.inr (Or.inl e))))
  have p3 : h3 po = some (zaJ 1 fo) := (t2 po n1 n2).trans hpo
  have l3 : hle g' h3 := fun y e hy => by
    have : ¬ ownL q qa po y := fun z => by rw [o2 y z] at hy; cases hy
    rw [ko y this]
    exact st'.2.2.2.1.2.2.2.2 y e hy
  exact ⟨w, g', A', c2, n2', a2, b2, v2, f2, r2, ho, ⟨stC_fr st' (fun y hy => ko y (fun z => lw_nM I0 o1 st' z hy)) l3, hV', t1, ⟨fo, p3⟩, fun y hy => ⟨o2 y hy, (hg y hy).2⟩, inj', n1, n2⟩, p3, ws, rel⟩
/-- behind a helper -/
theorem lw_help {o : Option zV ⊕ Nat} (I : lwI h g K A q qa po c n a b v f r) (hz : hpQ (agQ h K q qa po jr asr (c, n, a, b, v, f, r) cd vd ee) po cv cd h2 o) : ∃ co x fs, o = .inl (some (zI (nI co))) ∧ h2 q = some (zO 10 fs) ∧ zCall 30 jr (zR (some q) :: asr) h2 0 0 (fun h3 o3 => ∃ w, o3 = .inl w ∧ wsF vd w ∧ lwV h3 K q qa po co ∧ co ≤ 4 ∧ (vd = false → co = 0 → (∃ fo, h3 po = some (zaJ 1 fo) ∧ fo 0 = cv x) ∧ w = some (zI x))) := by
  obtain ⟨h1, res, hP, hz⟩ := hz
  obtain ⟨fo1, hfo1⟩ := I.2.2.2.1
  have hp1 : h1 po = some (zaJ 1 fo1) := (hP.1 po (Or.inr (Or.inl rfl))).trans hfo1
  rcases hz with ⟨x, fo, hres, ho, hpo, hfo, e2⟩ | ⟨hres, ho, e2⟩ | ⟨e, hres, ho, e2⟩
  · obtain ⟨⟨fs, hq⟩, hc⟩ := lw_call I hP e2 hpo
    refine ⟨0, x, fs, ho, hq, zCall_mono _ _ _ _ _ _ _ _ (fun h3 o3 z => ?_) hc⟩
    obtain ⟨w, g', A', c2, n2, a2, b2, v2, f2, r2, z1, z2, z3, z4, z5⟩ := z
    rcases z5 with ⟨x', y1, y2, y3⟩ | ⟨y1, _⟩ | ⟨e, y1, _⟩
    · rw [hres] at y1
      cases y1
      subst y3
      exact ⟨w, z1, z4, ⟨g', A', n2, a2, b2, v2, f2, r2, z2⟩, by omega, fun _ _ => ⟨⟨fo, z3, hfo⟩, y2⟩⟩
    · rw [hres] at y1; cases y1
    · rw [hres] at y1; cases y1
  · subst e2
    obtain ⟨⟨fs, hq⟩, hc⟩ := lw_call I hP (fun _ _ => rfl) hp1
    refine ⟨0, 0, fs, ho, hq, zCall_mono _ _ _ _ _ _ _ _ (fun h3 o3 z => ?_) hc⟩
    obtain ⟨w, g', A', c2, n2, a2, b2, v2, f2, r2, z1, z2, z3, z4, z5⟩ := z
    rcases z5 with ⟨x', y1, y2, y3⟩ | ⟨y1, y2, y3⟩ | ⟨e, y1, _⟩
    · rw [hres] at y1; cases y1
    · subst y3
      refine ⟨w, z1, z4, ⟨g', A', n2, a2, b2, v2, f2, r2, z2⟩, by omega, fun hv _ => ?_⟩
      rcases z4 with ⟨u, _⟩ | ⟨_, y, u⟩
      · rw [hv] at u; cases u
      · rw [y2] at u; cases u
    · rw [hres] at y1; cases y1
  · subst e2
    obtain ⟨⟨fs, hq⟩, hc⟩ := lw_call I hP (fun _ _ => rfl) hp1
    refine ⟨cd e, 0, fs, ho, hq, zCall_mono _ _ _ _ _ _ _ _ (fun h3 o3 z => ?_) hc⟩
    obtain ⟨w, g', A', c2, n2, a2, b2, v2, f2, r2, z1, z2, z3, z4, z5⟩ := z
    rcases z5 with ⟨x', y1, y2, y3⟩ | ⟨y1, y2, y3⟩ | ⟨e', y1, y2, y3, y4⟩
    · rw [hres] at y1; cases y1
    · rw [hres] at y1; cases y1
    · rw [hres] at y1
      cases y1
      subst y2
      exact ⟨w, z1, z4, ⟨g', A', n2, a2, b2, v2, f2, r2, z2⟩, y4, fun _ u => by omega⟩
theorem hpQ_ne {P : zQ} {h' : zH} {e : Nat} : ¬ hpQ P po cv cd h' (.inr e) := fun ⟨_, _, _, z⟩ => by
  rcases z with ⟨_, _, _, u, _⟩ | ⟨_, u, _⟩ | ⟨_, _, u, _⟩ <;> cases u
/-- behind a call that never throws -/
theorem lw_dir {res : Option zV ⊕ Nat} (I : lwI h g K A q qa po c n a b v f r) (hP : agQ h K q qa po jr asr (c, n, a, b, v, f, r) cd false [] h1 res) : ∃ x fs, res = .inl (some (zI x)) ∧ h1 q = some (zO 10 fs) ∧ zCall 30 jr (zR (some q) :: asr) h1 0 0 (fun h3 o3 => o3 = .inl (some (zI x)) ∧ lwV h3 K q qa po 0) := by
  obtain ⟨fo1, hfo1⟩ := I.2.2.2.1
  have hp1 : h1 po = some (zaJ 1 fo1) := (hP.1 po (Or.inr (Or.inl rfl))).trans hfo1
  obtain ⟨⟨fs, hq⟩, hc⟩ := lw_call I hP (fun _ _ => rfl) hp1
  rcases hP.2.1 with ⟨u, _⟩ | ⟨_, x, hres⟩ | ⟨e, _, u⟩
  · cases u
  · refine ⟨x, fs, hres, hq, zCall_mono _ _ _ _ _ _ _ _ (fun h3 o3 z => ?_) hc⟩
    obtain ⟨w, g', A', c2, n2, a2, b2, v2, f2, r2, z1, z2, z3, z4, z5⟩ := z
    rcases z5 with ⟨x', y1, y2, y3⟩ | ⟨y1, y2, y3⟩ | ⟨e', y1, y2, y3, y4⟩
    · rw [hres] at y1
      cases y1
      subst y3
      exact ⟨by rw [z1, y2], g', A', n2, a2, b2, v2, f2, r2, z2⟩
    · rw [hres] at y1; cases y1
    · rw [hres] at y1; cases y1
  · cases u
/-- which throwable the reference has in mind -/
theorem lw_thr (I : lwI h g K A q qa po c n a b v f r) : zCall 30 97 [zR (some q)] h 0 0 (fun h' o => h' = h ∧ o = .inl (some (zI (nI c)))) := by
  have hr := I.2.2.1
  refine zCall_mono _ _ _ _ _ _ _ _ (fun h' o z => ?_) (c_thrown (d := 29) h hr)
  obtain ⟨t, t1, t2, rfl, ho⟩ := z
  refine ⟨funext fun y => ?_, ho⟩
  by_cases e1 : y = q
  · rw [e1, t1.1, hr.1]
  · by_cases e2 : ∃ k t n, rarr k = some (t, n) ∧ y = qa k
    · obtain ⟨k, t, m, hk, e2⟩ := e2
      rw [e2, t1.2.1 k t m hk, hr.2.1 k t m hk]
    · exact t2 y e1 (fun k t m hk e => e2 ⟨k, t, m, hk, e⟩)
end
