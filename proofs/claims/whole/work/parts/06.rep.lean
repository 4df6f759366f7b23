/-! What a real heap and real locals have to do with the pure ones. -/
def zTY (cy : Nat → ClassId) : List (ClassId × FieldType) := [(cy 0, .byte), (cy 1, .int), (cy 2, .long), (cy 3, .boolean), (cy 4, .object "VersionSolver$Release"), (cy 5, .object "VersionSolver$Requirement"), (cy 6, .object "VersionSolver$Span"), (cy 7, .object "VersionSolver$Word")]
def ztr (cy : Nat → ClassId) (e : zE) : va_E := match e with
  | .inl (k, n, f) => .inl (cy k, n, .inl f)
  | .inr (.inl (k, n, f)) => .inl (cy k, n, .inr (.inl f))
  | .inr (.inr (.inl (k, n, f))) => .inl (cy k, n, .inr (.inr (.inr (.inr f))))
  | .inr (.inr (.inr (ci, fs))) => .inr (ci, fs.map zval)
def zgr (cy : Nat → ClassId) (h : zH) (a : Nat) : va_E := match h a with
  | some e => ztr cy e
  | none => .inr (0, [])
def zRep (D : va_G) (cy : Nat → ClassId) (A : Nat → Prop) (h : zH) (H : Heap) : Prop := ∃ L : List Nat, va_P D zCL (va_pl L (zgr cy h)) H ∧ va_D A (va_pl L (zgr cy h)) ∧ ∀ a, a ∈ L ↔ h a ≠ none
theorem zgr_some {cy : Nat → ClassId} {h : zH} {a : Nat} {e : zE} (he : h a = some e) : zgr cy h a = ztr cy e := by simp [zgr, he]
theorem zgr_up (cy : Nat → ClassId) (h : zH) (a : Nat) (e : zE) (b : Nat) : va_up (zgr cy h) a (ztr cy e) b = zgr cy (zup h a e) b := by
  by_cases hb : b = a
  · subst hb
    rw [va_up_self, zgr_some (zup_s h b e)]
  · rw [va_up_ne _ _ hb]
    simp [zgr, zup_n h e hb]
theorem zpl_at {cy : Nat → ClassId} {h : zH} {L : List Nat} {a : Nat} {e : zE} (hL : ∀ a, a ∈ L ↔ h a ≠ none) (he : h a = some e) : ∃ k : Nat, (va_pl L (zgr cy h))[k]? = some (a, zgr cy h a) ∧ (va_pl L (zgr cy h))[k]? = some (a, ztr cy e) := by
  obtain ⟨k, hk⟩ := va_pl_get (X := []) (f := zgr cy h) ((hL a).mpr (by rw [he]; exact fun z => by cases z))
  have hk : (va_pl L (zgr cy h))[k]? = some (a, zgr cy h a) := hk
  exact ⟨k, hk, by rw [hk, zgr_some he]⟩
theorem zpl_set {cy : Nat → ClassId} {h : zH} {A : Nat → Prop} {L : List Nat} {a k : Nat} {e0 : zE} (e : zE) (hD : va_D A (va_pl L (zgr cy h))) (hL : ∀ a, a ∈ L ↔ h a ≠ none) (he : h a = some e0) (hk : (va_pl L (zgr cy h))[k]? = some (a, zgr cy h a)) : (va_pl L (zgr cy h)).set k (a, ztr cy e) = va_pl L (zgr cy (zup h a e)) := by
  have h1 := va_pl_set (X := []) (e := ztr cy e) hD ((hL a).mpr (by rw [he]; exact fun z => by cases z)) hk
  have h1 : (va_pl L (zgr cy h)).set k (a, ztr cy e) = va_pl L (va_up (zgr cy h) a (ztr cy e)) := h1
  rw [h1]
  exact va_pl_congr (zgr_up cy h a e)
theorem zdom_set {h : zH} {L : List Nat} {a : Nat} {e0 : zE} (e : zE) (hL : ∀ a, a ∈ L ↔ h a ≠ none) (he : h a = some e0) : ∀ b, b ∈ L ↔ zup h a e b ≠ none := by
  intro b
  by_cases hb : b = a
  · subst hb
    rw [zup_s]
    exact ⟨(fun _ z => by cases z), fun _ => (hL b).mpr (by rw [he]; exact fun z => by cases z)⟩
  · rw [zup_n h e hb]
    exact hL b
theorem zRep.set {D : va_G} {cy : Nat → ClassId} {A : Nat → Prop} {h : zH} {H1 : Heap} {L : List Nat} {a k : Nat} {e0 : zE} (e : zE) (hD0 : va_D A (va_pl L (zgr cy h))) (hL : ∀ a, a ∈ L ↔ h a ≠ none) (he : h a = some e0) (hk : (va_pl L (zgr cy h))[k]? = some (a, zgr cy h a))
    (hP : va_P D zCL ((va_pl L (zgr cy h)).set k (a, ztr cy e)) H1) (hD : va_D A ((va_pl L (zgr cy h)).set k (a, ztr cy e))) : zRep D cy A (zup h a e) H1 := by
  rw [zpl_set e hD0 hL he hk] at hP hD
  exact ⟨L, hP, hD, zdom_set e hL he⟩
theorem zRep.push {D : va_G} {cy : Nat → ClassId} {A : Nat → Prop} {h : zH} {H1 : Heap} {L : List Nat} {q : Nat} (e : zE) (hL : ∀ a, a ∈ L ↔ h a ≠ none)
    (hP : va_P D zCL (va_pl L (zgr cy h) ++ [(q, ztr cy e)]) H1) (hD : va_D A (va_pl L (zgr cy h) ++ [(q, ztr cy e)])) : h q = none ∧ zRep D cy A (zup h q e) H1 := by
  have hq : q ∉ L := va_pl_fresh2 (X := []) hD
  have hn : h q = none := by
    cases hz : h q with
    | none => rfl
    | some x => exact absurd ((hL q).mpr (by rw [hz]; exact fun z => by cases z)) hq
  rw [va_pl_push hq, va_pl_congr (zgr_up cy h q e)] at hP hD
  refine ⟨hn, L ++ [q], hP, hD, fun b => ?_⟩
  by_cases hb : b = q
  · subst hb
    rw [zup_s]
    exact ⟨(fun _ z => by cases z), fun _ => List.mem_append_right _ List.mem_cons_self⟩
  · rw [zup_n h e hb, List.mem_append, List.mem_singleton]
    exact ⟨fun z => (hL b).mp (z.resolve_right hb), fun z => Or.inl ((hL b).mpr z)⟩
/-- locals -/
def zhas (arr : Array Slot) (nL : Nat) (ls : List (Option zV)) : Prop := ls.length = nL ∧ arr.size = nL ∧ lv_wf arr ∧ ∀ (i : Nat) (v : zV), ls[i]? = some (some v) → arr[i]? = some (.val (zval v))
def zasc : Nat → List (Option zV) → List (Nat × Value)
  | _, [] => []
  | i, none :: t => zasc (i + 1) t
  | i, some v :: t => (i, zval v) :: zasc (i + 1) t
theorem zasc_mem : ∀ (ls : List (Option zV)) (i : Nat) (q : Nat × Value), q ∈ zasc i ls → ∃ (k : Nat) (v : zV), q = (i + k, zval v) ∧ ls[k]? = some (some v)
  | [], _, _, h => by cases h
  | none :: t, i, q, h => by
    obtain ⟨k, v, h1, h2⟩ := zasc_mem t (i + 1) q h
    exact ⟨k + 1, v, by rw [h1]; congr 1; omega, by simpa using h2⟩
  | some w :: t, i, q, h => by
    rcases List.mem_cons.mp h with h | h
    · exact ⟨0, w, h, rfl⟩
    · obtain ⟨k, v, h1, h2⟩ := zasc_mem t (i + 1) q h
      exact ⟨k + 1, v, by rw [h1]; congr 1; omega, by simpa using h2⟩
theorem zasc_in : ∀ (ls : List (Option zV)) (i k : Nat) (v : zV), ls[k]? = some (some v) → (i + k, zval v) ∈ zasc i ls
  | [], _, _, _, h => by simp at h
  | x :: t, i, 0, v, h => by
    have h : x = some v := by simpa using h
    subst h
    exact List.mem_cons_self
  | x :: t, i, k + 1, v, h => by
    have h : t[k]? = some (some v) := by simpa using h
    have h1 := zasc_in t (i + 1) k v h
    rw [show i + 1 + k = i + (k + 1) by omega] at h1
    cases x with
    | none => exact h1
    | some w => exact List.mem_cons_of_mem _ h1
theorem zhas.lv {arr : Array Slot} {nL : Nat} {ls : List (Option zV)} (h : zhas arr nL ls) : lv_has arr nL (zasc 0 ls) := by
  refine ⟨h.2.1, h.2.2.1, fun q hq => ?_⟩
  obtain ⟨k, v, h1, h2⟩ := zasc_mem ls 0 q hq
  rw [h1]
  have := h.2.2.2 k v h2
  simpa using this
theorem zcat_val (v : zV) : (zval v).category = zcat v := by
  rcases v with x | x | (_ | r) <;> rfl
theorem zset_len : ∀ (ls : List (Option zV)) (a : Nat) (v : zV), (zset ls a v).length = ls.length
  | [], _, _ => rfl
  | _ :: t, 0, v => by
    rcases v with x | x | x
    · simp [zset]
    · cases t <;> simp [zset, zhid]
    · simp [zset]
  | x :: t, 1, v => by
    have := zset_len t 0 v
    simp [zset, this]
  | x :: t, n + 2, v => by
    have := zset_len t (n + 1) v
    simp [zset, this]
theorem zset_at : ∀ (ls : List (Option zV)) (a : Nat) (v : zV) (j : Nat) (w : zV), (zset ls a v)[j]? = some (some w) → (j = a ∧ w = v) ∨ (j ≠ a ∧ ls[j]? = some (some w) ∧ ¬ (j + 1 = a ∧ zcat w = 2) ∧ ¬ (j = a + 1 ∧ zcat v = 2))
  | [], _, _, _, _, h => by simp [zset] at h
  | x :: t, 0, v, j, w, h => by
    cases j with
    | zero =>
      have h : v = w := by rcases v with x | x | x <;> simpa [zset] using h
      exact Or.inl ⟨rfl, h.symm⟩
    | succ j =>
      refine Or.inr ⟨by omega, ?_, by omega, ?_⟩
      · rcases v with y | y | y
        · simpa [zset] using h
        · cases t with
          | nil => simp [zset, zhid] at h
          | cons z t =>
            cases j with
            | zero => simp [zset, zhid] at h
            | succ j => simpa [zset, zhid] using h
        · simpa [zset] using h
      · rintro ⟨h1, h2⟩
        have hj : j = 0 := by omega
        subst hj
        rcases v with y | y | y
        · simp [zcat] at h2
        · cases t <;> simp [zset, zhid] at h
        · simp [zcat] at h2
  | x :: t, 1, v, j, w, h => by
    cases j with
    | zero =>
      have h : zclr x = some w := by simpa [zset] using h
      refine Or.inr ⟨by omega, ?_, ?_, by omega⟩
      · rcases x with _ | (y | y | y) <;> simp [zclr] at h ⊢ <;> exact h
      · rintro ⟨-, h2⟩
        rcases x with _ | (y | y | y) <;> simp [zclr] at h
        · subst h; simp [zcat] at h2
        · subst h; simp [zcat] at h2
    | succ j =>
      have h : (zset t 0 v)[j]? = some (some w) := by simpa [zset] using h
      rcases zset_at t 0 v j w h with ⟨h1, h2⟩ | ⟨h1, h2, h3, h4⟩
      · exact Or.inl ⟨by omega, h2⟩
      · exact Or.inr ⟨by omega, by simpa using h2, by omega, by omega⟩
  | x :: t, n + 2, v, j, w, h => by
    cases j with
    | zero =>
      have h : x = some w := by simpa [zset] using h
      exact Or.inr ⟨by omega, by simp [h], by omega, by omega⟩
    | succ j =>
      have h : (zset t (n + 1) v)[j]? = some (some w) := by simpa [zset] using h
      rcases zset_at t (n + 1) v j w h with ⟨h1, h2⟩ | ⟨h1, h2, h3, h4⟩
      · exact Or.inl ⟨by omega, h2⟩
      · exact Or.inr ⟨by omega, by simpa using h2, by omega, by omega⟩
theorem zhas.st1 {arr arr' : Array Slot} {nL a : Nat} {ls : List (Option zV)} {v : zV} (h : zhas arr nL ls) (hc : zcat v = 1) (h' : lv_has arr' nL ((a, zval v) :: (zasc 0 ls).filter (fun q => !(q.1 == a) && !(q.1 + 1 == a && q.2.category == 2)))) : zhas arr' nL (zset ls a v) := by
  refine ⟨by rw [zset_len]; exact h.1, h'.1, h'.2.1, fun j w hj => ?_⟩
  rcases zset_at ls a v j w hj with ⟨h1, h2⟩ | ⟨h1, h2, h3, h4⟩
  · subst h1; subst h2
    exact h'.2.2 _ List.mem_cons_self
  · refine h'.2.2 (j, zval w) (List.mem_cons_of_mem _ (List.mem_filter.mpr ⟨?_, ?_⟩))
    · have := zasc_in ls 0 j w h2
      simpa using this
    · rw [zcat_val]
      simp only [Bool.and_eq_true, Bool.not_eq_true', beq_eq_false_iff_ne, ne_eq, Bool.and_eq_false_iff]
      refine ⟨h1, ?_⟩
      by_cases hz : j + 1 = a
      · exact Or.inr (fun z => h3 ⟨hz, z⟩)
      · exact Or.inl hz
theorem zhas.st2 {arr arr' : Array Slot} {nL a : Nat} {ls : List (Option zV)} {v : zV} (h : zhas arr nL ls) (hc : zcat v = 2) (h' : lv_has arr' nL ((a, zval v) :: (zasc 0 ls).filter (fun q => !(q.1 == a) && (!(q.1 == a + 1) && !(q.1 + 1 == a && q.2.category == 2))))) : zhas arr' nL (zset ls a v) := by
  refine ⟨by rw [zset_len]; exact h.1, h'.1, h'.2.1, fun j w hj => ?_⟩
  rcases zset_at ls a v j w hj with ⟨h1, h2⟩ | ⟨h1, h2, h3, h4⟩
  · subst h1; subst h2
    exact h'.2.2 _ List.mem_cons_self
  · refine h'.2.2 (j, zval w) (List.mem_cons_of_mem _ (List.mem_filter.mpr ⟨?_, ?_⟩))
    · have := zasc_in ls 0 j w h2
      simpa using this
    · rw [zcat_val]
      simp only [Bool.and_eq_true, Bool.not_eq_true', beq_eq_false_iff_ne, ne_eq, Bool.and_eq_false_iff]
      refine ⟨h1, fun z => h4 ⟨z, hc⟩, ?_⟩
      by_cases hz : j + 1 = a
      · exact Or.inr (fun z => h3 ⟨hz, z⟩)
      · exact Or.inl hz
