/-! What the law's helpers leave. -/
theorem hCall.of {d j mc ms : Nat} {as : List zV} {h : zH} {Q : zQ} {T : List (Nat × zOp)} {L : List (Option zV)} (hn : (zargs as).length ≤ zL j) (hT : ztb j = T) (hL : zent (zL j) as = L) (k : hEv d (hfd (hH j)) T mc ms Q 0 L [] h 0 0) : hCall d j as h mc ms Q := ⟨hn, by rw [hT, hL]; exact k⟩
section
variable {d k0 po mc ms : Nat} {h : zH} {P : zQ} {fs : List zV} {fo : Nat → Int64}
theorem hp_feed (x : Int64) (y : Int32) (hk : h k0 = some (zO 9 fs)) (hp : h po = some (zaJ 1 fo)) (hP : ∀ h1 res, P h1 res → h1 po = h po ∧ rsF false [0, 1] res) (hc : zCall d 74 [zR (some k0), zJ x, zI y] h mc ms P) : hCall d 152 [zR (some k0), zJ x, zI y, zR (some po)] h mc ms (hpQ P po Int32.toInt64 cdF) := by
  refine hCall.of (T := tb_152) (L := [some (zR (some k0)), some (zJ x), none, some (zI y), some (zR (some po)), none]) (Nat.le_of_ble_eq_true rfl) rfl rfl ?_
  refine h_ald rfl rfl ?_
  refine h_ico (x := nI 0) rfl rfl ?_
  refine h_ald rfl rfl ?_
  refine h_lld rfl rfl ?_
  refine h_ild rfl rfl ?_
  refine h_call (as := [zR (some k0), zJ x, zI y]) (r := [zI (nI 0), zR (some po)]) (mc' := mc) (ms' := ms) rfl rfl rfl (Nat.le_of_ble_eq_true rfl) (by omega) (by omega) (rc0 rfl hk) hc ?_
  intro h1 res hz
  obtain ⟨e1, e2⟩ := hP h1 res hz
  have hpo := e1.trans hp
  rcases e2 with ⟨e, _⟩ | ⟨_, u, rfl⟩ | ⟨e, rfl, he⟩
  · cases e
  · show hEv d (hfd (hH 152)) tb_152 mc ms (hpQ P po Int32.toInt64 cdF) 9 [some (zR (some k0)), some (zJ x), none, some (zI y), some (zR (some po)), none] [zI u, zI (nI 0), zR (some po)] h1 (0 + mc) (0 + ms)
    refine h_i2l (v := u.toInt64) rfl rfl ?_
    refine h_last rfl hpo (by decide) (by decide) ?_
    intro h' q1 q2
    refine h_go rfl ?_
    refine h_ico (x := nI 0) rfl rfl ?_
    exact h_ret rfl ⟨_, rfl⟩ ⟨h1, _, hz, Or.inl ⟨u, _, rfl, rfl, q1, if_pos rfl, q2⟩⟩
  · simp only [List.mem_cons, List.not_mem_nil, or_false] at he
    rcases he with rfl | rfl
    · refine ⟨14, rfl, fun q => ?_⟩
      refine h_ast (ls' := [some (zR (some k0)), some (zJ x), none, some (zI y), some (zR (some po)), some (zR (some q))]) rfl (Nat.le_of_ble_eq_true rfl) rfl ?_
      refine h_ico (x := nI 1) rfl rfl ?_
      exact h_ret rfl ⟨_, rfl⟩ ⟨h1, _, hz, Or.inr (Or.inr ⟨0, rfl, rfl, rfl⟩)⟩
    · refine ⟨18, rfl, fun q => ?_⟩
      refine h_ast (ls' := [some (zR (some k0)), some (zJ x), none, some (zI y), some (zR (some po)), some (zR (some q))]) rfl (Nat.le_of_ble_eq_true rfl) rfl ?_
      refine h_ico (x := nI 2) rfl rfl ?_
      exact h_ret rfl ⟨_, rfl⟩ ⟨h1, _, hz, Or.inr (Or.inr ⟨1, rfl, rfl, rfl⟩)⟩
theorem hp_publish (x : Int32) (hk : h k0 = some (zO 9 fs)) (hp : h po = some (zaJ 1 fo)) (hP : ∀ h1 res, P h1 res → h1 po = h po ∧ rsF false [0, 1, 2, 3] res) (hc : zCall d 75 [zR (some k0), zI x] h mc ms P) : hCall d 153 [zR (some k0), zI x, zR (some po)] h mc ms (hpQ P po Int32.toInt64 cdP) := by
  refine hCall.of (T := tb_153) (L := [some (zR (some k0)), some (zI x), some (zR (some po)), none]) (Nat.le_of_ble_eq_true rfl) rfl rfl ?_
  refine h_ald rfl rfl ?_
  refine h_ico (x := nI 0) rfl rfl ?_
  refine h_ald rfl rfl ?_
  refine h_ild rfl rfl ?_
  refine h_call (as := [zR (some k0), zI x]) (r := [zI (nI 0), zR (some po)]) (mc' := mc) (ms' := ms) rfl rfl rfl (Nat.le_of_ble_eq_true rfl) (by omega) (by omega) (rc0 rfl hk) hc ?_
  intro h1 res hz
  obtain ⟨e1, e2⟩ := hP h1 res hz
  have hpo := e1.trans hp
  rcases e2 with ⟨e, _⟩ | ⟨_, u, rfl⟩ | ⟨e, rfl, he⟩
  · cases e
  · show hEv d (hfd (hH 153)) tb_153 mc ms (hpQ P po Int32.toInt64 cdP) 7 [some (zR (some k0)), some (zI x), some (zR (some po)), none] [zI u, zI (nI 0), zR (some po)] h1 (0 + mc) (0 + ms)
    refine h_i2l (v := u.toInt64) rfl rfl ?_
    refine h_last rfl hpo (by decide) (by decide) ?_
    intro h' q1 q2
    refine h_go rfl ?_
    refine h_ico (x := nI 0) rfl rfl ?_
    exact h_ret rfl ⟨_, rfl⟩ ⟨h1, _, hz, Or.inl ⟨u, _, rfl, rfl, q1, if_pos rfl, q2⟩⟩
  · simp only [List.mem_cons, List.not_mem_nil, or_false] at he
    rcases he with rfl | rfl | rfl | rfl
    · refine ⟨15, rfl, fun q => ?_⟩
      refine h_ast (ls' := [some (zR (some k0)), some (zI x), some (zR (some po)), some (zR (some q))]) rfl (Nat.le_of_ble_eq_true rfl) rfl ?_
      refine h_ico (x := nI 2) rfl rfl ?_
      exact h_ret rfl ⟨_, rfl⟩ ⟨h1, _, hz, Or.inr (Or.inr ⟨0, rfl, rfl, rfl⟩)⟩
    · refine ⟨18, rfl, fun q => ?_⟩
      refine h_ast (ls' := [some (zR (some k0)), some (zI x), some (zR (some po)), some (zR (some q))]) rfl (Nat.le_of_ble_eq_true rfl) rfl ?_
      refine h_ico (x := nI 3) rfl rfl ?_
      exact h_ret rfl ⟨_, rfl⟩ ⟨h1, _, hz, Or.inr (Or.inr ⟨1, rfl, rfl, rfl⟩)⟩
    · refine ⟨12, rfl, fun q => ?_⟩
      refine h_ast (ls' := [some (zR (some k0)), some (zI x), some (zR (some po)), some (zR (some q))]) rfl (Nat.le_of_ble_eq_true rfl) rfl ?_
      refine h_ico (x := nI 1) rfl rfl ?_
      exact h_ret rfl ⟨_, rfl⟩ ⟨h1, _, hz, Or.inr (Or.inr ⟨2, rfl, rfl, rfl⟩)⟩
    · refine ⟨21, rfl, fun q => ?_⟩
      refine h_ast (ls' := [some (zR (some k0)), some (zI x), some (zR (some po)), some (zR (some q))]) rfl (Nat.le_of_ble_eq_true rfl) rfl ?_
      refine h_ico (x := nI 4) rfl rfl ?_
      exact h_ret rfl ⟨_, rfl⟩ ⟨h1, _, hz, Or.inr (Or.inr ⟨3, rfl, rfl, rfl⟩)⟩
theorem hp_yank (x : Int32) (y : Int32) (hk : h k0 = some (zO 9 fs)) (hp : h po = some (zaJ 1 fo)) (hP : ∀ h1 res, P h1 res → h1 po = h po ∧ rsF false [2] res) (hc : zCall d 76 [zR (some k0), zI x, zI y] h mc ms P) : hCall d 154 [zR (some k0), zI x, zI y, zR (some po)] h mc ms (hpQ P po b2L cd1) := by
  refine hCall.of (T := tb_154) (L := [some (zR (some k0)), some (zI x), some (zI y), some (zR (some po)), none]) (Nat.le_of_ble_eq_true rfl) rfl rfl ?_
  refine h_ald rfl rfl ?_
  refine h_ico (x := nI 0) rfl rfl ?_
  refine h_ald rfl rfl ?_
  refine h_ild rfl rfl ?_
  refine h_ild rfl rfl ?_
  refine h_call (as := [zR (some k0), zI x, zI y]) (r := [zI (nI 0), zR (some po)]) (mc' := mc) (ms' := ms) rfl rfl rfl (Nat.le_of_ble_eq_true rfl) (by omega) (by omega) (rc0 rfl hk) hc ?_
  intro h1 res hz
  obtain ⟨e1, e2⟩ := hP h1 res hz
  have hpo := e1.trans hp
  rcases e2 with ⟨e, _⟩ | ⟨_, u, rfl⟩ | ⟨e, rfl, he⟩
  · cases e
  · show hEv d (hfd (hH 154)) tb_154 mc ms (hpQ P po b2L cd1) 8 [some (zR (some k0)), some (zI x), some (zI y), some (zR (some po)), none] [zI u, zI (nI 0), zR (some po)] h1 (0 + mc) (0 + ms)
    refine h_if rfl (fun c0 => ?_) (fun c0 => ?_)
    · refine h_lco (x := 0) rfl rfl ?_
      refine h_last rfl hpo (by decide) (by decide) ?_
      intro h' q1 q2
      refine h_go rfl ?_
      refine h_ico (x := nI 0) rfl rfl ?_
      exact h_ret rfl ⟨_, rfl⟩ ⟨h1, _, hz, Or.inl ⟨u, _, rfl, rfl, q1, (if_pos rfl).trans (if_pos (show u = 0 from c0)).symm, q2⟩⟩
    · refine h_lco (x := 1) rfl rfl ?_
      refine h_go rfl ?_
      refine h_last rfl hpo (by decide) (by decide) ?_
      intro h' q1 q2
      refine h_go rfl ?_
      refine h_ico (x := nI 0) rfl rfl ?_
      exact h_ret rfl ⟨_, rfl⟩ ⟨h1, _, hz, Or.inl ⟨u, _, rfl, rfl, q1, (if_pos rfl).trans (if_neg (show ¬ u = 0 from c0)).symm, q2⟩⟩
  · simp only [List.mem_cons, List.not_mem_nil, or_false] at he
    subst he
    refine ⟨20, rfl, fun q => ?_⟩
    refine h_ast (ls' := [some (zR (some k0)), some (zI x), some (zI y), some (zR (some po)), some (zR (some q))]) rfl (Nat.le_of_ble_eq_true rfl) rfl ?_
    refine h_ico (x := nI 1) rfl rfl ?_
    exact h_ret rfl ⟨_, rfl⟩ ⟨h1, _, hz, Or.inr (Or.inr ⟨2, rfl, rfl, rfl⟩)⟩
theorem hp_want (x : Int32) (hk : h k0 = some (zO 9 fs)) (hp : h po = some (zaJ 1 fo)) (hP : ∀ h1 res, P h1 res → h1 po = h po ∧ rsF true [0, 2] res) (hc : zCall d 77 [zR (some k0), zI x] h mc ms P) : hCall d 155 [zR (some k0), zI x] h mc ms (hpQ P po Int32.toInt64 cdW) := by
  refine hCall.of (T := tb_155) (L := [some (zR (some k0)), some (zI x), none]) (Nat.le_of_ble_eq_true rfl) rfl rfl ?_
  refine h_ald rfl rfl ?_
  refine h_ild rfl rfl ?_
  refine h_call (as := [zR (some k0), zI x]) (r := []) (mc' := mc) (ms' := ms) rfl rfl rfl (Nat.le_of_ble_eq_true rfl) (by omega) (by omega) (rc0 rfl hk) hc ?_
  intro h1 res hz
  obtain ⟨e1, e2⟩ := hP h1 res hz
  have hpo := e1.trans hp
  rcases e2 with ⟨_, rfl⟩ | ⟨_, u, rfl⟩ | ⟨e, rfl, he⟩
  · show hEv d (hfd (hH 155)) tb_155 mc ms (hpQ P po Int32.toInt64 cdW) 5 [some (zR (some k0)), some (zI x), none] [] h1 (0 + mc) (0 + ms)
    refine h_go rfl ?_
    refine h_ico (x := nI 0) rfl rfl ?_
    exact h_ret rfl ⟨_, rfl⟩ ⟨h1, _, hz, Or.inr (Or.inl ⟨rfl, rfl, rfl⟩)⟩
  · exact absurd ‹true = false› (by decide)
  · simp only [List.mem_cons, List.not_mem_nil, or_false] at he
    rcases he with rfl | rfl
    · refine ⟨11, rfl, fun q => ?_⟩
      refine h_ast (ls' := [some (zR (some k0)), some (zI x), some (zR (some q))]) rfl (Nat.le_of_ble_eq_true rfl) rfl ?_
      refine h_ico (x := nI 2) rfl rfl ?_
      exact h_ret rfl ⟨_, rfl⟩ ⟨h1, _, hz, Or.inr (Or.inr ⟨0, rfl, rfl, rfl⟩)⟩
    · refine ⟨8, rfl, fun q => ?_⟩
      refine h_ast (ls' := [some (zR (some k0)), some (zI x), some (zR (some q))]) rfl (Nat.le_of_ble_eq_true rfl) rfl ?_
      refine h_ico (x := nI 1) rfl rfl ?_
      exact h_ret rfl ⟨_, rfl⟩ ⟨h1, _, hz, Or.inr (Or.inr ⟨2, rfl, rfl, rfl⟩)⟩
theorem hp_drop (x : Int32) (hk : h k0 = some (zO 9 fs)) (hp : h po = some (zaJ 1 fo)) (hP : ∀ h1 res, P h1 res → h1 po = h po ∧ rsF false [2] res) (hc : zCall d 78 [zR (some k0), zI x] h mc ms P) : hCall d 156 [zR (some k0), zI x, zR (some po)] h mc ms (hpQ P po b2L cd1) := by
  refine hCall.of (T := tb_156) (L := [some (zR (some k0)), some (zI x), some (zR (some po)), none]) (Nat.le_of_ble_eq_true rfl) rfl rfl ?_
  refine h_ald rfl rfl ?_
  refine h_ico (x := nI 0) rfl rfl ?_
  refine h_ald rfl rfl ?_
  refine h_ild rfl rfl ?_
  refine h_call (as := [zR (some k0), zI x]) (r := [zI (nI 0), zR (some po)]) (mc' := mc) (ms' := ms) rfl rfl rfl (Nat.le_of_ble_eq_true rfl) (by omega) (by omega) (rc0 rfl hk) hc ?_
  intro h1 res hz
  obtain ⟨e1, e2⟩ := hP h1 res hz
  have hpo := e1.trans hp
  rcases e2 with ⟨e, _⟩ | ⟨_, u, rfl⟩ | ⟨e, rfl, he⟩
  · cases e
  · show hEv d (hfd (hH 156)) tb_156 mc ms (hpQ P po b2L cd1) 7 [some (zR (some k0)), some (zI x), some (zR (some po)), none] [zI u, zI (nI 0), zR (some po)] h1 (0 + mc) (0 + ms)
    refine h_if rfl (fun c0 => ?_) (fun c0 => ?_)
    · refine h_lco (x := 0) rfl rfl ?_
      refine h_last rfl hpo (by decide) (by decide) ?_
      intro h' q1 q2
      refine h_go rfl ?_
      refine h_ico (x := nI 0) rfl rfl ?_
      exact h_ret rfl ⟨_, rfl⟩ ⟨h1, _, hz, Or.inl ⟨u, _, rfl, rfl, q1, (if_pos rfl).trans (if_pos (show u = 0 from c0)).symm, q2⟩⟩
    · refine h_lco (x := 1) rfl rfl ?_
      refine h_go rfl ?_
      refine h_last rfl hpo (by decide) (by decide) ?_
      intro h' q1 q2
      refine h_go rfl ?_
      refine h_ico (x := nI 0) rfl rfl ?_
      exact h_ret rfl ⟨_, rfl⟩ ⟨h1, _, hz, Or.inl ⟨u, _, rfl, rfl, q1, (if_pos rfl).trans (if_neg (show ¬ u = 0 from c0)).symm, q2⟩⟩
  · simp only [List.mem_cons, List.not_mem_nil, or_false] at he
    subst he
    refine ⟨19, rfl, fun q => ?_⟩
    refine h_ast (ls' := [some (zR (some k0)), some (zI x), some (zR (some po)), some (zR (some q))]) rfl (Nat.le_of_ble_eq_true rfl) rfl ?_
    refine h_ico (x := nI 1) rfl rfl ?_
    exact h_ret rfl ⟨_, rfl⟩ ⟨h1, _, hz, Or.inr (Or.inr ⟨2, rfl, rfl, rfl⟩)⟩
theorem hp_solve  (hk : h k0 = some (zO 9 fs)) (hp : h po = some (zaJ 1 fo)) (hP : ∀ h1 res, P h1 res → h1 po = h po ∧ rsF false [1] res) (hc : zCall d 79 [zR (some k0)] h mc ms P) : hCall d 157 [zR (some k0), zR (some po)] h mc ms (hpQ P po Int32.toInt64 cd1) := by
  refine hCall.of (T := tb_157) (L := [some (zR (some k0)), some (zR (some po)), none]) (Nat.le_of_ble_eq_true rfl) rfl rfl ?_
  refine h_ald rfl rfl ?_
  refine h_ico (x := nI 0) rfl rfl ?_
  refine h_ald rfl rfl ?_
  refine h_call (as := [zR (some k0)]) (r := [zI (nI 0), zR (some po)]) (mc' := mc) (ms' := ms) rfl rfl rfl (Nat.le_of_ble_eq_true rfl) (by omega) (by omega) (rc0 rfl hk) hc ?_
  intro h1 res hz
  obtain ⟨e1, e2⟩ := hP h1 res hz
  have hpo := e1.trans hp
  rcases e2 with ⟨e, _⟩ | ⟨_, u, rfl⟩ | ⟨e, rfl, he⟩
  · cases e
  · show hEv d (hfd (hH 157)) tb_157 mc ms (hpQ P po Int32.toInt64 cd1) 6 [some (zR (some k0)), some (zR (some po)), none] [zI u, zI (nI 0), zR (some po)] h1 (0 + mc) (0 + ms)
    refine h_i2l (v := u.toInt64) rfl rfl ?_
    refine h_last rfl hpo (by decide) (by decide) ?_
    intro h' q1 q2
    refine h_go rfl ?_
    refine h_ico (x := nI 0) rfl rfl ?_
    exact h_ret rfl ⟨_, rfl⟩ ⟨h1, _, hz, Or.inl ⟨u, _, rfl, rfl, q1, if_pos rfl, q2⟩⟩
  · simp only [List.mem_cons, List.not_mem_nil, or_false] at he
    subst he
    refine ⟨11, rfl, fun q => ?_⟩
    refine h_ast (ls' := [some (zR (some k0)), some (zR (some po)), some (zR (some q))]) rfl (Nat.le_of_ble_eq_true rfl) rfl ?_
    refine h_ico (x := nI 1) rfl rfl ?_
    exact h_ret rfl ⟨_, rfl⟩ ⟨h1, _, hz, Or.inr (Or.inr ⟨1, rfl, rfl, rfl⟩)⟩
theorem hp_chosen (x : Int32) (hk : h k0 = some (zO 9 fs)) (hp : h po = some (zaJ 1 fo)) (hP : ∀ h1 res, P h1 res → h1 po = h po ∧ rsF false [2] res) (hc : zCall d 80 [zR (some k0), zI x] h mc ms P) : hCall d 158 [zR (some k0), zI x, zR (some po)] h mc ms (hpQ P po Int32.toInt64 cd1) := by
  refine hCall.of (T := tb_158) (L := [some (zR (some k0)), some (zI x), some (zR (some po)), none]) (Nat.le_of_ble_eq_true rfl) rfl rfl ?_
  refine h_ald rfl rfl ?_
  refine h_ico (x := nI 0) rfl rfl ?_
  refine h_ald rfl rfl ?_
  refine h_ild rfl rfl ?_
  refine h_call (as := [zR (some k0), zI x]) (r := [zI (nI 0), zR (some po)]) (mc' := mc) (ms' := ms) rfl rfl rfl (Nat.le_of_ble_eq_true rfl) (by omega) (by omega) (rc0 rfl hk) hc ?_
  intro h1 res hz
  obtain ⟨e1, e2⟩ := hP h1 res hz
  have hpo := e1.trans hp
  rcases e2 with ⟨e, _⟩ | ⟨_, u, rfl⟩ | ⟨e, rfl, he⟩
  · cases e
  · show hEv d (hfd (hH 158)) tb_158 mc ms (hpQ P po Int32.toInt64 cd1) 7 [some (zR (some k0)), some (zI x), some (zR (some po)), none] [zI u, zI (nI 0), zR (some po)] h1 (0 + mc) (0 + ms)
    refine h_i2l (v := u.toInt64) rfl rfl ?_
    refine h_last rfl hpo (by decide) (by decide) ?_
    intro h' q1 q2
    refine h_go rfl ?_
    refine h_ico (x := nI 0) rfl rfl ?_
    exact h_ret rfl ⟨_, rfl⟩ ⟨h1, _, hz, Or.inl ⟨u, _, rfl, rfl, q1, if_pos rfl, q2⟩⟩
  · simp only [List.mem_cons, List.not_mem_nil, or_false] at he
    subst he
    refine ⟨12, rfl, fun q => ?_⟩
    refine h_ast (ls' := [some (zR (some k0)), some (zI x), some (zR (some po)), some (zR (some q))]) rfl (Nat.le_of_ble_eq_true rfl) rfl ?_
    refine h_ico (x := nI 1) rfl rfl ?_
    exact h_ret rfl ⟨_, rfl⟩ ⟨h1, _, hz, Or.inr (Or.inr ⟨2, rfl, rfl, rfl⟩)⟩
theorem hp_pin (x : Int32) (hk : h k0 = some (zO 9 fs)) (hp : h po = some (zaJ 1 fo)) (hP : ∀ h1 res, P h1 res → h1 po = h po ∧ rsF false [2] res) (hc : zCall d 82 [zR (some k0), zI x] h mc ms P) : hCall d 159 [zR (some k0), zI x, zR (some po)] h mc ms (hpQ P po Int32.toInt64 cd1) := by
  refine hCall.of (T := tb_159) (L := [some (zR (some k0)), some (zI x), some (zR (some po)), none]) (Nat.le_of_ble_eq_true rfl) rfl rfl ?_
  refine h_ald rfl rfl ?_
  refine h_ico (x := nI 0) rfl rfl ?_
  refine h_ald rfl rfl ?_
  refine h_ild rfl rfl ?_
  refine h_call (as := [zR (some k0), zI x]) (r := [zI (nI 0), zR (some po)]) (mc' := mc) (ms' := ms) rfl rfl rfl (Nat.le_of_ble_eq_true rfl) (by omega) (by omega) (rc0 rfl hk) hc ?_
  intro h1 res hz
  obtain ⟨e1, e2⟩ := hP h1 res hz
  have hpo := e1.trans hp
  rcases e2 with ⟨e, _⟩ | ⟨_, u, rfl⟩ | ⟨e, rfl, he⟩
  · cases e
  · show hEv d (hfd (hH 159)) tb_159 mc ms (hpQ P po Int32.toInt64 cd1) 7 [some (zR (some k0)), some (zI x), some (zR (some po)), none] [zI u, zI (nI 0), zR (some po)] h1 (0 + mc) (0 + ms)
    refine h_i2l (v := u.toInt64) rfl rfl ?_
    refine h_last rfl hpo (by decide) (by decide) ?_
    intro h' q1 q2
    refine h_go rfl ?_
    refine h_ico (x := nI 0) rfl rfl ?_
    exact h_ret rfl ⟨_, rfl⟩ ⟨h1, _, hz, Or.inl ⟨u, _, rfl, rfl, q1, if_pos rfl, q2⟩⟩
  · simp only [List.mem_cons, List.not_mem_nil, or_false] at he
    subst he
    refine ⟨12, rfl, fun q => ?_⟩
    refine h_ast (ls' := [some (zR (some k0)), some (zI x), some (zR (some po)), some (zR (some q))]) rfl (Nat.le_of_ble_eq_true rfl) rfl ?_
    refine h_ico (x := nI 1) rfl rfl ?_
    exact h_ret rfl ⟨_, rfl⟩ ⟨h1, _, hz, Or.inr (Or.inr ⟨2, rfl, rfl, rfl⟩)⟩
theorem hp_meets (x : Int32) (hk : h k0 = some (zO 9 fs)) (hp : h po = some (zaJ 1 fo)) (hP : ∀ h1 res, P h1 res → h1 po = h po ∧ rsF false [0, 2] res) (hc : zCall d 84 [zR (some k0), zI x] h mc ms P) : hCall d 160 [zR (some k0), zI x, zR (some po)] h mc ms (hpQ P po b2L cdW) := by
  refine hCall.of (T := tb_160) (L := [some (zR (some k0)), some (zI x), some (zR (some po)), none]) (Nat.le_of_ble_eq_true rfl) rfl rfl ?_
  refine h_ald rfl rfl ?_
  refine h_ico (x := nI 0) rfl rfl ?_
  refine h_ald rfl rfl ?_
  refine h_ild rfl rfl ?_
  refine h_call (as := [zR (some k0), zI x]) (r := [zI (nI 0), zR (some po)]) (mc' := mc) (ms' := ms) rfl rfl rfl (Nat.le_of_ble_eq_true rfl) (by omega) (by omega) (rc0 rfl hk) hc ?_
  intro h1 res hz
  obtain ⟨e1, e2⟩ := hP h1 res hz
  have hpo := e1.trans hp
  rcases e2 with ⟨e, _⟩ | ⟨_, u, rfl⟩ | ⟨e, rfl, he⟩
  · cases e
  · show hEv d (hfd (hH 160)) tb_160 mc ms (hpQ P po b2L cdW) 7 [some (zR (some k0)), some (zI x), some (zR (some po)), none] [zI u, zI (nI 0), zR (some po)] h1 (0 + mc) (0 + ms)
    refine h_if rfl (fun c0 => ?_) (fun c0 => ?_)
    · refine h_lco (x := 0) rfl rfl ?_
      refine h_last rfl hpo (by decide) (by decide) ?_
      intro h' q1 q2
      refine h_go rfl ?_
      refine h_ico (x := nI 0) rfl rfl ?_
      exact h_ret rfl ⟨_, rfl⟩ ⟨h1, _, hz, Or.inl ⟨u, _, rfl, rfl, q1, (if_pos rfl).trans (if_pos (show u = 0 from c0)).symm, q2⟩⟩
    · refine h_lco (x := 1) rfl rfl ?_
      refine h_go rfl ?_
      refine h_last rfl hpo (by decide) (by decide) ?_
      intro h' q1 q2
      refine h_go rfl ?_
      refine h_ico (x := nI 0) rfl rfl ?_
      exact h_ret rfl ⟨_, rfl⟩ ⟨h1, _, hz, Or.inl ⟨u, _, rfl, rfl, q1, (if_pos rfl).trans (if_neg (show ¬ u = 0 from c0)).symm, q2⟩⟩
  · simp only [List.mem_cons, List.not_mem_nil, or_false] at he
    rcases he with rfl | rfl
    · refine ⟨22, rfl, fun q => ?_⟩
      refine h_ast (ls' := [some (zR (some k0)), some (zI x), some (zR (some po)), some (zR (some q))]) rfl (Nat.le_of_ble_eq_true rfl) rfl ?_
      refine h_ico (x := nI 2) rfl rfl ?_
      exact h_ret rfl ⟨_, rfl⟩ ⟨h1, _, hz, Or.inr (Or.inr ⟨0, rfl, rfl, rfl⟩)⟩
    · refine ⟨19, rfl, fun q => ?_⟩
      refine h_ast (ls' := [some (zR (some k0)), some (zI x), some (zR (some po)), some (zR (some q))]) rfl (Nat.le_of_ble_eq_true rfl) rfl ?_
      refine h_ico (x := nI 1) rfl rfl ?_
      exact h_ret rfl ⟨_, rfl⟩ ⟨h1, _, hz, Or.inr (Or.inr ⟨2, rfl, rfl, rfl⟩)⟩
theorem hp_best (x : Int32) (hk : h k0 = some (zO 9 fs)) (hp : h po = some (zaJ 1 fo)) (hP : ∀ h1 res, P h1 res → h1 po = h po ∧ rsF false [0, 2] res) (hc : zCall d 85 [zR (some k0), zI x] h mc ms P) : hCall d 161 [zR (some k0), zI x, zR (some po)] h mc ms (hpQ P po Int32.toInt64 cdW) := by
  refine hCall.of (T := tb_161) (L := [some (zR (some k0)), some (zI x), some (zR (some po)), none]) (Nat.le_of_ble_eq_true rfl) rfl rfl ?_
  refine h_ald rfl rfl ?_
  refine h_ico (x := nI 0) rfl rfl ?_
  refine h_ald rfl rfl ?_
  refine h_ild rfl rfl ?_
  refine h_call (as := [zR (some k0), zI x]) (r := [zI (nI 0), zR (some po)]) (mc' := mc) (ms' := ms) rfl rfl rfl (Nat.le_of_ble_eq_true rfl) (by omega) (by omega) (rc0 rfl hk) hc ?_
  intro h1 res hz
  obtain ⟨e1, e2⟩ := hP h1 res hz
  have hpo := e1.trans hp
  rcases e2 with ⟨e, _⟩ | ⟨_, u, rfl⟩ | ⟨e, rfl, he⟩
  · cases e
  · show hEv d (hfd (hH 161)) tb_161 mc ms (hpQ P po Int32.toInt64 cdW) 7 [some (zR (some k0)), some (zI x), some (zR (some po)), none] [zI u, zI (nI 0), zR (some po)] h1 (0 + mc) (0 + ms)
    refine h_i2l (v := u.toInt64) rfl rfl ?_
    refine h_last rfl hpo (by decide) (by decide) ?_
    intro h' q1 q2
    refine h_go rfl ?_
    refine h_ico (x := nI 0) rfl rfl ?_
    exact h_ret rfl ⟨_, rfl⟩ ⟨h1, _, hz, Or.inl ⟨u, _, rfl, rfl, q1, if_pos rfl, q2⟩⟩
  · simp only [List.mem_cons, List.not_mem_nil, or_false] at he
    rcases he with rfl | rfl
    · refine ⟨15, rfl, fun q => ?_⟩
      refine h_ast (ls' := [some (zR (some k0)), some (zI x), some (zR (some po)), some (zR (some q))]) rfl (Nat.le_of_ble_eq_true rfl) rfl ?_
      refine h_ico (x := nI 2) rfl rfl ?_
      exact h_ret rfl ⟨_, rfl⟩ ⟨h1, _, hz, Or.inr (Or.inr ⟨0, rfl, rfl, rfl⟩)⟩
    · refine ⟨12, rfl, fun q => ?_⟩
      refine h_ast (ls' := [some (zR (some k0)), some (zI x), some (zR (some po)), some (zR (some q))]) rfl (Nat.le_of_ble_eq_true rfl) rfl ?_
      refine h_ico (x := nI 1) rfl rfl ?_
      exact h_ret rfl ⟨_, rfl⟩ ⟨h1, _, hz, Or.inr (Or.inr ⟨2, rfl, rfl, rfl⟩)⟩
theorem hp_compare (x : Int32) (y : Int32) (hk : h k0 = some (zO 9 fs)) (hp : h po = some (zaJ 1 fo)) (hP : ∀ h1 res, P h1 res → h1 po = h po ∧ rsF false [2] res) (hc : zCall d 86 [zR (some k0), zI x, zI y] h mc ms P) : hCall d 162 [zR (some k0), zI x, zI y, zR (some po)] h mc ms (hpQ P po Int32.toInt64 cd1) := by
  refine hCall.of (T := tb_162) (L := [some (zR (some k0)), some (zI x), some (zI y), some (zR (some po)), none]) (Nat.le_of_ble_eq_true rfl) rfl rfl ?_
  refine h_ald rfl rfl ?_
  refine h_ico (x := nI 0) rfl rfl ?_
  refine h_ald rfl rfl ?_
  refine h_ild rfl rfl ?_
  refine h_ild rfl rfl ?_
  refine h_call (as := [zR (some k0), zI x, zI y]) (r := [zI (nI 0), zR (some po)]) (mc' := mc) (ms' := ms) rfl rfl rfl (Nat.le_of_ble_eq_true rfl) (by omega) (by omega) (rc0 rfl hk) hc ?_
  intro h1 res hz
  obtain ⟨e1, e2⟩ := hP h1 res hz
  have hpo := e1.trans hp
  rcases e2 with ⟨e, _⟩ | ⟨_, u, rfl⟩ | ⟨e, rfl, he⟩
  · cases e
  · show hEv d (hfd (hH 162)) tb_162 mc ms (hpQ P po Int32.toInt64 cd1) 8 [some (zR (some k0)), some (zI x), some (zI y), some (zR (some po)), none] [zI u, zI (nI 0), zR (some po)] h1 (0 + mc) (0 + ms)
    refine h_i2l (v := u.toInt64) rfl rfl ?_
    refine h_last rfl hpo (by decide) (by decide) ?_
    intro h' q1 q2
    refine h_go rfl ?_
    refine h_ico (x := nI 0) rfl rfl ?_
    exact h_ret rfl ⟨_, rfl⟩ ⟨h1, _, hz, Or.inl ⟨u, _, rfl, rfl, q1, if_pos rfl, q2⟩⟩
  · simp only [List.mem_cons, List.not_mem_nil, or_false] at he
    subst he
    refine ⟨13, rfl, fun q => ?_⟩
    refine h_ast (ls' := [some (zR (some k0)), some (zI x), some (zI y), some (zR (some po)), some (zR (some q))]) rfl (Nat.le_of_ble_eq_true rfl) rfl ?_
    refine h_ico (x := nI 1) rfl rfl ?_
    exact h_ret rfl ⟨_, rfl⟩ ⟨h1, _, hz, Or.inr (Or.inr ⟨2, rfl, rfl, rfl⟩)⟩
theorem hp_needs (x : Int32) (y : Int32) (hk : h k0 = some (zO 9 fs)) (hp : h po = some (zaJ 1 fo)) (hP : ∀ h1 res, P h1 res → h1 po = h po ∧ rsF false [2] res) (hc : zCall d 87 [zR (some k0), zI x, zI y] h mc ms P) : hCall d 163 [zR (some k0), zI x, zI y, zR (some po)] h mc ms (hpQ P po Int32.toInt64 cd1) := by
  refine hCall.of (T := tb_163) (L := [some (zR (some k0)), some (zI x), some (zI y), some (zR (some po)), none]) (Nat.le_of_ble_eq_true rfl) rfl rfl ?_
  refine h_ald rfl rfl ?_
  refine h_ico (x := nI 0) rfl rfl ?_
  refine h_ald rfl rfl ?_
  refine h_ild rfl rfl ?_
  refine h_ild rfl rfl ?_
  refine h_call (as := [zR (some k0), zI x, zI y]) (r := [zI (nI 0), zR (some po)]) (mc' := mc) (ms' := ms) rfl rfl rfl (Nat.le_of_ble_eq_true rfl) (by omega) (by omega) (rc0 rfl hk) hc ?_
  intro h1 res hz
  obtain ⟨e1, e2⟩ := hP h1 res hz
  have hpo := e1.trans hp
  rcases e2 with ⟨e, _⟩ | ⟨_, u, rfl⟩ | ⟨e, rfl, he⟩
  · cases e
  · show hEv d (hfd (hH 163)) tb_163 mc ms (hpQ P po Int32.toInt64 cd1) 8 [some (zR (some k0)), some (zI x), some (zI y), some (zR (some po)), none] [zI u, zI (nI 0), zR (some po)] h1 (0 + mc) (0 + ms)
    refine h_i2l (v := u.toInt64) rfl rfl ?_
    refine h_last rfl hpo (by decide) (by decide) ?_
    intro h' q1 q2
    refine h_go rfl ?_
    refine h_ico (x := nI 0) rfl rfl ?_
    exact h_ret rfl ⟨_, rfl⟩ ⟨h1, _, hz, Or.inl ⟨u, _, rfl, rfl, q1, if_pos rfl, q2⟩⟩
  · simp only [List.mem_cons, List.not_mem_nil, or_false] at he
    subst he
    refine ⟨13, rfl, fun q => ?_⟩
    refine h_ast (ls' := [some (zR (some k0)), some (zI x), some (zI y), some (zR (some po)), some (zR (some q))]) rfl (Nat.le_of_ble_eq_true rfl) rfl ?_
    refine h_ico (x := nI 1) rfl rfl ?_
    exact h_ret rfl ⟨_, rfl⟩ ⟨h1, _, hz, Or.inr (Or.inr ⟨2, rfl, rfl, rfl⟩)⟩
theorem hp_fileByte (x : Int32) (hk : h k0 = some (zO 9 fs)) (hp : h po = some (zaJ 1 fo)) (hP : ∀ h1 res, P h1 res → h1 po = h po ∧ rsF false [2] res) (hc : zCall d 90 [zR (some k0), zI x] h mc ms P) : hCall d 164 [zR (some k0), zI x, zR (some po)] h mc ms (hpQ P po Int32.toInt64 cd1) := by
  refine hCall.of (T := tb_164) (L := [some (zR (some k0)), some (zI x), some (zR (some po)), none]) (Nat.le_of_ble_eq_true rfl) rfl rfl ?_
  refine h_ald rfl rfl ?_
  refine h_ico (x := nI 0) rfl rfl ?_
  refine h_ald rfl rfl ?_
  refine h_ild rfl rfl ?_
  refine h_call (as := [zR (some k0), zI x]) (r := [zI (nI 0), zR (some po)]) (mc' := mc) (ms' := ms) rfl rfl rfl (Nat.le_of_ble_eq_true rfl) (by omega) (by omega) (rc0 rfl hk) hc ?_
  intro h1 res hz
  obtain ⟨e1, e2⟩ := hP h1 res hz
  have hpo := e1.trans hp
  rcases e2 with ⟨e, _⟩ | ⟨_, u, rfl⟩ | ⟨e, rfl, he⟩
  · cases e
  · show hEv d (hfd (hH 164)) tb_164 mc ms (hpQ P po Int32.toInt64 cd1) 7 [some (zR (some k0)), some (zI x), some (zR (some po)), none] [zI u, zI (nI 0), zR (some po)] h1 (0 + mc) (0 + ms)
    refine h_i2l (v := u.toInt64) rfl rfl ?_
    refine h_last rfl hpo (by decide) (by decide) ?_
    intro h' q1 q2
    refine h_go rfl ?_
    refine h_ico (x := nI 0) rfl rfl ?_
    exact h_ret rfl ⟨_, rfl⟩ ⟨h1, _, hz, Or.inl ⟨u, _, rfl, rfl, q1, if_pos rfl, q2⟩⟩
  · simp only [List.mem_cons, List.not_mem_nil, or_false] at he
    subst he
    refine ⟨12, rfl, fun q => ?_⟩
    refine h_ast (ls' := [some (zR (some k0)), some (zI x), some (zR (some po)), some (zR (some q))]) rfl (Nat.le_of_ble_eq_true rfl) rfl ?_
    refine h_ico (x := nI 1) rfl rfl ?_
    exact h_ret rfl ⟨_, rfl⟩ ⟨h1, _, hz, Or.inr (Or.inr ⟨2, rfl, rfl, rfl⟩)⟩
end
