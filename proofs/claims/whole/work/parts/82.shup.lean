/-! one place of the sheets, and of the row -/
theorem Sh.w6 {M : Mem} {m : Nat} {s : St} (h : Sh M m s) {i : Nat} (hi : i < 100) (x : Int32) : Sh (csA M 4 m 6 (upd (cA M 4 m 6) i x)) m (upd s (125 + i) x) := by
  obtain ⟨⟨h1, h2, h3, h4, h5⟩, hg1, hg2, hg3, hg4, hg5, hg6, hg7⟩ := h
  refine ⟨⟨h1.trans (upd_ne (by omega)).symm, h2.trans (upd_ne (by omega)).symm, h3.trans (upd_ne (by omega)).symm, h4.trans (upd_ne (by omega)).symm, h5.trans (upd_ne (by omega)).symm⟩, ?_, ?_, ?_, ?_, ?_, ?_, ?_⟩
  all_goals intro q hq
  · rw [cA_same]
    by_cases e : q = i
    · subst e; rw [upd_same, upd_same]
    · rw [upd_ne e, upd_ne (by omega), hg1 q hq]
  · rw [cA_ne _ _ (by omega), upd_ne (by omega), hg2 q hq]
  · rw [cA_ne _ _ (by omega), upd_ne (by omega), hg3 q hq]
  · rw [cA_ne _ _ (by omega), upd_ne (by omega), hg4 q hq]
  · rw [cA_ne _ _ (by omega), upd_ne (by omega), hg5 q hq]
  · rw [cA_ne _ _ (by omega), upd_ne (by omega), hg6 q hq]
  · rw [cA_ne _ _ (by omega), upd_ne (by omega), hg7 q hq]
theorem Sh.w7 {M : Mem} {m : Nat} {s : St} (h : Sh M m s) {i : Nat} (hi : i < 6) (x : Int32) : Sh (csA M 4 m 7 (upd (cA M 4 m 7) i x)) m (upd s (81 + i) x) := by
  obtain ⟨⟨h1, h2, h3, h4, h5⟩, hg1, hg2, hg3, hg4, hg5, hg6, hg7⟩ := h
  refine ⟨⟨h1.trans (upd_ne (by omega)).symm, h2.trans (upd_ne (by omega)).symm, h3.trans (upd_ne (by omega)).symm, h4.trans (upd_ne (by omega)).symm, h5.trans (upd_ne (by omega)).symm⟩, ?_, ?_, ?_, ?_, ?_, ?_, ?_⟩
  all_goals intro q hq
  · rw [cA_ne _ _ (by omega), upd_ne (by omega), hg1 q hq]
  · rw [cA_same]
    by_cases e : q = i
    · subst e; rw [upd_same, upd_same]
    · rw [upd_ne e, upd_ne (by omega), hg2 q hq]
  · rw [cA_ne _ _ (by omega), upd_ne (by omega), hg3 q hq]
  · rw [cA_ne _ _ (by omega), upd_ne (by omega), hg4 q hq]
  · rw [cA_ne _ _ (by omega), upd_ne (by omega), hg5 q hq]
  · rw [cA_ne _ _ (by omega), upd_ne (by omega), hg6 q hq]
  · rw [cA_ne _ _ (by omega), upd_ne (by omega), hg7 q hq]
theorem Sh.w8 {M : Mem} {m : Nat} {s : St} (h : Sh M m s) {i : Nat} (hi : i < 6) (x : Int32) : Sh (csA M 4 m 8 (upd (cA M 4 m 8) i x)) m (upd s (87 + i) x) := by
  obtain ⟨⟨h1, h2, h3, h4, h5⟩, hg1, hg2, hg3, hg4, hg5, hg6, hg7⟩ := h
  refine ⟨⟨h1.trans (upd_ne (by omega)).symm, h2.trans (upd_ne (by omega)).symm, h3.trans (upd_ne (by omega)).symm, h4.trans (upd_ne (by omega)).symm, h5.trans (upd_ne (by omega)).symm⟩, ?_, ?_, ?_, ?_, ?_, ?_, ?_⟩
  all_goals intro q hq
  · rw [cA_ne _ _ (by omega), upd_ne (by omega), hg1 q hq]
  · rw [cA_ne _ _ (by omega), upd_ne (by omega), hg2 q hq]
  · rw [cA_same]
    by_cases e : q = i
    · subst e; rw [upd_same, upd_same]
    · rw [upd_ne e, upd_ne (by omega), hg3 q hq]
  · rw [cA_ne _ _ (by omega), upd_ne (by omega), hg4 q hq]
  · rw [cA_ne _ _ (by omega), upd_ne (by omega), hg5 q hq]
  · rw [cA_ne _ _ (by omega), upd_ne (by omega), hg6 q hq]
  · rw [cA_ne _ _ (by omega), upd_ne (by omega), hg7 q hq]
theorem Sh.w9 {M : Mem} {m : Nat} {s : St} (h : Sh M m s) {i : Nat} (hi : i < 8) (x : Int32) : Sh (csA M 4 m 9 (upd (cA M 4 m 9) i x)) m (upd s (93 + i) x) := by
  obtain ⟨⟨h1, h2, h3, h4, h5⟩, hg1, hg2, hg3, hg4, hg5, hg6, hg7⟩ := h
  refine ⟨⟨h1.trans (upd_ne (by omega)).symm, h2.trans (upd_ne (by omega)).symm, h3.trans (upd_ne (by omega)).symm, h4.trans (upd_ne (by omega)).symm, h5.trans (upd_ne (by omega)).symm⟩, ?_, ?_, ?_, ?_, ?_, ?_, ?_⟩
  all_goals intro q hq
  · rw [cA_ne _ _ (by omega), upd_ne (by omega), hg1 q hq]
  · rw [cA_ne _ _ (by omega), upd_ne (by omega), hg2 q hq]
  · rw [cA_ne _ _ (by omega), upd_ne (by omega), hg3 q hq]
  · rw [cA_same]
    by_cases e : q = i
    · subst e; rw [upd_same, upd_same]
    · rw [upd_ne e, upd_ne (by omega), hg4 q hq]
  · rw [cA_ne _ _ (by omega), upd_ne (by omega), hg5 q hq]
  · rw [cA_ne _ _ (by omega), upd_ne (by omega), hg6 q hq]
  · rw [cA_ne _ _ (by omega), upd_ne (by omega), hg7 q hq]
theorem Sh.w10 {M : Mem} {m : Nat} {s : St} (h : Sh M m s) {i : Nat} (hi : i < 8) (x : Int32) : Sh (csA M 4 m 10 (upd (cA M 4 m 10) i x)) m (upd s (101 + i) x) := by
  obtain ⟨⟨h1, h2, h3, h4, h5⟩, hg1, hg2, hg3, hg4, hg5, hg6, hg7⟩ := h
  refine ⟨⟨h1.trans (upd_ne (by omega)).symm, h2.trans (upd_ne (by omega)).symm, h3.trans (upd_ne (by omega)).symm, h4.trans (upd_ne (by omega)).symm, h5.trans (upd_ne (by omega)).symm⟩, ?_, ?_, ?_, ?_, ?_, ?_, ?_⟩
  all_goals intro q hq
  · rw [cA_ne _ _ (by omega), upd_ne (by omega), hg1 q hq]
  · rw [cA_ne _ _ (by omega), upd_ne (by omega), hg2 q hq]
  · rw [cA_ne _ _ (by omega), upd_ne (by omega), hg3 q hq]
  · rw [cA_ne _ _ (by omega), upd_ne (by omega), hg4 q hq]
  · rw [cA_same]
    by_cases e : q = i
    · subst e; rw [upd_same, upd_same]
    · rw [upd_ne e, upd_ne (by omega), hg5 q hq]
  · rw [cA_ne _ _ (by omega), upd_ne (by omega), hg6 q hq]
  · rw [cA_ne _ _ (by omega), upd_ne (by omega), hg7 q hq]
theorem Sh.w11 {M : Mem} {m : Nat} {s : St} (h : Sh M m s) {i : Nat} (hi : i < 8) (x : Int32) : Sh (csA M 4 m 11 (upd (cA M 4 m 11) i x)) m (upd s (109 + i) x) := by
  obtain ⟨⟨h1, h2, h3, h4, h5⟩, hg1, hg2, hg3, hg4, hg5, hg6, hg7⟩ := h
  refine ⟨⟨h1.trans (upd_ne (by omega)).symm, h2.trans (upd_ne (by omega)).symm, h3.trans (upd_ne (by omega)).symm, h4.trans (upd_ne (by omega)).symm, h5.trans (upd_ne (by omega)).symm⟩, ?_, ?_, ?_, ?_, ?_, ?_, ?_⟩
  all_goals intro q hq
  · rw [cA_ne _ _ (by omega), upd_ne (by omega), hg1 q hq]
  · rw [cA_ne _ _ (by omega), upd_ne (by omega), hg2 q hq]
  · rw [cA_ne _ _ (by omega), upd_ne (by omega), hg3 q hq]
  · rw [cA_ne _ _ (by omega), upd_ne (by omega), hg4 q hq]
  · rw [cA_ne _ _ (by omega), upd_ne (by omega), hg5 q hq]
  · rw [cA_same]
    by_cases e : q = i
    · subst e; rw [upd_same, upd_same]
    · rw [upd_ne e, upd_ne (by omega), hg6 q hq]
  · rw [cA_ne _ _ (by omega), upd_ne (by omega), hg7 q hq]
theorem Sh.w12 {M : Mem} {m : Nat} {s : St} (h : Sh M m s) {i : Nat} (hi : i < 8) (x : Int32) : Sh (csA M 4 m 12 (upd (cA M 4 m 12) i x)) m (upd s (117 + i) x) := by
  obtain ⟨⟨h1, h2, h3, h4, h5⟩, hg1, hg2, hg3, hg4, hg5, hg6, hg7⟩ := h
  refine ⟨⟨h1.trans (upd_ne (by omega)).symm, h2.trans (upd_ne (by omega)).symm, h3.trans (upd_ne (by omega)).symm, h4.trans (upd_ne (by omega)).symm, h5.trans (upd_ne (by omega)).symm⟩, ?_, ?_, ?_, ?_, ?_, ?_, ?_⟩
  all_goals intro q hq
  · rw [cA_ne _ _ (by omega), upd_ne (by omega), hg1 q hq]
  · rw [cA_ne _ _ (by omega), upd_ne (by omega), hg2 q hq]
  · rw [cA_ne _ _ (by omega), upd_ne (by omega), hg3 q hq]
  · rw [cA_ne _ _ (by omega), upd_ne (by omega), hg4 q hq]
  · rw [cA_ne _ _ (by omega), upd_ne (by omega), hg5 q hq]
  · rw [cA_ne _ _ (by omega), upd_ne (by omega), hg6 q hq]
  · rw [cA_same]
    by_cases e : q = i
    · subst e; rw [upd_same, upd_same]
    · rw [upd_ne e, upd_ne (by omega), hg7 q hq]
theorem Sh.v0 {M : Mem} {m : Nat} {s : St} (h : Sh M m s) (x : Int32) : Sh (csI M 4 m 0 x) m (upd s 25 x) := by
  obtain ⟨⟨h1, h2, h3, h4, h5⟩, hg1, hg2, hg3, hg4, hg5, hg6, hg7⟩ := h
  refine ⟨⟨?_, ?_, ?_, ?_, ?_⟩, fun q hq => (hg1 q hq).trans (upd_ne (by omega)).symm, fun q hq => (hg2 q hq).trans (upd_ne (by omega)).symm, fun q hq => (hg3 q hq).trans (upd_ne (by omega)).symm, fun q hq => (hg4 q hq).trans (upd_ne (by omega)).symm, fun q hq => (hg5 q hq).trans (upd_ne (by omega)).symm, fun q hq => (hg6 q hq).trans (upd_ne (by omega)).symm, fun q hq => (hg7 q hq).trans (upd_ne (by omega)).symm⟩
  · rw [cI_same, upd_same]
  · rw [cI_ne _ _ (by omega), upd_ne (by omega), h2]
  · rw [cI_ne _ _ (by omega), upd_ne (by omega), h3]
  · rw [cI_ne _ _ (by omega), upd_ne (by omega), h4]
  · rw [cI_ne _ _ (by omega), upd_ne (by omega), h5]
theorem Sh.v1 {M : Mem} {m : Nat} {s : St} (h : Sh M m s) (x : Int32) : Sh (csI M 4 m 1 x) m (upd s 21 x) := by
  obtain ⟨⟨h1, h2, h3, h4, h5⟩, hg1, hg2, hg3, hg4, hg5, hg6, hg7⟩ := h
  refine ⟨⟨?_, ?_, ?_, ?_, ?_⟩, fun q hq => (hg1 q hq).trans (upd_ne (by omega)).symm, fun q hq => (hg2 q hq).trans (upd_ne (by omega)).symm, fun q hq => (hg3 q hq).trans (upd_ne (by omega)).symm, fun q hq => (hg4 q hq).trans (upd_ne (by omega)).symm, fun q hq => (hg5 q hq).trans (upd_ne (by omega)).symm, fun q hq => (hg6 q hq).trans (upd_ne (by omega)).symm, fun q hq => (hg7 q hq).trans (upd_ne (by omega)).symm⟩
  · rw [cI_ne _ _ (by omega), upd_ne (by omega), h1]
  · rw [cI_same, upd_same]
  · rw [cI_ne _ _ (by omega), upd_ne (by omega), h3]
  · rw [cI_ne _ _ (by omega), upd_ne (by omega), h4]
  · rw [cI_ne _ _ (by omega), upd_ne (by omega), h5]
theorem Sh.v2 {M : Mem} {m : Nat} {s : St} (h : Sh M m s) (x : Int32) : Sh (csI M 4 m 2 x) m (upd s 22 x) := by
  obtain ⟨⟨h1, h2, h3, h4, h5⟩, hg1, hg2, hg3, hg4, hg5, hg6, hg7⟩ := h
  refine ⟨⟨?_, ?_, ?_, ?_, ?_⟩, fun q hq => (hg1 q hq).trans (upd_ne (by omega)).symm, fun q hq => (hg2 q hq).trans (upd_ne (by omega)).symm, fun q hq => (hg3 q hq).trans (upd_ne (by omega)).symm, fun q hq => (hg4 q hq).trans (upd_ne (by omega)).symm, fun q hq => (hg5 q hq).trans (upd_ne (by omega)).symm, fun q hq => (hg6 q hq).trans (upd_ne (by omega)).symm, fun q hq => (hg7 q hq).trans (upd_ne (by omega)).symm⟩
  · rw [cI_ne _ _ (by omega), upd_ne (by omega), h1]
  · rw [cI_ne _ _ (by omega), upd_ne (by omega), h2]
  · rw [cI_same, upd_same]
  · rw [cI_ne _ _ (by omega), upd_ne (by omega), h4]
  · rw [cI_ne _ _ (by omega), upd_ne (by omega), h5]
theorem Sh.v3 {M : Mem} {m : Nat} {s : St} (h : Sh M m s) (x : Int32) : Sh (csI M 4 m 3 x) m (upd s 23 x) := by
  obtain ⟨⟨h1, h2, h3, h4, h5⟩, hg1, hg2, hg3, hg4, hg5, hg6, hg7⟩ := h
  refine ⟨⟨?_, ?_, ?_, ?_, ?_⟩, fun q hq => (hg1 q hq).trans (upd_ne (by omega)).symm, fun q hq => (hg2 q hq).trans (upd_ne (by omega)).symm, fun q hq => (hg3 q hq).trans (upd_ne (by omega)).symm, fun q hq => (hg4 q hq).trans (upd_ne (by omega)).symm, fun q hq => (hg5 q hq).trans (upd_ne (by omega)).symm, fun q hq => (hg6 q hq).trans (upd_ne (by omega)).symm, fun q hq => (hg7 q hq).trans (upd_ne (by omega)).symm⟩
  · rw [cI_ne _ _ (by omega), upd_ne (by omega), h1]
  · rw [cI_ne _ _ (by omega), upd_ne (by omega), h2]
  · rw [cI_ne _ _ (by omega), upd_ne (by omega), h3]
  · rw [cI_same, upd_same]
  · rw [cI_ne _ _ (by omega), upd_ne (by omega), h5]
theorem Sh.v4 {M : Mem} {m : Nat} {s : St} (h : Sh M m s) (x : Int32) : Sh (csI M 4 m 4 x) m (upd s 24 x) := by
  obtain ⟨⟨h1, h2, h3, h4, h5⟩, hg1, hg2, hg3, hg4, hg5, hg6, hg7⟩ := h
  refine ⟨⟨?_, ?_, ?_, ?_, ?_⟩, fun q hq => (hg1 q hq).trans (upd_ne (by omega)).symm, fun q hq => (hg2 q hq).trans (upd_ne (by omega)).symm, fun q hq => (hg3 q hq).trans (upd_ne (by omega)).symm, fun q hq => (hg4 q hq).trans (upd_ne (by omega)).symm, fun q hq => (hg5 q hq).trans (upd_ne (by omega)).symm, fun q hq => (hg6 q hq).trans (upd_ne (by omega)).symm, fun q hq => (hg7 q hq).trans (upd_ne (by omega)).symm⟩
  · rw [cI_ne _ _ (by omega), upd_ne (by omega), h1]
  · rw [cI_ne _ _ (by omega), upd_ne (by omega), h2]
  · rw [cI_ne _ _ (by omega), upd_ne (by omega), h3]
  · rw [cI_ne _ _ (by omega), upd_ne (by omega), h4]
  · rw [cI_same, upd_same]
