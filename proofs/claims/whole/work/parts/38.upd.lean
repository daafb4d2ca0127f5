/-! one place of a choir, and of the row -/
theorem upd_same {f : Nat → Int32} {k : Nat} {x : Int32} : upd f k x k = x := if_pos rfl
theorem upd_ne {f : Nat → Int32} {k j : Nat} {x : Int32} (h : ¬ j = k) : upd f k x j = f j := if_neg h
theorem upd_self {f : Nat → Int32} {k : Nat} {x : Int32} (h : x = f k) : upd f k x = f := by
  funext j
  by_cases q : j = k
  · subst q; rw [upd_same, h]
  · rw [upd_ne q]
theorem Rg.up {s : St} {lo n K j : Nat} {x : Int32} (h : Rg s lo n K) (hx : j < lo ∨ lo + n ≤ j ∨ ∃ k, k ≤ K ∧ x = nI k) : Rg (upd s j x) lo n K := by
  intro i hi
  by_cases q : lo + i = j
  · subst q
    rw [upd_same]
    rcases hx with h1 | h1 | h1
    · omega
    · omega
    · exact h1
  · rw [upd_ne q]
    exact h i hi
theorem Nt.up {s : St} {j : Nat} {x : Int32} (h : ∀ i, i < 6 → NtOk (s (1 + i))) (hx : j < 1 ∨ 7 ≤ j ∨ NtOk x) : ∀ i, i < 6 → NtOk (upd s j x (1 + i)) := by
  intro i hi
  by_cases q : 1 + i = j
  · subst q
    rw [upd_same]
    rcases hx with h1 | h1 | h1
    · omega
    · omega
    · exact h1
  · rw [upd_ne q]
    exact h i hi
theorem Wf.u5 {B : Nat} {s : St} (h : Wf B s) {i : Nat} (hi : i < 6) {x : Int32} (hx : ∃ k, k ≤ 6 ∧ x = nI k) : Wf B (upd s (27 + i) x) := by
  obtain ⟨h1, h2, h3, h4, h5, h6, h7, h8, h9, h10, h11⟩ := h
  exact ⟨h1.up (by omega), h2.up (by omega), h3.up (Or.inr (Or.inr hx)), h4.up (by omega), h5.up (by omega), Nt.up h6 (by omega), h7.up (by omega), h8.up (by omega), h9.up (by omega), h10.up (by omega), h11.up (by omega)⟩
theorem Wf.u6 {B : Nat} {s : St} (h : Wf B s) {i : Nat} (hi : i < 6) {x : Int32} (hx : ∃ k, k ≤ 9 ∧ x = nI k) : Wf B (upd s (33 + i) x) := by
  obtain ⟨h1, h2, h3, h4, h5, h6, h7, h8, h9, h10, h11⟩ := h
  exact ⟨h1.up (by omega), h2.up (by omega), h3.up (by omega), h4.up (Or.inr (Or.inr hx)), h5.up (by omega), Nt.up h6 (by omega), h7.up (by omega), h8.up (by omega), h9.up (by omega), h10.up (by omega), h11.up (by omega)⟩
theorem Wf.u7 {B : Nat} {s : St} (h : Wf B s) {i : Nat} (hi : i < 6) {x : Int32} (hx : ∃ k, k ≤ 23 ∧ x = nI k) : Wf B (upd s (39 + i) x) := by
  obtain ⟨h1, h2, h3, h4, h5, h6, h7, h8, h9, h10, h11⟩ := h
  exact ⟨h1.up (by omega), h2.up (by omega), h3.up (by omega), h4.up (by omega), h5.up (Or.inr (Or.inr hx)), Nt.up h6 (by omega), h7.up (by omega), h8.up (by omega), h9.up (by omega), h10.up (by omega), h11.up (by omega)⟩
theorem Wf.u8 {B : Nat} {s : St} (h : Wf B s) {i : Nat} (hi : i < 6) {x : Int32} (hx : NtOk x) : Wf B (upd s (1 + i) x) := by
  obtain ⟨h1, h2, h3, h4, h5, h6, h7, h8, h9, h10, h11⟩ := h
  exact ⟨h1.up (by omega), h2.up (by omega), h3.up (by omega), h4.up (by omega), h5.up (by omega), Nt.up h6 (Or.inr (Or.inr hx)), h7.up (by omega), h8.up (by omega), h9.up (by omega), h10.up (by omega), h11.up (by omega)⟩
theorem Wf.u9 {B : Nat} {s : St} (h : Wf B s) {i : Nat} (hi : i < 6) {x : Int32} (hx : ∃ k, k ≤ 99 ∧ x = nI k) : Wf B (upd s (7 + i) x) := by
  obtain ⟨h1, h2, h3, h4, h5, h6, h7, h8, h9, h10, h11⟩ := h
  exact ⟨h1.up (by omega), h2.up (by omega), h3.up (by omega), h4.up (by omega), h5.up (by omega), Nt.up h6 (by omega), h7.up (Or.inr (Or.inr hx)), h8.up (by omega), h9.up (by omega), h10.up (by omega), h11.up (by omega)⟩
theorem Wf.u10 {B : Nat} {s : St} (h : Wf B s) {i : Nat} (hi : i < 24) {x : Int32} (hx : ∃ k, k ≤ 9 ∧ x = nI k) : Wf B (upd s (45 + i) x) := by
  obtain ⟨h1, h2, h3, h4, h5, h6, h7, h8, h9, h10, h11⟩ := h
  exact ⟨h1.up (by omega), h2.up (by omega), h3.up (by omega), h4.up (by omega), h5.up (by omega), Nt.up h6 (by omega), h7.up (by omega), h8.up (Or.inr (Or.inr hx)), h9.up (by omega), h10.up (by omega), h11.up (by omega)⟩
theorem Wf.u11 {B : Nat} {s : St} (h : Wf B s) {i : Nat} (hi : i < 6) {x : Int32} (hx : ∃ k, k ≤ 60 ∧ x = nI k) : Wf B (upd s (69 + i) x) := by
  obtain ⟨h1, h2, h3, h4, h5, h6, h7, h8, h9, h10, h11⟩ := h
  exact ⟨h1.up (by omega), h2.up (by omega), h3.up (by omega), h4.up (by omega), h5.up (by omega), Nt.up h6 (by omega), h7.up (by omega), h8.up (by omega), h9.up (Or.inr (Or.inr hx)), h10.up (by omega), h11.up (by omega)⟩
theorem Wf.u12 {B : Nat} {s : St} (h : Wf B s) {i : Nat} (hi : i < 6) {x : Int32} (hx : ∃ k, k ≤ 1 ∧ x = nI k) : Wf B (upd s (75 + i) x) := by
  obtain ⟨h1, h2, h3, h4, h5, h6, h7, h8, h9, h10, h11⟩ := h
  exact ⟨h1.up (by omega), h2.up (by omega), h3.up (by omega), h4.up (by omega), h5.up (by omega), Nt.up h6 (by omega), h7.up (by omega), h8.up (by omega), h9.up (by omega), h10.up (Or.inr (Or.inr hx)), h11.up (by omega)⟩
theorem Wf.u13 {B : Nat} {s : St} (h : Wf B s) {i : Nat} (hi : i < 6) {x : Int32} (hx : ∃ k, k ≤ 1 ∧ x = nI k) : Wf B (upd s (13 + i) x) := by
  obtain ⟨h1, h2, h3, h4, h5, h6, h7, h8, h9, h10, h11⟩ := h
  exact ⟨h1.up (by omega), h2.up (by omega), h3.up (by omega), h4.up (by omega), h5.up (by omega), Nt.up h6 (by omega), h7.up (by omega), h8.up (by omega), h9.up (by omega), h10.up (by omega), h11.up (Or.inr (Or.inr hx))⟩
theorem Wf.u19 {B : Nat} {s : St} (h : Wf B s) {i : Nat} (hi : i < 2) {x : Int32} (hx : ∃ k, k ≤ 6 ∧ x = nI k) : Wf B (upd s (19 + i) x) := by
  obtain ⟨h1, h2, h3, h4, h5, h6, h7, h8, h9, h10, h11⟩ := h
  exact ⟨h1.up (Or.inr (Or.inr hx)), h2.up (by omega), h3.up (by omega), h4.up (by omega), h5.up (by omega), Nt.up h6 (by omega), h7.up (by omega), h8.up (by omega), h9.up (by omega), h10.up (by omega), h11.up (by omega)⟩
theorem Wf.u0 {B : Nat} {s : St} (h : Wf B s) : Wf (B + 1) (upd s 0 (s 0 + 1)) := by
  obtain ⟨h1, h2, h3, h4, h5, h6, h7, h8, h9, h10, h11⟩ := h
  refine ⟨h1.up (by omega), fun i hi => ?_, h3.up (by omega), h4.up (by omega), h5.up (by omega), Nt.up h6 (by omega), h7.up (by omega), h8.up (by omega), h9.up (by omega), h10.up (by omega), h11.up (by omega)⟩
  obtain ⟨k, a, b⟩ := h2 0 (by decide)
  have e : s 0 = nI k := b
  have e0 : 0 + i = 0 := by omega
  rw [e0, upd_same, e, nI_1]
  exact ⟨k + 1, by omega, rfl⟩
theorem Ch.u5 {M : Mem} {n : Nat} {s : St} (h : Ch M n s) {i : Nat} (hi : i < 6) (x : Int32) : Ch (csA M 1 n 5 (upd (cA M 1 n 5) i x)) n (upd s (27 + i) x) := by
  refine ⟨h.c0.trans (upd_ne (by omega)).symm, h.c1.trans (upd_ne (by omega)).symm, h.c2.trans (upd_ne (by omega)).symm, ?_, ?_, ?_, ?_, ?_, ?_, ?_, ?_, ?_⟩
  all_goals intro q hq
  · rw [cA_same]
    by_cases e : q = i
    · subst e; rw [upd_same, upd_same]
    · rw [upd_ne e, upd_ne (by omega), h.a5 hq]
  · rw [cA_ne _ _ (by omega), upd_ne (by omega), h.a6 hq]
  · rw [cA_ne _ _ (by omega), upd_ne (by omega), h.a7 hq]
  · rw [cA_ne _ _ (by omega), upd_ne (by omega), h.a8 hq]
  · rw [cA_ne _ _ (by omega), upd_ne (by omega), h.a9 hq]
  · rw [cA_ne _ _ (by omega), upd_ne (by omega), h.a10 hq]
  · rw [cA_ne _ _ (by omega), upd_ne (by omega), h.a11 hq]
  · rw [cA_ne _ _ (by omega), upd_ne (by omega), h.a12 hq]
  · rw [cA_ne _ _ (by omega), upd_ne (by omega), h.a13 hq]
theorem Ch.u6 {M : Mem} {n : Nat} {s : St} (h : Ch M n s) {i : Nat} (hi : i < 6) (x : Int32) : Ch (csA M 1 n 6 (upd (cA M 1 n 6) i x)) n (upd s (33 + i) x) := by
  refine ⟨h.c0.trans (upd_ne (by omega)).symm, h.c1.trans (upd_ne (by omega)).symm, h.c2.trans (upd_ne (by omega)).symm, ?_, ?_, ?_, ?_, ?_, ?_, ?_, ?_, ?_⟩
  all_goals intro q hq
  · rw [cA_ne _ _ (by omega), upd_ne (by omega), h.a5 hq]
  · rw [cA_same]
    by_cases e : q = i
    · subst e; rw [upd_same, upd_same]
    · rw [upd_ne e, upd_ne (by omega), h.a6 hq]
  · rw [cA_ne _ _ (by omega), upd_ne (by omega), h.a7 hq]
  · rw [cA_ne _ _ (by omega), upd_ne (by omega), h.a8 hq]
  · rw [cA_ne _ _ (by omega), upd_ne (by omega), h.a9 hq]
  · rw [cA_ne _ _ (by omega), upd_ne (by omega), h.a10 hq]
  · rw [cA_ne _ _ (by omega), upd_ne (by omega), h.a11 hq]
  · rw [cA_ne _ _ (by omega), upd_ne (by omega), h.a12 hq]
  · rw [cA_ne _ _ (by omega), upd_ne (by omega), h.a13 hq]
theorem Ch.u7 {M : Mem} {n : Nat} {s : St} (h : Ch M n s) {i : Nat} (hi : i < 6) (x : Int32) : Ch (csA M 1 n 7 (upd (cA M 1 n 7) i x)) n (upd s (39 + i) x) := by
  refine ⟨h.c0.trans (upd_ne (by omega)).symm, h.c1.trans (upd_ne (by omega)).symm, h.c2.trans (upd_ne (by omega)).symm, ?_, ?_, ?_, ?_, ?_, ?_, ?_, ?_, ?_⟩
  all_goals intro q hq
  · rw [cA_ne _ _ (by omega), upd_ne (by omega), h.a5 hq]
  · rw [cA_ne _ _ (by omega), upd_ne (by omega), h.a6 hq]
  · rw [cA_same]
    by_cases e : q = i
    · subst e; rw [upd_same, upd_same]
    · rw [upd_ne e, upd_ne (by omega), h.a7 hq]
  · rw [cA_ne _ _ (by omega), upd_ne (by omega), h.a8 hq]
  · rw [cA_ne _ _ (by omega), upd_ne (by omega), h.a9 hq]
  · rw [cA_ne _ _ (by omega), upd_ne (by omega), h.a10 hq]
  · rw [cA_ne _ _ (by omega), upd_ne (by omega), h.a11 hq]
  · rw [cA_ne _ _ (by omega), upd_ne (by omega), h.a12 hq]
  · rw [cA_ne _ _ (by omega), upd_ne (by omega), h.a13 hq]
theorem Ch.u8 {M : Mem} {n : Nat} {s : St} (h : Ch M n s) {i : Nat} (hi : i < 6) (x : Int32) : Ch (csA M 1 n 8 (upd (cA M 1 n 8) i x)) n (upd s (1 + i) x) := by
  refine ⟨h.c0.trans (upd_ne (by omega)).symm, h.c1.trans (upd_ne (by omega)).symm, h.c2.trans (upd_ne (by omega)).symm, ?_, ?_, ?_, ?_, ?_, ?_, ?_, ?_, ?_⟩
  all_goals intro q hq
  · rw [cA_ne _ _ (by omega), upd_ne (by omega), h.a5 hq]
  · rw [cA_ne _ _ (by omega), upd_ne (by omega), h.a6 hq]
  · rw [cA_ne _ _ (by omega), upd_ne (by omega), h.a7 hq]
  · rw [cA_same]
    by_cases e : q = i
    · subst e; rw [upd_same, upd_same]
    · rw [upd_ne e, upd_ne (by omega), h.a8 hq]
  · rw [cA_ne _ _ (by omega), upd_ne (by omega), h.a9 hq]
  · rw [cA_ne _ _ (by omega), upd_ne (by omega), h.a10 hq]
  · rw [cA_ne _ _ (by omega), upd_ne (by omega), h.a11 hq]
  · rw [cA_ne _ _ (by omega), upd_ne (by omega), h.a12 hq]
  · rw [cA_ne _ _ (by omega), upd_ne (by omega), h.a13 hq]
theorem Ch.u9 {M : Mem} {n : Nat} {s : St} (h : Ch M n s) {i : Nat} (hi : i < 6) (x : Int32) : Ch (csA M 1 n 9 (upd (cA M 1 n 9) i x)) n (upd s (7 + i) x) := by
  refine ⟨h.c0.trans (upd_ne (by omega)).symm, h.c1.trans (upd_ne (by omega)).symm, h.c2.trans (upd_ne (by omega)).symm, ?_, ?_, ?_, ?_, ?_, ?_, ?_, ?_, ?_⟩
  all_goals intro q hq
  · rw [cA_ne _ _ (by omega), upd_ne (by omega), h.a5 hq]
  · rw [cA_ne _ _ (by omega), upd_ne (by omega), h.a6 hq]
  · rw [cA_ne _ _ (by omega), upd_ne (by omega), h.a7 hq]
  · rw [cA_ne _ _ (by omega), upd_ne (by omega), h.a8 hq]
  · rw [cA_same]
    by_cases e : q = i
    · subst e; rw [upd_same, upd_same]
    · rw [upd_ne e, upd_ne (by omega), h.a9 hq]
  · rw [cA_ne _ _ (by omega), upd_ne (by omega), h.a10 hq]
  · rw [cA_ne _ _ (by omega), upd_ne (by omega), h.a11 hq]
  · rw [cA_ne _ _ (by omega), upd_ne (by omega), h.a12 hq]
  · rw [cA_ne _ _ (by omega), upd_ne (by omega), h.a13 hq]
theorem Ch.u10 {M : Mem} {n : Nat} {s : St} (h : Ch M n s) {i : Nat} (hi : i < 24) (x : Int32) : Ch (csA M 1 n 10 (upd (cA M 1 n 10) i x)) n (upd s (45 + i) x) := by
  refine ⟨h.c0.trans (upd_ne (by omega)).symm, h.c1.trans (upd_ne (by omega)).symm, h.c2.trans (upd_ne (by omega)).symm, ?_, ?_, ?_, ?_, ?_, ?_, ?_, ?_, ?_⟩
  all_goals intro q hq
  · rw [cA_ne _ _ (by omega), upd_ne (by omega), h.a5 hq]
  · rw [cA_ne _ _ (by omega), upd_ne (by omega), h.a6 hq]
  · rw [cA_ne _ _ (by omega), upd_ne (by omega), h.a7 hq]
  · rw [cA_ne _ _ (by omega), upd_ne (by omega), h.a8 hq]
  · rw [cA_ne _ _ (by omega), upd_ne (by omega), h.a9 hq]
  · rw [cA_same]
    by_cases e : q = i
    · subst e; rw [upd_same, upd_same]
    · rw [upd_ne e, upd_ne (by omega), h.a10 hq]
  · rw [cA_ne _ _ (by omega), upd_ne (by omega), h.a11 hq]
  · rw [cA_ne _ _ (by omega), upd_ne (by omega), h.a12 hq]
  · rw [cA_ne _ _ (by omega), upd_ne (by omega), h.a13 hq]
theorem Ch.u11 {M : Mem} {n : Nat} {s : St} (h : Ch M n s) {i : Nat} (hi : i < 6) (x : Int32) : Ch (csA M 1 n 11 (upd (cA M 1 n 11) i x)) n (upd s (69 + i) x) := by
  refine ⟨h.c0.trans (upd_ne (by omega)).symm, h.c1.trans (upd_ne (by omega)).symm, h.c2.trans (upd_ne (by omega)).symm, ?_, ?_, ?_, ?_, ?_, ?_, ?_, ?_, ?_⟩
  all_goals intro q hq
  · rw [cA_ne _ _ (by omega), upd_ne (by omega), h.a5 hq]
  · rw [cA_ne _ _ (by omega), upd_ne (by omega), h.a6 hq]
  · rw [cA_ne _ _ (by omega), upd_ne (by omega), h.a7 hq]
  · rw [cA_ne _ _ (by omega), upd_ne (by omega), h.a8 hq]
  · rw [cA_ne _ _ (by omega), upd_ne (by omega), h.a9 hq]
  · rw [cA_ne _ _ (by omega), upd_ne (by omega), h.a10 hq]
  · rw [cA_same]
    by_cases e : q = i
    · subst e; rw [upd_same, upd_same]
    · rw [upd_ne e, upd_ne (by omega), h.a11 hq]
  · rw [cA_ne _ _ (by omega), upd_ne (by omega), h.a12 hq]
  · rw [cA_ne _ _ (by omega), upd_ne (by omega), h.a13 hq]
theorem Ch.u12 {M : Mem} {n : Nat} {s : St} (h : Ch M n s) {i : Nat} (hi : i < 6) (x : Int32) : Ch (csA M 1 n 12 (upd (cA M 1 n 12) i x)) n (upd s (75 + i) x) := by
  refine ⟨h.c0.trans (upd_ne (by omega)).symm, h.c1.trans (upd_ne (by omega)).symm, h.c2.trans (upd_ne (by omega)).symm, ?_, ?_, ?_, ?_, ?_, ?_, ?_, ?_, ?_⟩
  all_goals intro q hq
  · rw [cA_ne _ _ (by omega), upd_ne (by omega), h.a5 hq]
  · rw [cA_ne _ _ (by omega), upd_ne (by omega), h.a6 hq]
  · rw [cA_ne _ _ (by omega), upd_ne (by omega), h.a7 hq]
  · rw [cA_ne _ _ (by omega), upd_ne (by omega), h.a8 hq]
  · rw [cA_ne _ _ (by omega), upd_ne (by omega), h.a9 hq]
  · rw [cA_ne _ _ (by omega), upd_ne (by omega), h.a10 hq]
  · rw [cA_ne _ _ (by omega), upd_ne (by omega), h.a11 hq]
  · rw [cA_same]
    by_cases e : q = i
    · subst e; rw [upd_same, upd_same]
    · rw [upd_ne e, upd_ne (by omega), h.a12 hq]
  · rw [cA_ne _ _ (by omega), upd_ne (by omega), h.a13 hq]
theorem Ch.u13 {M : Mem} {n : Nat} {s : St} (h : Ch M n s) {i : Nat} (hi : i < 6) (x : Int32) : Ch (csA M 1 n 13 (upd (cA M 1 n 13) i x)) n (upd s (13 + i) x) := by
  refine ⟨h.c0.trans (upd_ne (by omega)).symm, h.c1.trans (upd_ne (by omega)).symm, h.c2.trans (upd_ne (by omega)).symm, ?_, ?_, ?_, ?_, ?_, ?_, ?_, ?_, ?_⟩
  all_goals intro q hq
  · rw [cA_ne _ _ (by omega), upd_ne (by omega), h.a5 hq]
  · rw [cA_ne _ _ (by omega), upd_ne (by omega), h.a6 hq]
  · rw [cA_ne _ _ (by omega), upd_ne (by omega), h.a7 hq]
  · rw [cA_ne _ _ (by omega), upd_ne (by omega), h.a8 hq]
  · rw [cA_ne _ _ (by omega), upd_ne (by omega), h.a9 hq]
  · rw [cA_ne _ _ (by omega), upd_ne (by omega), h.a10 hq]
  · rw [cA_ne _ _ (by omega), upd_ne (by omega), h.a11 hq]
  · rw [cA_ne _ _ (by omega), upd_ne (by omega), h.a12 hq]
  · rw [cA_same]
    by_cases e : q = i
    · subst e; rw [upd_same, upd_same]
    · rw [upd_ne e, upd_ne (by omega), h.a13 hq]
theorem Ch.v0 {M : Mem} {n : Nat} {s : St} (h : Ch M n s) (x : Int32) : Ch (csI M 1 n 0 x) n (upd s 19 x) := by
  refine ⟨?_, ?_, ?_, fun q hq => (h.a5 hq).trans (upd_ne (by omega)).symm, fun q hq => (h.a6 hq).trans (upd_ne (by omega)).symm, fun q hq => (h.a7 hq).trans (upd_ne (by omega)).symm, fun q hq => (h.a8 hq).trans (upd_ne (by omega)).symm, fun q hq => (h.a9 hq).trans (upd_ne (by omega)).symm, fun q hq => (h.a10 hq).trans (upd_ne (by omega)).symm, fun q hq => (h.a11 hq).trans (upd_ne (by omega)).symm, fun q hq => (h.a12 hq).trans (upd_ne (by omega)).symm, fun q hq => (h.a13 hq).trans (upd_ne (by omega)).symm⟩
  · rw [cI_same, upd_same]
  · rw [cI_csI, if_neg (by omega), upd_ne (by omega), h.c1]
  · rw [cI_csI, if_neg (by omega), upd_ne (by omega), h.c2]
theorem Ch.v1 {M : Mem} {n : Nat} {s : St} (h : Ch M n s) (x : Int32) : Ch (csI M 1 n 1 x) n (upd s 20 x) := by
  refine ⟨?_, ?_, ?_, fun q hq => (h.a5 hq).trans (upd_ne (by omega)).symm, fun q hq => (h.a6 hq).trans (upd_ne (by omega)).symm, fun q hq => (h.a7 hq).trans (upd_ne (by omega)).symm, fun q hq => (h.a8 hq).trans (upd_ne (by omega)).symm, fun q hq => (h.a9 hq).trans (upd_ne (by omega)).symm, fun q hq => (h.a10 hq).trans (upd_ne (by omega)).symm, fun q hq => (h.a11 hq).trans (upd_ne (by omega)).symm, fun q hq => (h.a12 hq).trans (upd_ne (by omega)).symm, fun q hq => (h.a13 hq).trans (upd_ne (by omega)).symm⟩
  · rw [cI_csI, if_neg (by omega), upd_ne (by omega), h.c0]
  · rw [cI_same, upd_same]
  · rw [cI_csI, if_neg (by omega), upd_ne (by omega), h.c2]
theorem Ch.v2 {M : Mem} {n : Nat} {s : St} (h : Ch M n s) (x : Int32) : Ch (csI M 1 n 2 x) n (upd s 0 x) := by
  refine ⟨?_, ?_, ?_, fun q hq => (h.a5 hq).trans (upd_ne (by omega)).symm, fun q hq => (h.a6 hq).trans (upd_ne (by omega)).symm, fun q hq => (h.a7 hq).trans (upd_ne (by omega)).symm, fun q hq => (h.a8 hq).trans (upd_ne (by omega)).symm, fun q hq => (h.a9 hq).trans (upd_ne (by omega)).symm, fun q hq => (h.a10 hq).trans (upd_ne (by omega)).symm, fun q hq => (h.a11 hq).trans (upd_ne (by omega)).symm, fun q hq => (h.a12 hq).trans (upd_ne (by omega)).symm, fun q hq => (h.a13 hq).trans (upd_ne (by omega)).symm⟩
  · rw [cI_csI, if_neg (by omega), upd_ne (by omega), h.c0]
  · rw [cI_csI, if_neg (by omega), upd_ne (by omega), h.c1]
  · rw [cI_same, upd_same]
