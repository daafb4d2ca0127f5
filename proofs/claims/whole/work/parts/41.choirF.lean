/-! copies, new ones -/
theorem cA_nn (M : Mem) {c n n' k k' : Nat} (f : Nat → Int32) (h : ¬ n' = n) : cA (csA M c n k f) c n' k' = cA M c n' k' := if_neg (fun q => h q.2.1)
theorem cI_nn (M : Mem) {c n n' k k' : Nat} (x : Int32) (h : ¬ n' = n) : cI (csI M c n k x) c n' k' = cI M c n' k' := if_neg (fun q => h q.2.1)
theorem cI_ne (M : Mem) {c n k k' : Nat} (x : Int32) (h : ¬ k' = k) : cI (csI M c n k x) c n k' = cI M c n k' := if_neg (fun q => h q.2.2)
theorem cR_nn (M : Mem) {c n n' k k' : Nat} (x : Nat) (h : ¬ n' = n) : cR (csR M c n k x) c n' k' = cR M c n' k' := if_neg (fun q => h q.2.1)
theorem cpy_at {f g : Nat → Int32} {N i : Nat} (h : i < N) : va_cpy f g 0 0 N i = f i := by
  unfold va_cpy
  rw [if_pos ⟨by omega, by omega⟩]
  congr 1
  omega
/-- all of one choir -/
def alC (n : Nat) : SetC := fun _ c m _ => c = 1 ∧ m = n
theorem chg_alC {n : Nat} : ∀ t c m k, chg n t c m k → alC n t c m k := fun _ _ _ _ ⟨_, b, e⟩ => ⟨b, e⟩
theorem Hd.al {M M' : Mem} {n m : Nat} {P : List Cl} (h : Hd M n P) (D : Df (alC m) M M') (hm : ¬ n = m) : Hd M' n P := h.df D (fun q => hm q.2) (fun t j k q => absurd q.1 (by decide))
theorem Ch.al {M M' : Mem} {n m : Nat} {s : St} (h : Ch M n s) (D : Df (alC m) M M') (hm : ¬ n = m) : Ch M' n s := h.df D (fun t k hk q => hm q.2)
theorem X1_become (d n n1 : Nat) (hnn : ¬ n1 = n) (M : Mem) {s : St} (h : Ch M n1 s) {P : List Cl} (hP : Hd M n1 P) : ∃ M', XC (d + 1) jX1_become [vR 1 n 0, vR 1 n1 0] M = some (none, M') ∧ Df (alC n) M M' ∧ Ch M' n s ∧ Hd M' n P ∧ cR M' 1 n 3 = cR M 1 n1 3 := by
  have key : ∃ M', XC (d + 1) jX1_become [vR 1 n 0, vR 1 n1 0] M = some (none, M') ∧ Df (alC n) M M' ∧ Ch M' n s ∧ cR M' 1 n 3 = cR M 1 n1 3 := by
    rw [E_X1_become]
    simp (disch := first | assumption | omega) only [cI_nn, cI_ne, cR_csI, cR_csR, cR_csA, cI_csA, cI_csR, cA_csI, cA_csR, cA_nn, cA_ne, cA_same]
    have k1 := hP.1
    rw [if_pos k1]
    refine ⟨_, rfl, ?_, ?_, ?_⟩
    · refine Df.tr (Df.tr (Df.tr (Df.tr (Df.tr (Df.tr (Df.tr (Df.tr (Df.tr (Df.tr (Df.tr (Df.tr (Df.csI ⟨rfl, rfl⟩) (Df.csI ⟨rfl, rfl⟩)) (Df.csI ⟨rfl, rfl⟩)) (Df.csR ⟨rfl, rfl⟩)) (Df.csA ⟨rfl, rfl⟩)) (Df.csA ⟨rfl, rfl⟩)) (Df.csA ⟨rfl, rfl⟩)) (Df.csA ⟨rfl, rfl⟩)) (Df.csA ⟨rfl, rfl⟩)) (Df.csA ⟨rfl, rfl⟩)) (Df.csA ⟨rfl, rfl⟩)) (Df.csA ⟨rfl, rfl⟩)) (Df.csA ⟨rfl, rfl⟩)
    · refine ⟨?_, ?_, ?_, ?_, ?_, ?_, ?_, ?_, ?_, ?_, ?_, ?_⟩
      · simp (disch := first | assumption | omega) only [cI_csA, cI_csR, cI_ne, cI_same, cI_nn]; exact h.c0
      · simp (disch := first | assumption | omega) only [cI_csA, cI_csR, cI_ne, cI_same, cI_nn]; exact h.c1
      · simp (disch := first | assumption | omega) only [cI_csA, cI_csR, cI_ne, cI_same, cI_nn]; exact h.c2
      all_goals
        intro i hi
        simp (disch := first | assumption | omega) only [cA_csI, cA_csR, cA_nn, cA_ne, cA_same, cpy_at]
      · exact h.a5 hi
      · exact h.a6 hi
      · exact h.a7 hi
      · exact h.a8 hi
      · exact h.a9 hi
      · exact h.a10 hi
      · exact h.a11 hi
      · exact h.a12 hi
      · exact h.a13 hi
    · simp only [cR_csA, cR_same]
  obtain ⟨M', e, D, hC, eR⟩ := key
  refine ⟨M', e, D, hC, ?_, eR⟩
  unfold Hd
  rw [eR]
  exact ⟨hP.1, hP.2.1.df D (fun t k q => absurd q.1 (by decide)), hP.2.2⟩
/-- a new singer, a new stone -/
def adS (s : St) (k v l : Int32) : St := upd (upd (upd (upd (upd s (27 + nsS s) k) (33 + nsS s) v) (39 + nsS s) l) (1 + nsS s) (-1)) 19 (s 19 + 1)
def atS (s : St) (w : Int32) : St := upd (upd s (69 + ntS s) w) 20 (s 20 + 1)
theorem X1_addSinger (d n : Nat) (M : Mem) {B : Nat} {s : St} (hs : Wf B s) (h : Ch M n s) (x y z : Int32) (hc : nsS s < 6) : ∃ M', XC (d + 1) jX1_addSinger [vR 1 n 0, vI x, vI y, vI z] M = some (some (vI (nI (nsS s))), M') ∧ Df (chg n) M M' ∧ Ch M' n (adS s x y z) := by
  obtain ⟨hn, h6⟩ := hs.ns
  have l : nI (nsS s) < 6 := nI_lt (a := nsS s) (b := 6) hc (by omega)
  rw [E_X1_addSinger, h.c0, hn, if_pos l, B_X1_addSinger_16]
  simp (disch := omega) only [ob_no, ob_n2, cl_no]
  refine ⟨_, rfl, Df.tr (Df.tr (Df.tr (Df.tr (Df.csA ⟨by decide, rfl, rfl⟩) (Df.csA ⟨by decide, rfl, rfl⟩)) (Df.csA ⟨by decide, rfl, rfl⟩)) (Df.csA ⟨by decide, rfl, rfl⟩)) (Df.csI ⟨by decide, rfl, rfl⟩), ?_⟩
  have q := ((((h.u5 (i := nsS s) hc x).u6 (i := nsS s) hc y).u7 (i := nsS s) hc z).u8 (i := nsS s) hc (-1)).v0 (s 19 + 1)
  unfold adS
  simp only [cI_csA] at q ⊢
  rw [h.c0]
  exact q
theorem X1_addStone (d n : Nat) (M : Mem) {B : Nat} {s : St} (hs : Wf B s) (h : Ch M n s) (x : Int32) (hc : ntS s < 6) : ∃ M', XC (d + 1) jX1_addStone [vR 1 n 0, vI x] M = some (some (vI (nI (ntS s))), M') ∧ Df (chg n) M M' ∧ Ch M' n (atS s x) := by
  obtain ⟨hn, h6⟩ := hs.nt
  have l : nI (ntS s) < 6 := nI_lt (a := ntS s) (b := 6) hc (by omega)
  rw [E_X1_addStone, h.c1, hn, if_pos l, B_X1_addStone_14]
  simp (disch := omega) only [ob_no, ob_n2, cl_no]
  refine ⟨_, rfl, Df.tr (Df.csA ⟨by decide, rfl, rfl⟩) (Df.csI ⟨by decide, rfl, rfl⟩), ?_⟩
  have q := (h.u11 (i := ntS s) hc x).v1 (s 20 + 1)
  unfold atS
  simp only [cI_csA] at q ⊢
  rw [h.c1]
  exact q
