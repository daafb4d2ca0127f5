/-! the reference: a beat -/
theorem HdR.cg {s z : St} {P : List Cl} (h : HdR s P) (e : ∀ k, 26 ≤ k → z k = s k) : HdR z P := by
  refine ⟨h.1, ?_⟩
  rcases h.2 with ⟨h1, h2⟩ | ⟨i, hi, h1, h2, h3, h4, h5, h6⟩
  · exact Or.inl ⟨(e 26 (by omega)).trans h1, h2⟩
  · refine Or.inr ⟨i, hi, (e 26 (by omega)).trans h1, (e _ (by omega)).trans h2, (e _ (by omega)).trans h3, (e _ (by omega)).trans h4, h5, fun k hk => (e _ (by omega)).trans (h6 k hk)⟩
theorem or_z {x : Int32} (h : ∃ k, k ≤ 1 ∧ x = nI k) (b : Bool) : x ||| (if b = true then 1 else 0) = if b = true then 1 else x := by
  obtain ⟨k, hk, rfl⟩ := h
  rcases (by omega : k = 0 ∨ k = 1) with rfl | rfl <;> cases b <;> decide
/-- the row and the scratch -/
def rowR : Nat → Nat → Prop := fun t k => t = 1 ∧ (k = 2 ∨ k = 11 ∨ k = 12 ∨ k = 13)
theorem scR_row : ∀ t k, scR t k → rowR t k := fun t k ⟨a, b⟩ => ⟨a, by omega⟩
theorem goA_hi (P : List Cl) {s : St} (ht : ntS s ≤ 6) (a : Nat) : ∀ k, 26 ≤ k → goA P s a k = s k := fun k hk => itr_inv (σ := St) (fun _ z => z k = s k) (ntS s) rfl (fun i z hi hz => (upd_ne (by omega)).trans hz)
theorem goB_hi (P : List Cl) {s : St} (hn : nsS s ≤ 6) (ht : ntS s ≤ 6) (a : Nat) : ∀ k, 26 ≤ k → goB P s a k = s k := fun k hk => itr_inv (σ := St) (fun _ z => z k = s k) (nsS s) (goA_hi P ht a k hk) (fun i z hi hz => (upd_ne (by omega)).trans hz)
theorem goS_hi (P : List Cl) {s : St} (hn : nsS s ≤ 6) (ht : ntS s ≤ 6) (a : Nat) : ∀ k, 26 ≤ k → goS P s a k = s k := fun k hk => (upd_ne (by omega)).trans (goB_hi P hn ht a k hk)
theorem X6_goesBy (d : Nat) (M : Mem) {B : Nat} (hB : B < 2 ^ 30) {s : St} (hs : Wf B s) (hA : rA M 2 = s) {P : List Cl} (hP : HdR s P) {a : Nat} (ha : a < 64) : ∃ M', XC (d + 6) jX6_goesBy [vR 6 0 0, vI (nI a)] M = some (some (vI (nI (pop (lbS P s a)))), M') ∧ Rf rowR M M' ∧ rA M' 2 = goS P s a := by
  obtain ⟨hn, hn6⟩ := hs.ns
  obtain ⟨ht, ht6⟩ := hs.nt
  obtain ⟨M1, e1, D1, F1⟩ := X6_looksForForces (d + 1) M hB hs hA hP
  have hA1 := D1.s2.trans hA
  have hL : lbS P s a < 64 := loS_lt ht6
  have hle := nowS_le hB hs hP.1 a
  rw [E_X6_goesBy, e1, bindV_some, X6_allBy d M1 hs hA1 F1 ha, bindI_some]
  try dsimp only
  rw [X6_looseBy (d + 3) (by omega) M1 hs hA1, bindI_some]
  try dsimp only
  have eL : (loS s (alS s (foS P s) a)).1 = lbS P s a := rfl
  rw [eL]
  generalize hLL : lbS P s a = L at hL ⊢
  have C1 := (loop_itr (fun i (z : St) => X (d + 5) jX6_goesBy 16 [some (vR 6 0 0), some (vI (nI a)), some (vI (nI L)), some (vI (nI i)), none] [] (rsA M1 2 z)) (fl1 L) (fun _ z => Wf B z ∧ Sm s z) (ntS s) s ⟨hs, rfl, rfl⟩ (fun i z hi I => by
    obtain ⟨zw, zm⟩ := I
    refine ⟨?_, zw.fl1 L (by omega), (upd_ne (by omega)).trans zm.1, (upd_ne (by omega)).trans zm.2⟩
    try dsimp only
    rw [B_X6_goesBy_16, rA_same, zm.2, ht, ge_no hi (by omega)]
    simp (disch := omega) only [ge_no, ob_no, ob_n2, cl_no, nI_1, le_self, zo_0, zo_1, bindI_some, bindV_some, bindL_some, ite_true, ite_false, if_true, if_false, or_true, true_or, la1, la7, la13, la27, la33, la39, la45, la69, la75, la81, la87, la93, la101, la109, la117, la125, la225, la230, la235, la240, rA_same, rsA_rsA, bit_p hL]
    rw [or_z (zw.2.2.2.2.2.2.2.2.2.2 i (by omega))]
    rfl) (ntS s) (Nat.le_refl _)).1
  try dsimp only at C1
  have s1 : rsA M1 2 s = M1 := by rw [← hA1, rsA_self]
  have hgA : itr (fl1 L) (ntS s) s = goA P s a := by unfold goA; rw [hLL]
  rw [s1, hgA] at C1
  have C1' : X (d + 5) jX6_goesBy 16 [some (vR 6 0 0), some (vI (nI a)), some (vI (nI L)), some (vI 0), none] [] M1 = _ := C1
  obtain ⟨wA, mA⟩ := goA_ok hs P a
  rw [C1', B_X6_goesBy_16, rA_same, mA.2, ht, le_self, B_X6_goesBy_50]
  have C2 := (loop_itr (fun i (z : St) => X (d + 5) jX6_goesBy 52 [some (vR 6 0 0), some (vI (nI a)), some (vI (nI L)), some (vI (nI i)), none] [] (rsA M1 2 z)) (ti1 P a) (fun _ z => Wf B z ∧ Sm s z ∧ ∀ k, 26 ≤ k → z k = s k) (nsS s) (goA P s a) ⟨wA, mA, goA_hi P ht6 a⟩ (fun i z hi I => by
    obtain ⟨zw, zm, zk⟩ := I
    refine ⟨?_, zw.ti1 a (by omega), ⟨(upd_ne (by omega)).trans zm.1, (upd_ne (by omega)).trans zm.2⟩, fun k hk => (upd_ne (by omega)).trans (zk k hk)⟩
    try dsimp only
    have hPz := hP.cg zk
    have hea := eaP_le hP.1
    have hwe := weP_le hP.1
    obtain ⟨t1, t2⟩ := zw.2.2.2.2.2.2.1.val (i := i) (by omega) (by decide)
    rw [B_X6_goesBy_52, rA_same, zm.1, hn, ge_no hi (by omega)]
    simp (disch := omega) only [ge_no, ob_no, ob_n2, cl_no, nI_1, le_self, zo_0, zo_1, bindI_some, bindV_some, bindL_some, ite_true, ite_false, if_true, if_false, or_true, true_or, la1, la7, la13, la27, la33, la39, la45, la69, la75, la81, la87, la93, la101, la109, la117, la125, la225, la230, la235, la240, rA_same, rsA_rsA, X6_isOf _ _ (rA_same M1 2 z)]
    have a0 : (0 : Int32) = nI 0 := rfl
    have a99 : (99 : Int32) = nI 99 := rfl
    by_cases c : bt a i ∧ sg z i
    · rw [if_pos c, ne_10, X6_weary (d + 4) _ (rA_same M1 2 z) hPz, bindI_some]
      try dsimp only
      have et : ti1 P a i z = upd z (7 + i) (nI (min 99 ((z (7 + i)).toNatClampNeg + weP P))) := by
        unfold ti1
        rw [if_pos c]
      rw [et, B_X6_goesBy_101]
      generalize (z (7 + i)).toNatClampNeg = t at t1 t2
      rw [t1, nI_add]
      have l0 : (0 : Int32) ≤ nI (t + weP P) := nI_le (a := 0) (by omega) (by omega)
      rw [if_pos l0, B_X6_goesBy_121]
      by_cases l : t + weP P ≤ 99
      · have l2 : nI (t + weP P) ≤ 99 := nI_le (b := 99) l (by omega)
        rw [if_pos l2, B_X6_goesBy_133, B_X6_goesBy_135, la7, ob_no (by omega) (by omega), cl_no (by omega), rA_same, rsA_rsA, Nat.min_eq_right l, nI_1]
      · have l2 : ¬ nI (t + weP P) ≤ 99 := nI_ge (a := 99) (by omega) (by omega)
        rw [if_neg l2, B_X6_goesBy_135, la7, ob_no (by omega) (by omega), cl_no (by omega), rA_same, rsA_rsA, Nat.min_eq_left (by omega), nI_1]
        rfl
    · rw [if_neg c, eq_00, B_X6_goesBy_92, X6_ease (d + 4) _ (rA_same M1 2 z) hPz, bindI_some]
      try dsimp only
      have et : ti1 P a i z = upd z (7 + i) (nI ((z (7 + i)).toNatClampNeg - eaP P)) := by
        unfold ti1
        rw [if_neg c]
      rw [et, B_X6_goesBy_101]
      generalize (z (7 + i)).toNatClampNeg = t at t1 t2
      rw [t1, ← iI_n, ← iI_n, iI_neg, iI_add]
      have b0 : (0 : Int32) = iI 0 := rfl
      by_cases l : 0 ≤ (t : Int) + -(eaP P : Int)
      · have l2 : (0 : Int32) ≤ iI ((t : Int) + -(eaP P : Int)) := by rw [b0]; exact (iI_le (by omega) (by omega) (by omega) (by omega)).mpr l
        have l3 : iI ((t : Int) + -(eaP P : Int)) ≤ 99 := (iI_le (b := 99) (by omega) (by omega) (by omega) (by omega)).mpr (by omega)
        have e5 : iI ((t : Int) + -(eaP P : Int)) = nI (t - eaP P) := by
          rw [← iI_n]
          congr 1
          omega
        rw [if_pos l2, B_X6_goesBy_121, if_pos l3, B_X6_goesBy_133, B_X6_goesBy_135, la7, ob_no (by omega) (by omega), cl_no (by omega), rA_same, rsA_rsA, e5, nI_1]
      · have l2 : ¬ (0 : Int32) ≤ iI ((t : Int) + -(eaP P : Int)) := by rw [b0]; exact fun q => l ((iI_le (by omega) (by omega) (by omega) (by omega)).mp q)
        have e5 : t - eaP P = 0 := by omega
        rw [if_neg l2, B_X6_goesBy_135, la7, ob_no (by omega) (by omega), cl_no (by omega), rA_same, rsA_rsA, e5, nI_1]
        rfl) (nsS s) (Nat.le_refl _)).1
  try dsimp only at C2
  have C2' : X (d + 5) jX6_goesBy 52 [some (vR 6 0 0), some (vI (nI a)), some (vI (nI L)), some (vI 0), none] [] (rsA M1 2 (goA P s a)) = _ := C2
  obtain ⟨wB, mB⟩ := goB_ok hs P a
  have hgB : itr (ti1 P a) (nsS s) (goA P s a) = goB P s a := rfl
  rw [C2', hgB, B_X6_goesBy_52, rA_same, mB.1, hn, le_self, B_X6_goesBy_142]
  try dsimp only
  rw [X6_sizeOf (d + 4) _ hL, bindI_some, rA_same, rsA_rsA]
  exact ⟨_, rfl, (D1.mono scR_row).tr (Rf.A ⟨rfl, Or.inl rfl⟩), rA_same _ _ _⟩
