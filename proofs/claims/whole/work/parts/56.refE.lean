/-! the reference: strengths, forces, a beat -/
theorem X6_strengthOf (d : Nat) (M : Mem) {B : Nat} (hB : B < 2 ^ 30) {s : St} (hs : Wf B s) (hA : rA M 2 = s) {p : Nat} (hp : p < 6) : XC (d + 1) jX6_strengthOf [vR 6 0 0, vI (nI p)] M = some (some (vI (strS s p)), M) := by
  obtain ⟨v, hv, ev⟩ := hs.2.2.2.1 p hp
  obtain ⟨b, hb, eb⟩ := hs.2.1 0 (by decide)
  rw [E_X6_strengthOf]
  simp (disch := omega) only [ge_no, ob_no, ob_n2, cl_no, nI_1, le_self, zo_0, zo_1, bindI_some, bindV_some, bindL_some, ite_true, ite_false, if_true, if_false, or_true, true_or, la1, la7, la13, la27, la33, la39, la45, la69, la75, la81, la87, la93, la101, la109, la117, la125, la225, la230, la235, la240, hA]
  have as : (if 11 < s (1 + p) then (8 : Int32) else 12) = if s (1 + p) ≤ 11 then 12 else 8 := by
    by_cases c : 11 < s (1 + p)
    · rw [if_pos c, if_neg (Int32.not_le.mpr c)]
    · rw [if_neg c, if_pos (Int32.not_lt.mp c)]
  unfold strS
  by_cases c1 : s (27 + p) = 1
  · rw [if_pos c1, if_pos c1, B_X6_strengthOf_68, ← as]
    split
    · rw [B_X6_strengthOf_79, B_X6_strengthOf_81]
    · rw [B_X6_strengthOf_81]
  rw [if_neg c1, if_neg c1]
  by_cases c2 : s (27 + p) = 2
  · rw [if_pos c2, if_pos c2, B_X6_strengthOf_82]
  rw [if_neg c2, if_neg c2]
  by_cases c3 : s (27 + p) = 3
  · rw [if_pos c3, if_pos c3, B_X6_strengthOf_89]
  rw [if_neg c3, if_neg c3]
  by_cases c4 : s (27 + p) = 4
  · rw [if_pos c4, if_pos c4, B_X6_strengthOf_94, ← as]
    split
    · rw [B_X6_strengthOf_105, B_X6_strengthOf_107]
    · rw [B_X6_strengthOf_107]
  rw [if_neg c4, if_neg c4]
  by_cases c5 : s (27 + p) = 5
  · rw [if_pos c5, if_pos c5, B_X6_strengthOf_115, hA]
    have e2 : s (33 + p) + 2 = nI (v + 2) := by rw [ev]; exact nI_add v 2
    have n2 : ¬ s (33 + p) + 2 = 0 := by rw [e2]; exact nI_ne0 (by omega) (by omega)
    rw [if_neg n2]
    split
    · rw [B_X6_strengthOf_140]
    · rw [B_X6_strengthOf_134, B_X6_strengthOf_140]
  rw [if_neg c5, if_neg c5]
  by_cases c6 : s (27 + p) = 6
  · rw [if_pos c6, if_pos c6, B_X6_strengthOf_141, hA]
    have e0 : s 0 = nI b := eb
    have a4 : (4 : Int32) = nI 4 := rfl
    have a45 : (45 : Int32) = nI 45 := rfl
    have e9 : 45 + 4 * p + b % 4 = 45 + (4 * p + b % 4) := by omega
    rw [e0, a4, a45, rem_n (by omega) (by omega) (by omega), nI_mul, nI_add, nI_add, ob_no (by omega) (by omega), cl_no (by omega), cl_no (by omega), e9]
  · rw [if_neg c6, if_neg c6, B_X6_strengthOf_167]
theorem X6_forceOf (d : Nat) (M : Mem) {B : Nat} (hB : B < 2 ^ 30) {s : St} (hs : Wf B s) (hA : rA M 2 = s) {P : List Cl} (hP : HdR s P) {p : Nat} (hp : p < 6) : ∃ M', XC (d + 3) jX6_forceOf [vR 6 0 0, vI (nI p)] M = some (some (vI (nI (foS P s p))), M') ∧ Rf (fun t k => t = 1 ∧ (k = 11 ∨ k = 12)) M M' := by
  rw [E_X6_forceOf, X6_doesSing (d + 1) M hA hp, bindI_some]
  try dsimp only
  by_cases c : sg s p
  · rw [if_pos c, ne_10, B_X6_forceOf_10, X6_strengthOf (d + 1) M hB hs hA hp, bindI_some]
    try dsimp only
    obtain ⟨M', e, D⟩ := X6_looks d M hA hP hp
    have hA2 : rA M' 2 = s := (D.2.2.2 2 (fun q => absurd q.2 (by decide))).trans hA
    rw [e, bindI_some]
    try dsimp only
    simp (disch := omega) only [ge_no, ob_no, ob_n2, cl_no, nI_1, le_self, zo_0, zo_1, bindI_some, bindV_some, bindL_some, ite_true, ite_false, if_true, if_false, or_true, true_or, la1, la7, la13, la27, la33, la39, la45, la69, la75, la81, la87, la93, la101, la109, la117, la125, la225, la230, la235, la240, hA2]
    refine ⟨M', ?_, D⟩
    have e9 : foS P s p = (strS s p + iI (gnP (abS s p) P) - s (7 + p) / 10).toNatClampNeg := if_pos c
    rw [e9, ← max_n]
    generalize strS s p + iI (gnP (abS s p) P) - s (7 + p) / 10 = x
    by_cases l : 0 ≤ x
    · rw [if_pos l, B_X6_forceOf_43, B_X6_forceOf_44]
      by_cases l2 : 0 < x
      · rw [if_pos l2]
      · rw [if_neg l2]
        have : x = 0 := Int32.le_antisymm (Int32.not_lt.mp l2) l
        rw [this]
    · rw [if_neg l, B_X6_forceOf_44, if_neg (fun q => l (Int32.le_of_lt q))]
  · have e9 : foS P s p = 0 := if_neg c
    rw [if_neg c, eq_00, e9]
    exact ⟨M, rfl, Rf.rf⟩
/-- scratch of the reference -/
def scR : Nat → Nat → Prop := fun t k => t = 1 ∧ (k = 11 ∨ k = 12 ∨ k = 13)
theorem Rf.s2 {M M' : Mem} (h : Rf scR M M') : rA M' 2 = rA M 2 := h.2.2.2 2 (fun q => absurd q.2 (by decide))
theorem X6_looksForForces (d : Nat) (M : Mem) {B : Nat} (hB : B < 2 ^ 30) {s : St} (hs : Wf B s) (hA : rA M 2 = s) {P : List Cl} (hP : HdR s P) : ∃ M', XC (d + 4) jX6_looksForForces [vR 6 0 0] M = some (none, M') ∧ Rf scR M M' ∧ FoR M' s (foS P s) := by
  obtain ⟨hn, h6⟩ := hs.ns
  rw [E_X6_looksForForces]
  obtain ⟨M', e, D, F⟩ := loop_ex (fun i (M' : Mem) => X (d + 3) jX6_looksForForces 2 [some (vR 6 0 0), some (vI (nI i))] [] M') (fun i M' => Rf scR M M' ∧ ∀ q, q < i → rA M' 13 q = nI (foS P s q)) (nsS s) M ⟨Rf.rf, fun q hq => absurd hq (by omega)⟩ (fun i M1 hi I => by
    obtain ⟨D1, F1⟩ := I
    try dsimp only
    have hA1 := D1.s2.trans hA
    rw [B_X6_looksForForces_2, hA1, hn, ge_no hi (by omega)]
    obtain ⟨M2, e2, D2⟩ := X6_forceOf d M1 hB hs hA1 hP (p := i) (by omega)
    rw [e2, bindI_some]
    simp (disch := omega) only [ge_no, ob_no, ob_n2, cl_no, nI_1, le_self, zo_0, zo_1, bindI_some, bindV_some, bindL_some, ite_true, ite_false, if_true, if_false, or_true, true_or]
    have D3 : Rf scR M1 M2 := D2.mono (fun t k ⟨a, b⟩ => ⟨a, by omega⟩)
    refine ⟨_, rfl, (D1.tr D3).tr (Rf.A ⟨rfl, by omega⟩), fun q hq => ?_⟩
    rw [rA_same]
    by_cases hqi : q = i
    · subst hqi
      exact upd_same
    · rw [upd_ne hqi, D2.2.2.2 13 (fun z => absurd z.2 (by decide))]
      exact F1 q (by omega))
  refine ⟨M', ?_, D, fun i hi => ⟨F i hi, foS_le hB hs hP.1 (by omega)⟩⟩
  refine Eq.trans e ?_
  try dsimp only
  rw [B_X6_looksForForces_2, D.s2, hA, hn, le_self, B_X6_looksForForces_30]
theorem X6_allNow (d : Nat) (M : Mem) {B : Nat} (hB : B < 2 ^ 30) {s : St} (hs : Wf B s) (hA : rA M 2 = s) {P : List Cl} (hP : HdR s P) : ∃ M', XC (d + 6) jX6_allNow [vR 6 0 0] M = some (some (vI (nI (nowS P s))), M') ∧ Rf scR M M' ∧ FoR M' s (foS P s) := by
  obtain ⟨M', e, D, F⟩ := X6_looksForForces (d + 1) M hB hs hA hP
  refine ⟨M', ?_, D, F⟩
  have e63 : (63 : Int32) = nI 63 := rfl
  rw [E_X6_allNow, e, bindV_some, e63, X6_allBy d M' hs (D.s2.trans hA) F (by omega), bindI_some]
  rfl
