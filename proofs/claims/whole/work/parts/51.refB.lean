/-! the reference: stones -/
theorem X6_doesHang (d : Nat) (M : Mem) {s : St} (hA : rA M 2 = s) {q : Nat} (hq : q < 6) : XC (d + 1) jX6_doesHang [vR 6 0 0, vI (nI q)] M = some (some (vI (if hg s q then 1 else 0)), M) := by
  rw [E_X6_doesHang]
  simp (disch := omega) only [ge_no, ob_no, ob_n2, cl_no, nI_1, le_self, zo_0, zo_1, bindI_some, bindV_some, bindL_some, ite_true, ite_false, if_true, if_false, or_true, true_or, la1, la7, la13, la27, la33, la39, la45, la69, la75, la81, la87, la93, la101, la109, la117, la125, la225, la230, la235, la240, hA, B_X6_doesHang_28, B_X6_doesHang_29]
  by_cases h1 : s (75 + q) = 0
  · by_cases h2 : s (13 + q) = 0
    · rw [if_pos h1, if_pos h2, if_pos ⟨h1, h2⟩]
    · rw [if_pos h1, if_neg h2, if_neg (fun z => h2 z.2)]
  · rw [if_neg h1, if_neg (fun z => h1 z.1)]
theorem X6_fallenMany (d : Nat) (M : Mem) {B : Nat} {s : St} (hs : Wf B s) (hA : rA M 2 = s) : XC (d + 1) jX6_fallenMany [vR 6 0 0] M = some (some (vI (nI (faS s))), M) := by
  obtain ⟨hn, h6⟩ := hs.nt
  rw [E_X6_fallenMany]
  refine Eq.trans (loop_all (fun i (z : Nat) => X d jX6_fallenMany 4 [some (vR 6 0 0), some (vI (nI z)), some (vI (nI i))] [] M) (fun i z => z + (s (13 + i)).toNatClampNeg) (ntS s) 0 (fun i z hi => ?_)) ?_
  · try dsimp only
    rw [B_X6_fallenMany_4, hA, hn]
    simp (disch := omega) only [ge_no, ob_no, ob_n2, cl_no, nI_1, le_self, zo_0, zo_1, bindI_some, bindV_some, bindL_some, ite_true, ite_false, if_true, if_false, or_true, true_or, la1, la7, la13, la27, la33, la39, la45, la69, la75, la81, la87, la93, la101, la109, la117, la125, la225, la230, la235, la240]
    rw [← nI_add z, ← (hs.2.2.2.2.2.2.2.2.2.2.val (i := i) (by omega) (by decide)).1]
  · try dsimp only
    rw [B_X6_fallenMany_4, hA, hn, le_self, B_X6_fallenMany_33]; rfl
theorem X6_sizeOf (d : Nat) (M : Mem) {a : Nat} (ha : a < 64) : XC (d + 1) jX6_sizeOf [vI (nI a)] M = some (some (vI (nI (pop a))), M) := by
  rw [E_X6_sizeOf]
  refine Eq.trans (loop_all (fun i (z : Nat) => X d jX6_sizeOf 4 [some (vI (nI a)), some (vI (nI z)), some (vI (nI i))] [] M) (fun k z => if bt a k then z + 1 else z) 6 0 (fun i z hi => ?_)) ?_
  · try dsimp only
    have g : ¬ (6 : Int32) ≤ nI i := nI_ge (a := i) (b := 6) hi (by omega)
    rw [B_X6_sizeOf_4, if_neg g, bit_p ha hi, nI_1]
    try dsimp only
    by_cases c : a.testBit i = true
    · rw [if_pos c, if_pos c, nI_1]
    · have z0 : nI z + 0 = nI z := nI_add z 0
      rw [if_neg c, if_neg c, z0]
  · try dsimp only
    rw [B_X6_sizeOf_4, if_pos (by decide), B_X6_sizeOf_24]; rfl
theorem X6_hangingWeight (d : Nat) (M : Mem) {B : Nat} {s : St} (hs : Wf B s) (hA : rA M 2 = s) : XC (d + 2) jX6_hangingWeight [vR 6 0 0] M = some (some (vI (nI (haS s))), M) := by
  obtain ⟨hn, h6⟩ := hs.nt
  rw [E_X6_hangingWeight]
  refine Eq.trans (loop_all (fun i (z : Nat) => X (d + 1) jX6_hangingWeight 4 [some (vR 6 0 0), some (vI (nI z)), some (vI (nI i))] [] M) (fun i z => if hg s i then z + wtS s i else z) (ntS s) 0 (fun i z hi => ?_)) ?_
  · try dsimp only
    rw [B_X6_hangingWeight_4, hA, hn]
    simp (disch := omega) only [ge_no, ob_no, ob_n2, cl_no, nI_1, le_self, zo_0, zo_1, bindI_some, bindV_some, bindL_some, ite_true, ite_false, if_true, if_false, or_true, true_or, la1, la7, la13, la27, la33, la39, la45, la69, la75, la81, la87, la93, la101, la109, la117, la125, la225, la230, la235, la240, X6_doesHang _ _ hA, B_X6_hangingWeight_36, B_X6_hangingWeight_37, hA]
    by_cases hc : hg s i
    · rw [if_pos hc, if_pos hc, ne_10, (hs.wt (i := i) (by omega)).1, nI_add]
    · rw [if_neg hc, if_neg hc, eq_00]
      have e0 : (0 : Int32) = nI 0 := rfl
      rw [e0, nI_add]; rfl
  · try dsimp only
    rw [B_X6_hangingWeight_4, hA, hn, le_self, B_X6_hangingWeight_45]; rfl
theorem X6_looseBy (d : Nat) {all : Nat} (ha : all < 2 ^ 31) (M : Mem) {B : Nat} {s : St} (hs : Wf B s) (hA : rA M 2 = s) : XC (d + 2) jX6_looseBy [vR 6 0 0, vI (nI all)] M = some (some (vI (nI (loS s all).1)), M) := by
  obtain ⟨hn, h6⟩ := hs.nt
  rw [E_X6_looseBy]
  have L := (loop_itr (fun i (z : Nat × Nat) => X (d + 1) jX6_looseBy 7 [some (vR 6 0 0), some (vI (nI all)), some (vI (nI z.2)), some (vI (nI z.1)), some (vI (nI i))] [] M) (fun i z => if hg s i then (if z.2 + wtS s i ≤ all then z.1 else z.1 ||| 2 ^ i, z.2 + wtS s i) else z) (fun i z => z.1 < 64 ∧ z.2 ≤ 60 * i) (ntS s) (0, 0) (by decide) (fun i z hi hz => by
    obtain ⟨hz, hz2⟩ := hz
    try dsimp only
    obtain ⟨w1, w2⟩ := hs.wt (i := i) (by omega)
    rw [B_X6_looseBy_7, hA, hn]
    simp (disch := omega) only [ge_no, ob_no, ob_n2, cl_no, nI_1, le_self, zo_0, zo_1, bindI_some, bindV_some, bindL_some, ite_true, ite_false, if_true, if_false, or_true, true_or, la1, la7, la13, la27, la33, la39, la45, la69, la75, la81, la87, la93, la101, la109, la117, la125, la225, la230, la235, la240, X6_doesHang _ _ hA, B_X6_looseBy_54, B_X6_looseBy_55, B_X6_looseBy_57, shl_p, hA]
    by_cases hc : hg s i
    · rw [if_pos hc, if_pos hc, ne_10, w1, nI_add]
      by_cases h2 : z.2 + wtS s i ≤ all
      · have h3 : nI (z.2 + wtS s i) ≤ nI all := (nI_leI (by omega) (by omega)).mpr h2
        simp only [if_pos h2, if_pos h3, or_0, true_and]; exact ⟨hz, by omega⟩
      · have h3 : ¬ nI (z.2 + wtS s i) ≤ nI all := fun q => h2 ((nI_leI (by omega) (by omega)).mp q)
        simp only [if_neg h2, if_neg h3, true_and]
        rw [or_p hz (by omega)]
        exact ⟨rfl, or_lt hz (by omega), by omega⟩
    · rw [if_neg hc, if_neg hc, eq_00]; exact ⟨rfl, hz, by omega⟩) (ntS s) (Nat.le_refl _)).1
  refine Eq.trans L ?_
  try dsimp only
  rw [B_X6_looseBy_7, hA, hn, le_self, B_X6_looseBy_63]; rfl
