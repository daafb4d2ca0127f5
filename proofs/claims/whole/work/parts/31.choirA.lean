/-! the class's choir: what reads alone -/
theorem X5_hasBitG (d : Nat) (M : Mem) (x y : Int32) : XC (d + 1) jX5_hasBit [vI x, vI y] M = some (some (vI (if ((x >>> (y &&& 31)) &&& 1) = 0 then 0 else 1)), M) := by
  rw [E_X5_hasBit]
  simp only [B_X5_hasBit_12, B_X5_hasBit_13, zo_0, zo_1]
  split <;> rfl
theorem X5_hasBit (d : Nat) (M : Mem) {a k : Nat} (ha : a < 64) (hk : k < 6) : XC (d + 1) jX5_hasBit [vI (nI a), vI (nI k)] M = some (some (vI (if a.testBit k = true then 1 else 0)), M) := by
  rw [X5_hasBitG, bit_p ha hk]
  cases a.testBit k <;> rfl
/-- who sings, as bits -/
def sgF (nt : Nat → Int32) (n : Nat) : Nat := itr (fun i z => if nt i = -1 then z else z ||| 2 ^ i) n 0
theorem sgF_lt (nt : Nat → Int32) {n : Nat} (h : n ≤ 6) : sgF nt n < 64 := itr_inv (fun _ z => z < 64) n (by decide) (fun i z hi hz => by
  try dsimp only
  split
  · exact hz
  · exact or_lt hz (by omega))
theorem X1_singing (d n ns : Nat) (M : Mem) (hn : cI M 1 n 0 = nI ns) (h6 : ns ≤ 6) : XC (d + 1) jX1_singing [vR 1 n 0] M = some (some (vI (nI (sgF (cA M 1 n 8) ns))), M) := by
  rw [E_X1_singing]
  have L := (loop_itr (fun i (z : Nat) => X d jX1_singing 4 [some (vR 1 n 0), some (vI (nI z)), some (vI (nI i))] [] M) (fun i z => if cA M 1 n 8 i = -1 then z else z ||| 2 ^ i) (fun _ z => z < 64) ns 0 (by decide) (fun i z hi hz => by
    try dsimp only
    rw [B_X1_singing_4, hn]
    simp (disch := omega) only [ge_no, ob_no, ob_n2, cl_no, nI_1, le_self, zo_0, zo_1, bindI_some, bindV_some, bindL_some, ite_true, ite_false, if_true, if_false, shl_p, B_X1_singing_28]
    split
    · exact ⟨rfl, hz⟩
    · rw [or_p hz (by omega)]; exact ⟨rfl, or_lt hz (by omega)⟩) ns (Nat.le_refl ns)).1
  refine Eq.trans L ?_
  try dsimp only
  rw [B_X1_singing_4, hn, le_self, B_X1_singing_34]
  rfl
theorem X1_countFallen (d n nt : Nat) (M : Mem) (hn : cI M 1 n 1 = nI nt) (h6 : nt ≤ 6) : XC (d + 1) jX1_countFallen [vR 1 n 0] M = some (some (vI (itr (fun i z => z + cA M 1 n 13 i) nt 0)), M) := by
  rw [E_X1_countFallen]
  refine Eq.trans (loop_all (fun i (z : Int32) => X d jX1_countFallen 4 [some (vR 1 n 0), some (vI z), some (vI (nI i))] [] M) (fun i z => z + cA M 1 n 13 i) nt 0 (fun i z hi => ?_)) ?_
  · try dsimp only
    rw [B_X1_countFallen_4, hn]
    simp (disch := omega) only [ge_no, ob_no, ob_n2, cl_no, nI_1, le_self, zo_0, zo_1, bindI_some, bindV_some, bindL_some, ite_true, ite_false, if_true, if_false]
  · try dsimp only
    rw [B_X1_countFallen_4, hn, le_self, B_X1_countFallen_27]
theorem X1_hangs (d n : Nat) (M : Mem) {i : Nat} (h : i < 6) : XC (d + 1) jX1_hangs [vR 1 n 0, vI (nI i)] M = some (some (vI (if cA M 1 n 12 i = 0 ∧ cA M 1 n 13 i = 0 then 1 else 0)), M) := by
  rw [E_X1_hangs]
  simp (disch := omega) only [ge_no, ob_no, ob_n2, cl_no, nI_1, le_self, zo_0, zo_1, bindI_some, bindV_some, bindL_some, ite_true, ite_false, if_true, if_false, B_X1_hangs_22, B_X1_hangs_23]
  by_cases h1 : cA M 1 n 12 i = 0
  · by_cases h2 : cA M 1 n 13 i = 0
    · rw [if_pos h1, if_pos h2, if_pos ⟨h1, h2⟩]
    · rw [if_pos h1, if_neg h2, if_neg (fun q => h2 q.2)]
  · rw [if_neg h1, if_neg (fun q => h1 q.1)]
theorem X1_sumTired (d n ns : Nat) (M : Mem) (hn : cI M 1 n 0 = nI ns) (h6 : ns ≤ 6) : XC (d + 1) jX1_sumTired [vR 1 n 0] M = some (some (vI (itr (fun i z => z + cA M 1 n 9 i) ns 0)), M) := by
  rw [E_X1_sumTired]
  refine Eq.trans (loop_all (fun i (z : Int32) => X d jX1_sumTired 4 [some (vR 1 n 0), some (vI z), some (vI (nI i))] [] M) (fun i z => z + cA M 1 n 9 i) ns 0 (fun i z hi => ?_)) ?_
  · try dsimp only
    rw [B_X1_sumTired_4, hn]
    simp (disch := omega) only [ge_no, ob_no, ob_n2, cl_no, nI_1, le_self, zo_0, zo_1, bindI_some, bindV_some, bindL_some, ite_true, ite_false, if_true, if_false]
  · try dsimp only
    rw [B_X1_sumTired_4, hn, le_self, B_X1_sumTired_27]
/-- what hangs, together -/
def shF (w p fl : Nat → Int32) (n : Nat) : Int32 := itr (fun i z => if p i = 0 ∧ fl i = 0 then z + w i else z + 0) n 0
theorem X1_sumHanging (d n nt : Nat) (M : Mem) (hn : cI M 1 n 1 = nI nt) (h6 : nt ≤ 6) : XC (d + 2) jX1_sumHanging [vR 1 n 0] M = some (some (vI (shF (cA M 1 n 11) (cA M 1 n 12) (cA M 1 n 13) nt)), M) := by
  rw [E_X1_sumHanging]
  refine Eq.trans (loop_all (fun i (z : Int32) => X (d + 1) jX1_sumHanging 4 [some (vR 1 n 0), some (vI z), some (vI (nI i))] [] M) (fun i z => if cA M 1 n 12 i = 0 ∧ cA M 1 n 13 i = 0 then z + cA M 1 n 11 i else z + 0) nt 0 (fun i z hi => ?_)) ?_
  · try dsimp only
    rw [B_X1_sumHanging_4, hn]
    simp (disch := omega) only [ge_no, ob_no, ob_n2, cl_no, nI_1, le_self, zo_0, zo_1, bindI_some, bindV_some, bindL_some, ite_true, ite_false, if_true, if_false, X1_hangs, B_X1_sumHanging_30, B_X1_sumHanging_31]
    by_cases hc : cA M 1 n 12 i = 0 ∧ cA M 1 n 13 i = 0
    · rw [if_pos hc, if_pos hc, ne_10]
    · rw [if_neg hc, if_neg hc, eq_00]
  · try dsimp only
    rw [B_X1_sumHanging_4, hn, le_self, B_X1_sumHanging_39]; rfl
/-- which are loose, and how much hangs -/
def lsF (w p fl : Nat → Int32) (all : Int32) (n : Nat) : Nat × Int32 := itr (fun i z => if p i = 0 ∧ fl i = 0 then (if z.2 + w i ≤ all then z.1 else z.1 ||| 2 ^ i, z.2 + w i) else z) n (0, 0)
theorem lsF_lt (w p fl : Nat → Int32) (all : Int32) {n : Nat} (h : n ≤ 6) : (lsF w p fl all n).1 < 64 := itr_inv (fun _ z => z.1 < 64) n (by decide) (fun i z hi hz => by
  try dsimp only
  split
  · try dsimp only
    split
    · exact hz
    · exact or_lt hz (by omega)
  · exact hz)
theorem or_0 (a : Nat) : nI a ||| 0 = nI a := by
  have : (0 : Int32) = nI 0 := rfl
  rw [this]
  exact Int32.or_zero
theorem X1_looseBits (d n nt : Nat) (all : Int32) (M : Mem) (hn : cI M 1 n 1 = nI nt) (h6 : nt ≤ 6) : XC (d + 2) jX1_looseBits [vR 1 n 0, vI all] M = some (some (vI (nI (lsF (cA M 1 n 11) (cA M 1 n 12) (cA M 1 n 13) all nt).1)), M) := by
  rw [E_X1_looseBits]
  have L := (loop_itr (fun i (z : Nat × Int32) => X (d + 1) jX1_looseBits 7 [some (vR 1 n 0), some (vI all), some (vI (nI z.1)), some (vI z.2), some (vI (nI i))] [] M) (fun i z => if cA M 1 n 12 i = 0 ∧ cA M 1 n 13 i = 0 then (if z.2 + cA M 1 n 11 i ≤ all then z.1 else z.1 ||| 2 ^ i, z.2 + cA M 1 n 11 i) else z) (fun _ z => z.1 < 64) nt (0, 0) (by decide) (fun i z hi hz => by
    try dsimp only
    rw [B_X1_looseBits_7, hn]
    simp (disch := omega) only [ge_no, ob_no, ob_n2, cl_no, nI_1, le_self, zo_0, zo_1, bindI_some, bindV_some, bindL_some, ite_true, ite_false, if_true, if_false, X1_hangs, B_X1_looseBits_48, B_X1_looseBits_49, B_X1_looseBits_51, shl_p]
    by_cases hc : cA M 1 n 12 i = 0 ∧ cA M 1 n 13 i = 0
    · rw [if_pos hc, if_pos hc, ne_10]
      by_cases h2 : z.2 + cA M 1 n 11 i ≤ all
      · simp only [if_pos h2, or_0]; exact ⟨rfl, hz⟩
      · simp only [if_neg h2]
        rw [or_p hz (by omega)]
        exact ⟨rfl, or_lt hz (by omega)⟩
    · rw [if_neg hc, if_neg hc, eq_00]; exact ⟨rfl, hz⟩) nt (Nat.le_refl nt)).1
  refine Eq.trans L ?_
  try dsimp only
  rw [B_X1_looseBits_7, hn, le_self, B_X1_looseBits_57]; rfl
