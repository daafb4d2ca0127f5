/-! the class's choir n stands for the row s -/
def Ch (M : Mem) (n : Nat) (s : St) : Prop := cI M 1 n 0 = s 19 ∧ cI M 1 n 1 = s 20 ∧ cI M 1 n 2 = s 0 ∧ (∀ i, i < 6 → cA M 1 n 5 i = s (27 + i)) ∧ (∀ i, i < 6 → cA M 1 n 6 i = s (33 + i)) ∧ (∀ i, i < 6 → cA M 1 n 7 i = s (39 + i)) ∧ (∀ i, i < 6 → cA M 1 n 8 i = s (1 + i)) ∧ (∀ i, i < 6 → cA M 1 n 9 i = s (7 + i)) ∧ (∀ i, i < 24 → cA M 1 n 10 i = s (45 + i)) ∧ (∀ i, i < 6 → cA M 1 n 11 i = s (69 + i)) ∧ (∀ i, i < 6 → cA M 1 n 12 i = s (75 + i)) ∧ (∀ i, i < 6 → cA M 1 n 13 i = s (13 + i))
theorem Ch.c0 {M : Mem} {n : Nat} {s : St} (h : Ch M n s) : cI M 1 n 0 = s 19 := h.1
theorem Ch.c1 {M : Mem} {n : Nat} {s : St} (h : Ch M n s) : cI M 1 n 1 = s 20 := h.2.1
theorem Ch.c2 {M : Mem} {n : Nat} {s : St} (h : Ch M n s) : cI M 1 n 2 = s 0 := h.2.2.1
theorem Ch.a5 {M : Mem} {n : Nat} {s : St} (h : Ch M n s) {i : Nat} (hi : i < 6) : cA M 1 n 5 i = s (27 + i) := h.2.2.2.1 i hi
theorem Ch.a6 {M : Mem} {n : Nat} {s : St} (h : Ch M n s) {i : Nat} (hi : i < 6) : cA M 1 n 6 i = s (33 + i) := h.2.2.2.2.1 i hi
theorem Ch.a7 {M : Mem} {n : Nat} {s : St} (h : Ch M n s) {i : Nat} (hi : i < 6) : cA M 1 n 7 i = s (39 + i) := h.2.2.2.2.2.1 i hi
theorem Ch.a8 {M : Mem} {n : Nat} {s : St} (h : Ch M n s) {i : Nat} (hi : i < 6) : cA M 1 n 8 i = s (1 + i) := h.2.2.2.2.2.2.1 i hi
theorem Ch.a9 {M : Mem} {n : Nat} {s : St} (h : Ch M n s) {i : Nat} (hi : i < 6) : cA M 1 n 9 i = s (7 + i) := h.2.2.2.2.2.2.2.1 i hi
theorem Ch.a10 {M : Mem} {n : Nat} {s : St} (h : Ch M n s) {i : Nat} (hi : i < 24) : cA M 1 n 10 i = s (45 + i) := h.2.2.2.2.2.2.2.2.1 i hi
theorem Ch.a11 {M : Mem} {n : Nat} {s : St} (h : Ch M n s) {i : Nat} (hi : i < 6) : cA M 1 n 11 i = s (69 + i) := h.2.2.2.2.2.2.2.2.2.1 i hi
theorem Ch.a12 {M : Mem} {n : Nat} {s : St} (h : Ch M n s) {i : Nat} (hi : i < 6) : cA M 1 n 12 i = s (75 + i) := h.2.2.2.2.2.2.2.2.2.2.1 i hi
theorem Ch.a13 {M : Mem} {n : Nat} {s : St} (h : Ch M n s) {i : Nat} (hi : i < 6) : cA M 1 n 13 i = s (13 + i) := h.2.2.2.2.2.2.2.2.2.2.2 i hi
theorem Ch.df {S : SetC} {M M' : Mem} {n : Nat} {s : St} (h : Ch M n s) (D : Df S M M') (hS : ∀ t k, k ≤ 13 → ¬ S t 1 n k) : Ch M' n s := by
  refine ⟨?_, ?_, ?_, ?_, ?_, ?_, ?_, ?_, ?_, ?_, ?_, ?_⟩
  · rw [D.1 1 n 0 (hS _ _ (by omega))]; exact h.c0
  · rw [D.1 1 n 1 (hS _ _ (by omega))]; exact h.c1
  · rw [D.1 1 n 2 (hS _ _ (by omega))]; exact h.c2
  all_goals
    intro i hi
    rw [D.2.1 1 n _ (hS _ _ (by omega))]
  · exact h.a5 hi
  · exact h.a6 hi
  · exact h.a7 hi
  · exact h.a8 hi
  · exact h.a9 hi
  · exact h.a10 hi
  · exact h.a11 hi
  · exact h.a12 hi
  · exact h.a13 hi
/-- scratch: the forces and the six numbers of a choir -/
def scr (n : Nat) : SetC := fun t c m k => t = 1 ∧ c = 1 ∧ m = n ∧ (k = 14 ∨ k = 15)
theorem Ch.sc {M M' : Mem} {n m : Nat} {s : St} (h : Ch M n s) (D : Df (scr m) M M') : Ch M' n s := h.df D (fun t k hk q => by obtain ⟨_, _, _, q⟩ := q; omega)
theorem RepC.df {S : SetC} {M M' : Mem} {j : Nat} {P : List Cl} (h : RepC M j P) (D : Df S M M') (hS : ∀ t k, ¬ S t 3 j k) : RepC M' j P := by
  obtain ⟨h0, h1, h2, h3⟩ := h
  refine ⟨(D.1 3 j 0 (hS _ _)).trans h0, (D.1 3 j 2 (hS _ _)).trans h1, (D.1 3 j 3 (hS _ _)).trans h2, fun c hc => ?_⟩
  obtain ⟨a1, a2, f, a3, a4, a5, a6⟩ := h3 c hc
  rw [D.2.1 3 j 5 (hS _ _), D.2.1 3 j 6 (hS _ _), D.2.1 3 j 7 (hS _ _), D.2.1 3 j 8 (hS _ _), D.2.1 3 j 9 (hS _ _)]
  exact ⟨a1, a2, f, a3, a4, a5, a6⟩
def Hd (M : Mem) (n : Nat) (P : List Cl) : Prop := cR M 1 n 3 < 6 ∧ RepC M (cR M 1 n 3) P ∧ WfP P
theorem Hd.df {S : SetC} {M M' : Mem} {n : Nat} {P : List Cl} (h : Hd M n P) (D : Df S M M') (h1 : ¬ S 2 1 n 3) (hS : ∀ t j k, ¬ S t 3 j k) : Hd M' n P := by
  have e := D.2.2.1 1 n 3 h1
  unfold Hd
  rw [e]
  exact ⟨h.1, h.2.1.df D (fun _ _ => hS _ _ _), h.2.2⟩
theorem Hd.sc {M M' : Mem} {n m : Nat} {P : List Cl} (h : Hd M n P) (D : Df (scr m) M M') : Hd M' n P := h.df D (fun q => absurd q.1 (by decide)) (fun t j k q => absurd q.2.1 (by decide))
/-! what reads alone -/
theorem X5_hasBitG (d : Nat) (M : Mem) (x y : Int32) : XC (d + 1) jX5_hasBit [vI x, vI y] M = some (some (vI (if ((x >>> (y &&& 31)) &&& 1) = 0 then 0 else 1)), M) := by
  rw [E_X5_hasBit]
  simp only [B_X5_hasBit_12, B_X5_hasBit_13, zo_0, zo_1]
  split <;> rfl
theorem X5_hasBit (d : Nat) (M : Mem) {a k : Nat} (ha : a < 64) (hk : k < 6) : XC (d + 1) jX5_hasBit [vI (nI a), vI (nI k)] M = some (some (vI (if a.testBit k = true then 1 else 0)), M) := by
  rw [X5_hasBitG, bit_p ha hk]
  cases a.testBit k <;> rfl
theorem X1_singing (d n : Nat) (M : Mem) {B : Nat} {s : St} (hs : Wf B s) (h : Ch M n s) : XC (d + 1) jX1_singing [vR 1 n 0] M = some (some (vI (nI (siS s))), M) := by
  obtain ⟨hn, h6⟩ := hs.ns
  rw [E_X1_singing]
  have L := (loop_itr (fun i (z : Nat) => X d jX1_singing 4 [some (vR 1 n 0), some (vI (nI z)), some (vI (nI i))] [] M) (fun i z => if s (1 + i) = -1 then z else z ||| 2 ^ i) (fun _ z => z < 64) (nsS s) 0 (by decide) (fun i z hi hz => by
    try dsimp only
    rw [B_X1_singing_4, h.c0, hn]
    simp (disch := omega) only [ge_no, ob_no, ob_n2, cl_no, nI_1, le_self, zo_0, zo_1, bindI_some, bindV_some, bindL_some, ite_true, ite_false, if_true, if_false, or_true, true_or, shl_p, B_X1_singing_28, h.a8]
    split
    · exact ⟨rfl, hz⟩
    · rw [or_p hz (by omega)]; exact ⟨rfl, or_lt hz (by omega)⟩) (nsS s) (Nat.le_refl _)).1
  refine Eq.trans L ?_
  try dsimp only
  rw [B_X1_singing_4, h.c0, hn, le_self, B_X1_singing_34]
  rfl
theorem X1_countFallen (d n : Nat) (M : Mem) {B : Nat} {s : St} (hs : Wf B s) (h : Ch M n s) : XC (d + 1) jX1_countFallen [vR 1 n 0] M = some (some (vI (nI (faS s))), M) := by
  obtain ⟨hn, h6⟩ := hs.nt
  rw [E_X1_countFallen]
  refine Eq.trans (loop_all (fun i (z : Nat) => X d jX1_countFallen 4 [some (vR 1 n 0), some (vI (nI z)), some (vI (nI i))] [] M) (fun i z => z + (s (13 + i)).toNatClampNeg) (ntS s) 0 (fun i z hi => ?_)) ?_
  · try dsimp only
    rw [B_X1_countFallen_4, h.c1, hn]
    simp (disch := omega) only [ge_no, ob_no, ob_n2, cl_no, nI_1, le_self, zo_0, zo_1, bindI_some, bindV_some, bindL_some, ite_true, ite_false, if_true, if_false, or_true, true_or, h.a13]
    rw [← nI_add z, ← (hs.2.2.2.2.2.2.2.2.2.2.val (i := i) (by omega) (by decide)).1]
  · try dsimp only
    rw [B_X1_countFallen_4, h.c1, hn, le_self, B_X1_countFallen_27]; rfl
theorem X1_sumTired (d n : Nat) (M : Mem) {B : Nat} {s : St} (hs : Wf B s) (h : Ch M n s) : XC (d + 1) jX1_sumTired [vR 1 n 0] M = some (some (vI (nI (tiS s))), M) := by
  obtain ⟨hn, h6⟩ := hs.ns
  rw [E_X1_sumTired]
  refine Eq.trans (loop_all (fun i (z : Nat) => X d jX1_sumTired 4 [some (vR 1 n 0), some (vI (nI z)), some (vI (nI i))] [] M) (fun i z => z + (s (7 + i)).toNatClampNeg) (nsS s) 0 (fun i z hi => ?_)) ?_
  · try dsimp only
    rw [B_X1_sumTired_4, h.c0, hn]
    simp (disch := omega) only [ge_no, ob_no, ob_n2, cl_no, nI_1, le_self, zo_0, zo_1, bindI_some, bindV_some, bindL_some, ite_true, ite_false, if_true, if_false, or_true, true_or, h.a9]
    rw [← nI_add z, ← (hs.2.2.2.2.2.2.1.val (i := i) (by omega) (by decide)).1]
  · try dsimp only
    rw [B_X1_sumTired_4, h.c0, hn, le_self, B_X1_sumTired_27]; rfl
theorem X1_hangs (d n : Nat) (M : Mem) {s : St} (h : Ch M n s) {i : Nat} (hi : i < 6) : XC (d + 1) jX1_hangs [vR 1 n 0, vI (nI i)] M = some (some (vI (if hg s i then 1 else 0)), M) := by
  rw [E_X1_hangs]
  simp (disch := omega) only [ge_no, ob_no, ob_n2, cl_no, nI_1, le_self, zo_0, zo_1, bindI_some, bindV_some, bindL_some, ite_true, ite_false, if_true, if_false, or_true, true_or, B_X1_hangs_22, B_X1_hangs_23, h.a12, h.a13]
  by_cases h1 : s (75 + i) = 0
  · by_cases h2 : s (13 + i) = 0
    · rw [if_pos h1, if_pos h2, if_pos ⟨h1, h2⟩]
    · rw [if_pos h1, if_neg h2, if_neg (fun q => h2 q.2)]
  · rw [if_neg h1, if_neg (fun q => h1 q.1)]
theorem Wf.wt {B : Nat} {s : St} (hs : Wf B s) {i : Nat} (hi : i < 6) : s (69 + i) = nI (wtS s i) ∧ wtS s i ≤ 60 := hs.2.2.2.2.2.2.2.2.1.val hi (by decide)
theorem X1_sumHanging (d n : Nat) (M : Mem) {B : Nat} {s : St} (hs : Wf B s) (h : Ch M n s) : XC (d + 2) jX1_sumHanging [vR 1 n 0] M = some (some (vI (nI (haS s))), M) := by
  obtain ⟨hn, h6⟩ := hs.nt
  rw [E_X1_sumHanging]
  refine Eq.trans (loop_all (fun i (z : Nat) => X (d + 1) jX1_sumHanging 4 [some (vR 1 n 0), some (vI (nI z)), some (vI (nI i))] [] M) (fun i z => if hg s i then z + wtS s i else z) (ntS s) 0 (fun i z hi => ?_)) ?_
  · try dsimp only
    rw [B_X1_sumHanging_4, h.c1, hn]
    simp (disch := omega) only [ge_no, ob_no, ob_n2, cl_no, nI_1, le_self, zo_0, zo_1, bindI_some, bindV_some, bindL_some, ite_true, ite_false, if_true, if_false, or_true, true_or, X1_hangs _ _ _ h, B_X1_sumHanging_30, B_X1_sumHanging_31, h.a11]
    by_cases hc : hg s i
    · rw [if_pos hc, if_pos hc, ne_10, (hs.wt (i := i) (by omega)).1, nI_add]
    · rw [if_neg hc, if_neg hc, eq_00]
      have e0 : (0 : Int32) = nI 0 := rfl
      rw [e0, nI_add]; rfl
  · try dsimp only
    rw [B_X1_sumHanging_4, h.c1, hn, le_self, B_X1_sumHanging_39]; rfl
theorem or_0 (a : Nat) : nI a ||| 0 = nI a := by
  have : (0 : Int32) = nI 0 := rfl
  rw [this]
  exact Int32.or_zero
theorem X1_looseBits (d n : Nat) {all : Nat} (ha : all < 2 ^ 31) (M : Mem) {B : Nat} {s : St} (hs : Wf B s) (h : Ch M n s) : XC (d + 2) jX1_looseBits [vR 1 n 0, vI (nI all)] M = some (some (vI (nI (loS s all).1)), M) := by
  obtain ⟨hn, h6⟩ := hs.nt
  rw [E_X1_looseBits]
  have L := (loop_itr (fun i (z : Nat × Nat) => X (d + 1) jX1_looseBits 7 [some (vR 1 n 0), some (vI (nI all)), some (vI (nI z.1)), some (vI (nI z.2)), some (vI (nI i))] [] M) (fun i z => if hg s i then (if z.2 + wtS s i ≤ all then z.1 else z.1 ||| 2 ^ i, z.2 + wtS s i) else z) (fun i z => z.1 < 64 ∧ z.2 ≤ 60 * i) (ntS s) (0, 0) (by decide) (fun i z hi hz => by
    obtain ⟨hz, hz2⟩ := hz
    try dsimp only
    obtain ⟨w1, w2⟩ := hs.wt (i := i) (by omega)
    rw [B_X1_looseBits_7, h.c1, hn]
    simp (disch := omega) only [ge_no, ob_no, ob_n2, cl_no, nI_1, le_self, zo_0, zo_1, bindI_some, bindV_some, bindL_some, ite_true, ite_false, if_true, if_false, or_true, true_or, X1_hangs _ _ _ h, B_X1_looseBits_48, B_X1_looseBits_49, B_X1_looseBits_51, shl_p, h.a11]
    by_cases hc : hg s i
    · rw [if_pos hc, if_pos hc, ne_10, w1, nI_add]
      by_cases h2 : z.2 + wtS s i ≤ all
      · have h3 : nI (z.2 + wtS s i) ≤ nI all := (nI_leI (by omega) (by omega)).mpr h2
        simp only [if_pos h2, if_pos h3, or_0, true_and]; exact ⟨hz, by omega⟩
      · have h3 : ¬ nI (z.2 + wtS s i) ≤ nI all := fun q => h2 ((nI_leI (by omega) (by omega)).mp q)
        simp only [if_neg h2, if_neg h3, true_and]
        rw [or_p hz (by omega)]
        exact ⟨rfl, or_lt hz (by omega), by omega⟩
    · rw [if_neg hc, if_neg hc, eq_00]; exact ⟨rfl, hz, by omega⟩) (ntS s) (Nat.le_refl _)).1
  refine Eq.trans L ?_
  try dsimp only
  rw [B_X1_looseBits_7, h.c1, hn, le_self, B_X1_looseBits_57]; rfl
