/-! the reference: small questions -/
theorem la1 (p : Nat) : (1 : Int32) + nI p = nI (1 + p) := nI_add 1 p
theorem la7 (p : Nat) : (7 : Int32) + nI p = nI (7 + p) := nI_add 7 p
theorem la13 (p : Nat) : (13 : Int32) + nI p = nI (13 + p) := nI_add 13 p
theorem la27 (p : Nat) : (27 : Int32) + nI p = nI (27 + p) := nI_add 27 p
theorem la33 (p : Nat) : (33 : Int32) + nI p = nI (33 + p) := nI_add 33 p
theorem la39 (p : Nat) : (39 : Int32) + nI p = nI (39 + p) := nI_add 39 p
theorem la45 (p : Nat) : (45 : Int32) + nI p = nI (45 + p) := nI_add 45 p
theorem la69 (p : Nat) : (69 : Int32) + nI p = nI (69 + p) := nI_add 69 p
theorem la75 (p : Nat) : (75 : Int32) + nI p = nI (75 + p) := nI_add 75 p
theorem la81 (p : Nat) : (81 : Int32) + nI p = nI (81 + p) := nI_add 81 p
theorem la87 (p : Nat) : (87 : Int32) + nI p = nI (87 + p) := nI_add 87 p
theorem la93 (p : Nat) : (93 : Int32) + nI p = nI (93 + p) := nI_add 93 p
theorem la101 (p : Nat) : (101 : Int32) + nI p = nI (101 + p) := nI_add 101 p
theorem la109 (p : Nat) : (109 : Int32) + nI p = nI (109 + p) := nI_add 109 p
theorem la117 (p : Nat) : (117 : Int32) + nI p = nI (117 + p) := nI_add 117 p
theorem la125 (p : Nat) : (125 : Int32) + nI p = nI (125 + p) := nI_add 125 p
theorem la225 (p : Nat) : (225 : Int32) + nI p = nI (225 + p) := nI_add 225 p
theorem la230 (p : Nat) : (230 : Int32) + nI p = nI (230 + p) := nI_add 230 p
theorem la235 (p : Nat) : (235 : Int32) + nI p = nI (235 + p) := nI_add 235 p
theorem la240 (p : Nat) : (240 : Int32) + nI p = nI (240 + p) := nI_add 240 p
theorem X6_in (d : Nat) (M : Mem) (x l h : Int32) : XC (d + 1) jX6_in [vI x, vI l, vI h] M = some (some (vI (if l ≤ x ∧ x ≤ h then 1 else 0)), M) := by
  rw [E_X6_in]
  by_cases a : x < l
  · rw [if_pos a, B_X6_in_14, B_X6_in_15, zo_0, if_neg (fun q => absurd (Int32.lt_of_lt_of_le a q.1) (Int32.lt_irrefl))]
  · rw [if_neg a]
    by_cases b : h < x
    · rw [if_pos b, B_X6_in_14, B_X6_in_15, zo_0, if_neg (fun q => absurd (Int32.lt_of_lt_of_le b q.2) (Int32.lt_irrefl))]
    · rw [if_neg b, B_X6_in_15, zo_1, if_pos ⟨Int32.not_lt.mp a, Int32.not_lt.mp b⟩]
theorem X6_doesSing (d : Nat) (M : Mem) {s : St} (hA : rA M 2 = s) {p : Nat} (hp : p < 6) : XC (d + 1) jX6_doesSing [vR 6 0 0, vI (nI p)] M = some (some (vI (if sg s p then 1 else 0)), M) := by
  rw [E_X6_doesSing]
  simp (disch := omega) only [ge_no, ob_no, ob_n2, cl_no, nI_1, le_self, zo_0, zo_1, bindI_some, bindV_some, bindL_some, ite_true, ite_false, if_true, if_false, or_true, true_or, la1, la7, la13, la27, la33, la39, la45, la69, la75, la81, la87, la93, la101, la109, la117, la125, la225, la230, la235, la240, hA, B_X6_doesSing_16, B_X6_doesSing_17]
  by_cases c : s (1 + p) = -1
  · rw [if_pos c, if_neg (fun q => q c)]
  · rw [if_neg c, if_pos c]
theorem X6_isTune (d : Nat) (M : Mem) (x y : Int32) : XC (d + 1) jX6_isTune [vI x, vI y] M = some (some (vI (if tuS x y = true then 1 else 0)), M) := by
  have key : ∀ e, X d jX6_isTune 14 [none, none, none, none] [vI e] M = some (some (vI (if decide (e - e / 12 * 12 = 0 ∨ e - e / 12 * 12 = 3 ∨ e - e / 12 * 12 = 4 ∨ e - e / 12 * 12 = 5 ∨ e - e / 12 * 12 = 7 ∨ e - e / 12 * 12 = 8 ∨ e - e / 12 * 12 = 9) = true then 1 else 0)), M) := by
    intro e
    rw [B_X6_isTune_14]
    simp only [B_X6_isTune_57, B_X6_isTune_61, B_X6_isTune_62, ge_no, ob_no, ob_n2, cl_no, nI_1, le_self, zo_0, zo_1, bindI_some, bindV_some, bindL_some, ite_true, ite_false, if_true, if_false, or_true, true_or, decide_eq_true_eq]
    generalize e - e / 12 * 12 = y
    by_cases c0 : y = 0
    · simp only [if_pos c0]; rw [if_pos (Or.inl c0)]
    by_cases c1 : y = 3
    · simp only [if_neg c0, if_pos c1]; rw [if_pos (Or.inr (Or.inl c1))]
    by_cases c2 : y = 4
    · simp only [if_neg c0, if_neg c1, if_pos c2]; rw [if_pos (Or.inr (Or.inr (Or.inl c2)))]
    by_cases c3 : y = 5
    · simp only [if_neg c0, if_neg c1, if_neg c2, if_pos c3]; rw [if_pos (Or.inr (Or.inr (Or.inr (Or.inl c3))))]
    by_cases c4 : y = 7
    · simp only [if_neg c0, if_neg c1, if_neg c2, if_neg c3, if_pos c4]; rw [if_pos (Or.inr (Or.inr (Or.inr (Or.inr (Or.inl c4)))))]
    by_cases c5 : y = 8
    · simp only [if_neg c0, if_neg c1, if_neg c2, if_neg c3, if_neg c4, if_pos c5]; rw [if_pos (Or.inr (Or.inr (Or.inr (Or.inr (Or.inr (Or.inl c5))))))]
    by_cases c6 : y = 9
    · simp only [if_neg c0, if_neg c1, if_neg c2, if_neg c3, if_neg c4, if_neg c5, if_pos c6]; rw [if_pos (Or.inr (Or.inr (Or.inr (Or.inr (Or.inr (Or.inr c6))))))]
    · simp only [if_neg c0, if_neg c1, if_neg c2, if_neg c3, if_neg c4, if_neg c5, if_neg c6]
      rw [if_neg]
      rintro (q | q | q | q | q | q | q)
      · exact c0 q
      · exact c1 q
      · exact c2 q
      · exact c3 q
      · exact c4 q
      · exact c5 q
      · exact c6 q
  rw [E_X6_isTune]
  unfold tuS
  by_cases c : y ≤ x
  · have c2 : ¬ x < y := Int32.not_lt.mpr c
    rw [if_pos c, B_X6_isTune_11, key]
    simp only [if_neg c2]
  · have c2 : x < y := Int32.not_le.mp c
    rw [if_neg c, key]
    simp only [if_pos c2]
theorem bit_1 {a k : Nat} (ha : a < 64) (h : k < 6) : ((nI a >>> (nI k &&& 31)) &&& 1) = 1 ↔ bt a k := by
  rw [bit_p ha h]
  unfold bt
  cases a.testBit k <;> decide
theorem X6_isOf (d : Nat) (M : Mem) {s : St} (hA : rA M 2 = s) {a p : Nat} (ha : a < 64) (hp : p < 6) : XC (d + 2) jX6_isOf [vR 6 0 0, vI (nI a), vI (nI p)] M = some (some (vI (if bt a p ∧ sg s p then 1 else 0)), M) := by
  rw [E_X6_isOf]
  by_cases b : bt a p
  · rw [if_pos ((bit_1 ha hp).mpr b), X6_doesSing d M hA hp, bindI_some]
    try dsimp only
    by_cases c : sg s p
    · rw [if_pos c, ne_10, B_X6_isOf_22, zo_1, if_pos ⟨b, c⟩]
    · rw [if_neg c, eq_00, B_X6_isOf_21, B_X6_isOf_22, zo_0, if_neg (fun q => c q.2)]
  · rw [if_neg (fun q => b ((bit_1 ha hp).mp q)), B_X6_isOf_21, B_X6_isOf_22, zo_0, if_neg (fun q => b q.1)]
theorem X6_tunesOf (d : Nat) (M : Mem) {B : Nat} {s : St} (hs : Wf B s) (hA : rA M 2 = s) {a p : Nat} (ha : a < 64) (hp : p < 6) : XC (d + 3) jX6_tunesOf [vR 6 0 0, vI (nI a), vI (nI p)] M = some (some (vI (nI (paS s a p))), M) := by
  obtain ⟨hn, h6⟩ := hs.ns
  rw [E_X6_tunesOf]
  refine Eq.trans (loop_all (fun i (z : Nat) => X (d + 2) jX6_tunesOf 5 [some (vR 6 0 0), some (vI (nI a)), some (vI (nI p)), some (vI (nI z)), some (vI (nI i))] [] M) (fun q z => if q ≠ p ∧ bt a q ∧ sg s q ∧ tuS (s (1 + p)) (s (1 + q)) = true then z + 1 else z) (nsS s) 0 (fun q z hi => ?_)) ?_
  · try dsimp only
    have z0 : nI z + 0 = nI z := nI_add z 0
    rw [B_X6_tunesOf_5, hA, hn]
    simp (disch := omega) only [ge_no, ob_no, ob_n2, cl_no, nI_1, le_self, zo_0, zo_1, bindI_some, bindV_some, bindL_some, ite_true, ite_false, if_true, if_false, or_true, true_or, la1, la7, la13, la27, la33, la39, la45, la69, la75, la81, la87, la93, la101, la109, la117, la125, la225, la230, la235, la240, X6_isOf _ _ hA, X6_isTune, hA]
    by_cases h1 : q = p
    · subst h1
      rw [if_pos rfl, if_neg (fun z => z.1 rfl), B_X6_tunesOf_61, B_X6_tunesOf_62, nI_1, z0]
    · rw [if_neg (nI_ne (by omega) (by omega) h1)]
      by_cases h2 : bt a q ∧ sg s q
      · rw [if_pos h2, ne_10]
        by_cases h4 : tuS (s (1 + p)) (s (1 + q)) = true
        · rw [if_pos h4, ne_10, if_pos ⟨h1, h2.1, h2.2, h4⟩, B_X6_tunesOf_62, nI_1, nI_1]
        · rw [if_neg h4, eq_00, if_neg (fun z => h4 z.2.2.2), B_X6_tunesOf_61, B_X6_tunesOf_62, nI_1, z0]
      · rw [if_neg h2, eq_00, if_neg (fun z => h2 ⟨z.2.1, z.2.2.1⟩), B_X6_tunesOf_61, B_X6_tunesOf_62, nI_1, z0]
  · try dsimp only
    rw [B_X6_tunesOf_5, hA, hn, le_self, B_X6_tunesOf_70]; rfl
/-- the reference's forces as measured -/
def FoR (M : Mem) (s : St) (f : Nat → Nat) : Prop := ∀ i, i < nsS s → rA M 13 i = nI (f i) ∧ f i ≤ 2100
theorem X6_bearsOf (d : Nat) (M : Mem) {B : Nat} {s : St} {f : Nat → Nat} (hs : Wf B s) (hA : rA M 2 = s) (hf : FoR M s f) {a p : Nat} (ha : a < 64) (hp : p < nsS s) : XC (d + 4) jX6_bearsOf [vR 6 0 0, vI (nI a), vI (nI p)] M = some (some (vI (nI (beS s f a p))), M) := by
  obtain ⟨hn, h6⟩ := hs.ns
  obtain ⟨f1, f2⟩ := hf p hp
  have hpa := paS_le s a p
  rw [E_X6_bearsOf, X6_isOf _ _ hA ha (by omega), bindI_some]
  try dsimp only
  by_cases c : bt a p ∧ sg s p
  · have e9 : beS s f a p = if paS s a p = 0 then f p / 2 else f p * paS s a p := if_pos c
    rw [if_pos c, ne_10, e9, B_X6_bearsOf_11, X6_tunesOf d M hs hA ha (by omega), bindI_some]
    simp (disch := omega) only [ge_no, ob_no, ob_n2, cl_no, nI_1, le_self, zo_0, zo_1, bindI_some, bindV_some, bindL_some, ite_true, ite_false, if_true, if_false, or_true, true_or, f1, B_X6_bearsOf_33, B_X6_bearsOf_41]
    by_cases h0 : paS s a p = 0
    · have e : nI (paS s a p) = 0 := by rw [h0]; rfl
      have e2 : (2 : Int32) = nI 2 := rfl
      rw [if_pos e, if_pos h0, e2, nI_div (by omega) (by omega) (by omega)]
    · rw [if_neg (nI_ne0 (by omega) (by omega)), if_neg h0, nI_mul]
  · have e9 : beS s f a p = 0 := if_neg c
    rw [if_neg c, eq_00, e9]; rfl
theorem X6_allBy (d : Nat) (M : Mem) {B : Nat} {s : St} {f : Nat → Nat} (hs : Wf B s) (hA : rA M 2 = s) (hf : FoR M s f) {a : Nat} (ha : a < 64) : XC (d + 5) jX6_allBy [vR 6 0 0, vI (nI a)] M = some (some (vI (nI (alS s f a))), M) := by
  obtain ⟨hn, h6⟩ := hs.ns
  rw [E_X6_allBy]
  refine Eq.trans (loop_all (fun i (z : Nat) => X (d + 4) jX6_allBy 4 [some (vR 6 0 0), some (vI (nI a)), some (vI (nI z)), some (vI (nI i))] [] M) (fun p z => z + beS s f a p) (nsS s) 0 (fun q z hi => ?_)) ?_
  · try dsimp only
    rw [B_X6_allBy_4, hA, hn, ge_no hi (by omega), X6_bearsOf d M hs hA hf ha hi, bindI_some]
    try dsimp only
    rw [nI_add, nI_1]
  · try dsimp only
    rw [B_X6_allBy_4, hA, hn, le_self, B_X6_allBy_30]; rfl
theorem X6_singing (d : Nat) (M : Mem) {B : Nat} {s : St} (hs : Wf B s) (hA : rA M 2 = s) : XC (d + 2) jX6_singing [vR 6 0 0] M = some (some (vI (nI (siS s))), M) := by
  obtain ⟨hn, h6⟩ := hs.ns
  rw [E_X6_singing]
  have L := (loop_itr (fun i (z : Nat) => X (d + 1) jX6_singing 4 [some (vR 6 0 0), some (vI (nI z)), some (vI (nI i))] [] M) (fun i z => if s (1 + i) = -1 then z else z ||| 2 ^ i) (fun _ z => z < 64) (nsS s) 0 (by decide) (fun i z hi hz => by
    try dsimp only
    rw [B_X6_singing_4, hA, hn, ge_no hi (by omega), X6_doesSing d M hA (by omega), bindI_some]
    try dsimp only
    by_cases c : s (1 + i) = -1
    · have n1 : (if sg s i then (1 : Int32) else 0) = 0 := if_neg (fun q => q c)
      rw [n1, if_pos c, eq_00, B_X6_singing_30, B_X6_singing_31, nI_1, or_0]
      exact ⟨rfl, hz⟩
    · have n1 : (if sg s i then (1 : Int32) else 0) = 1 := if_pos c
      rw [n1, if_neg c, ne_10, shl_p (by omega), B_X6_singing_31, nI_1, or_p hz (by omega)]
      exact ⟨rfl, or_lt hz (by omega)⟩) (nsS s) (Nat.le_refl _)).1
  refine Eq.trans L ?_
  try dsimp only
  rw [B_X6_singing_4, hA, hn, le_self, B_X6_singing_39]
  rfl
