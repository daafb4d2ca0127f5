/-! the class's setting: a program of clauses in the memory -/
def enC (t : Tok) : Int32 := if t.1 < 6 then nI (300 * t.1 + 100 * t.2.1 + t.2.2) else if t.1 = 6 then -1 else if t.1 = 7 then -2 else -3
def RepC (M : Mem) (j : Nat) (P : List Cl) : Prop := cI M 3 j 0 = nI P.length ∧ cI M 3 j 2 = nI (eaP P) ∧ cI M 3 j 3 = nI (weP P) ∧ ∀ c, (h : c < P.length) → cA M 3 j 5 c = nI P[c].1 ∧ cA M 3 j 6 c = nI P[c].2.1 ∧ ∃ f, f + P[c].2.2.length ≤ 100 ∧ cA M 3 j 7 c = nI f ∧ cA M 3 j 8 c = nI (f + P[c].2.2.length) ∧ ∀ k, (hk : k < P[c].2.2.length) → cA M 3 j 9 (f + k) = enC P[c].2.2[k]
theorem J6_compare (d : Nat) (x y : Int32) (M : Mem) : XC (d + 1) jJ6_compare_7cf53 [vI x, vI y] M = some (some (vI (if y ≤ x then (if x = y then 0 else 1) else -1)), M) := by
  rw [E_J6_compare_7cf53]
  by_cases h : y ≤ x
  · rw [if_pos h, if_pos h, B_J6_compare_7cf53_9]
    by_cases h2 : x = y
    · rw [if_pos h2, if_pos h2, B_J6_compare_7cf53_19]
    · rw [if_neg h2, if_neg h2, B_J6_compare_7cf53_18, B_J6_compare_7cf53_19]
  · rw [if_neg h, if_neg h, B_J6_compare_7cf53_19]
theorem sgn_h {h : Nat} (h2 : h ≤ 2) (x y : Int32) : ((if y ≤ x then (if x = y then 0 else 1) else -1) = nI h - 1) ↔ (if h = 0 then x < y else if h = 1 then x = y else y < x) := by
  rcases (by omega : h = 0 ∨ h = 1 ∨ h = 2) with rfl | rfl | rfl
  · have h9 : nI 0 - 1 = -1 := by decide
    rw [h9]
    by_cases a : y ≤ x
    · have : ¬ x < y := Int32.not_lt.mpr a
      by_cases b : x = y
      · simp [a, b]
      · simp [a, b, this]
    · have : x < y := Int32.not_le.mp a
      simp [a, this]
  · have h9 : nI 1 - 1 = 0 := by decide
    rw [h9]
    by_cases a : y ≤ x
    · by_cases b : x = y
      · simp [a, b]
      · simp [a, b]
    · have : ¬ x = y := fun q => a (q ▸ Int32.le_refl _)
      simp [a, this]
  · have h9 : nI 2 - 1 = 1 := by decide
    rw [h9]
    by_cases a : y ≤ x
    · by_cases b : x = y
      · subst b; simp [Int32.lt_irrefl]
      · have : y < x := Int32.lt_iff_le_and_ne.mpr ⟨a, fun q => b q.symm⟩
        simp [a, b, this]
    · have : ¬ y < x := fun q => a (Int32.le_of_lt q)
      simp [a, this]
/-- one token on the stack of bits -/
theorem hold_step (d j n : Nat) (c k : Nat) (t : Tok) (st : List Bool) (M : Mem) {hi : Nat} (hc : c < 10) (hk : k < hi) (hh : hi ≤ 100) (h8 : cA M 3 j 8 c = nI hi) (h9 : cA M 3 j 9 k = enC t) (hd : st.length ≤ 20) (ht : tkT t st.length) :
    X (d + 1) jX3_holds 10 [some (vR 3 j 0), some (vI (nI c)), some (vR 1 n 15), some (vI (nI (bv st))), some (vI (nI k)), none, none, none, none] [] M = X (d + 1) jX3_holds 10 [some (vR 3 j 0), some (vI (nI c)), some (vR 1 n 15), some (vI (nI (bv (evT (cA M 1 n 15) t st)))), some (vI (nI (k + 1))), none, none, none, none] [] M := by
  obtain ⟨w, h, v⟩ := t
  obtain ⟨t1, t2, t3, t4⟩ := ht
  dsimp only at t1 t2 t3 t4
  rw [B_X3_holds_10]
  simp (disch := omega) only [ge_no, ob_no, ob_n2, cl_no, nI_1, le_self, zo_0, zo_1, bindI_some, bindV_some, bindL_some, ite_true, ite_false, if_true, if_false, or_true, true_or, h8, h9]
  have hb : bv st < 2 ^ 20 := bv_lt st 20 hd
  by_cases hw : w < 6
  · have e1 : enC (w, h, v) = nI (300 * w + 100 * h + v) := if_pos hw
    have a1 : (300 : Int32) = nI 300 := rfl
    have a2 : (100 : Int32) = nI 100 := rfl
    have a3 : ((6 : Int32) - 1) = nI 5 := by decide
    have hp : ¬ nI (300 * w + 100 * h + v) < 0 := nI_pos (by omega)
    rw [e1, if_neg hp, a1, a2, a3, rem_n (by omega) (by omega) (by omega), rem_n (by omega) (by omega) (by omega), nI_div (by omega) (by omega) (by omega), nI_div (by omega) (by omega) (by omega)]
    have q1 : (300 * w + 100 * h + v) / 300 = w := by omega
    have q2 : (300 * w + 100 * h + v) % 100 = v := by omega
    have q3 : (300 * w + 100 * h + v) % 300 / 100 = h := by omega
    rw [q1, q2, q3]
    have q4 : ¬ nI 5 < nI w := nI_nlt (by omega) (by omega)
    simp (disch := omega) only [if_neg q4, ge_no, ob_no, ob_n2, cl_no, nI_1, le_self, zo_0, zo_1, bindI_some, bindV_some, bindL_some, ite_true, ite_false, if_true, if_false, or_true, true_or, J6_compare, nI_shl1]
    have q5 := sgn_h t1 (cA M 1 n 15 w) (nI v)
    have e2 : evT (cA M 1 n 15) (w, h, v) st = (if h = 0 then decide (cA M 1 n 15 w < nI v) else if h = 1 then decide (cA M 1 n 15 w = nI v) else decide (nI v < cA M 1 n 15 w)) :: st := if_pos hw
    rw [e2]
    by_cases q6 : (if nI v ≤ cA M 1 n 15 w then (if cA M 1 n 15 w = nI v then 0 else 1) else -1) = nI h - 1
    · have q7 := q5.mp q6
      rw [if_pos q6, B_X3_holds_93]
      have a4 : (1 : Int32) = nI 1 := rfl
      rw [a4, nI_push (by omega), B_X3_holds_137, nI_1]
      have e3 : (if h = 0 then decide (cA M 1 n 15 w < nI v) else if h = 1 then decide (cA M 1 n 15 w = nI v) else decide (nI v < cA M 1 n 15 w)) = true := by
        split at q7
        · rw [if_pos ‹_›]; exact decide_eq_true q7
        · rw [if_neg ‹_›]
          split at q7
          · rw [if_pos ‹_›]; exact decide_eq_true q7
          · rw [if_neg ‹_›]; exact decide_eq_true q7
      rw [e3]
      rfl
    · have q7 := fun q => q6 (q5.mpr q)
      rw [if_neg q6, B_X3_holds_92, B_X3_holds_93]
      have a4 : (0 : Int32) = nI 0 := rfl
      rw [a4, nI_push (by omega), B_X3_holds_137, nI_1]
      have e3 : (if h = 0 then decide (cA M 1 n 15 w < nI v) else if h = 1 then decide (cA M 1 n 15 w = nI v) else decide (nI v < cA M 1 n 15 w)) = false := by
        by_cases z : h = 0
        · rw [if_pos z] at q7 ⊢; exact decide_eq_false q7
        · rw [if_neg z] at q7 ⊢
          by_cases z2 : h = 1
          · rw [if_pos z2] at q7 ⊢; exact decide_eq_false q7
          · rw [if_neg z2] at q7 ⊢; exact decide_eq_false q7
      rw [e3]
      rfl
  · rw [if_neg hw] at t4
    have e1 : enC (w, h, v) = if w = 6 then -1 else if w = 7 then -2 else -3 := if_neg hw
    have n1 : (-1 : Int32) < 0 := by decide
    have n2 : (-2 : Int32) < 0 := by decide
    have n3 : (-3 : Int32) < 0 := by decide
    by_cases h6 : w = 6
    · subst h6
      rw [e1, if_pos rfl, if_pos n1, B_X3_holds_98, if_pos rfl, B_X3_holds_137, nI_1, nI_not]
      rw [if_pos rfl] at t4
      match st, t4 with
      | b :: r, _ =>
        have e2 : evT (cA M 1 n 15) (6, h, v) (b :: r) = (!b) :: r := rfl
        rw [e2, bv_mod]
        have e3 : (if cond b 1 0 = 1 then bv (b :: r) - 1 else bv (b :: r) + 1) = bv ((!b) :: r) := by
          cases b
          · simp [bv]
          · simp [bv]
        rw [e3]
    · rw [if_neg h6] at t4
      match st, t4, hb with
      | b :: a :: r, _, hb =>
        have m1 : bv (b :: a :: r) % 2 = cond b 1 0 := bv_mod b _
        have m2 : bv (b :: a :: r) / 2 = bv (a :: r) := bv_div b _
        have hb2 : bv (a :: r) < 2 ^ 20 := by omega
        have hc2 : (cond b 1 0 : Nat) < 2 := by cases b <;> decide
        by_cases h7 : w = 7
        · subst h7
          have n4 : ¬ (-2 : Int32) = -1 := by decide
          rw [e1, if_neg h6, if_pos rfl, if_pos n2, B_X3_holds_98, if_neg n4, B_X3_holds_111, if_pos rfl, nI_low, nI_shr1 (by omega), m1, m2, nI_top hc2 (by omega), B_X3_holds_136, B_X3_holds_137, nI_1]
          have e2 : evT (cA M 1 n 15) (7, h, v) (b :: a :: r) = (a && b) :: r := rfl
          rw [e2]
          have e3 : (if (cond b 1 0 : Nat) = 1 then bv (a :: r) else bv (a :: r) - bv (a :: r) % 2) = bv ((a && b) :: r) := by
            rw [bv_mod]
            cases a <;> cases b <;> simp [bv]
          rw [e3]
        · have n4 : ¬ (-3 : Int32) = -1 := by decide
          have n5 : ¬ (-3 : Int32) = -2 := by decide
          rw [e1, if_neg h6, if_neg h7, if_pos n3, B_X3_holds_98, if_neg n4, B_X3_holds_111, if_neg n5, nI_low, nI_shr1 (by omega), m1, m2, B_X3_holds_132, nI_ort hc2, B_X3_holds_136, B_X3_holds_137, nI_1]
          have h5 : ¬ w < 6 := hw
          have e2 : evT (cA M 1 n 15) (w, h, v) (b :: a :: r) = (a || b) :: r := by
            simp [evT, hw, h6, h7]
          rw [e2]
          have e3 : (if (cond b 1 0 : Nat) = 1 then bv (a :: r) - bv (a :: r) % 2 + 1 else bv (a :: r)) = bv ((a || b) :: r) := by
            rw [bv_mod]
            cases a <;> cases b <;> simp [bv]
          rw [e3]
theorem evT_len {ab : Nat → Int32} {t : Tok} {st : List Bool} (h : tkT t st.length) : (evT ab t st).length = dpT t st.length := by
  obtain ⟨w, a, v⟩ := t
  obtain ⟨_, _, _, h4⟩ := h
  dsimp only at h4
  by_cases h6 : w < 6
  · simp [evT, dpT, h6]
  · rw [if_neg h6] at h4
    by_cases h7 : w = 6
    · subst h7
      rw [if_pos rfl] at h4
      match st, h4 with
      | b :: r, _ => simp [evT, dpT]
    · rw [if_neg h7] at h4
      match st, h4 with
      | b :: a :: r, _ => simp [evT, dpT, h6, h7]
theorem dpT_le {t : Tok} {d : Nat} (h : tkT t d) (hd : d ≤ 20) : dpT t d ≤ 20 := by
  obtain ⟨_, _, _, h4⟩ := h
  unfold dpT
  split
  · rw [if_pos ‹_›] at h4; omega
  · split <;> omega
theorem hold_all (d j n c : Nat) (M : Mem) {hi : Nat} (hc : c < 10) (hh : hi ≤ 100) (h8 : cA M 3 j 8 c = nI hi) : ∀ (l : List Tok) (k e : Nat) (st : List Bool), k + l.length = hi → (∀ i, (h : i < l.length) → cA M 3 j 9 (k + i) = enC l[i]) → st.length ≤ 20 → tkL l st.length e →
    X (d + 1) jX3_holds 10 [some (vR 3 j 0), some (vI (nI c)), some (vR 1 n 15), some (vI (nI (bv st))), some (vI (nI k)), none, none, none, none] [] M = X (d + 1) jX3_holds 10 [some (vR 3 j 0), some (vI (nI c)), some (vR 1 n 15), some (vI (nI (bv (evL (cA M 1 n 15) l st)))), some (vI (nI hi)), none, none, none, none] [] M ∧ (evL (cA M 1 n 15) l st).length = e
  | [], k, e, st, hk, _, _, ht => by
    have : k = hi := hk
    subst this
    exact ⟨rfl, ht⟩
  | t :: l, k, e, st, hk, hcode, hd, ht => by
    have h9 : cA M 3 j 9 k = enC t := hcode 0 (by simp)
    have hlen : (t :: l).length = l.length + 1 := rfl
    rw [hold_step d j n c k t st M hc (by omega) hh h8 h9 hd ht.1]
    have hl := evT_len (ab := cA M 1 n 15) ht.1
    refine hold_all d j n c M hc hh h8 l (k + 1) e _ (by omega) (fun i h => ?_) (by rw [hl]; exact dpT_le ht.1 hd) (by rw [hl]; exact ht.2)
    have := hcode (i + 1) (by omega)
    rw [show k + 1 + i = k + (i + 1) by omega, this]
    rfl
theorem X3_holds (d j n c : Nat) (M : Mem) {f : Nat} {l : List Tok} (hc : c < 10) (hh : f + l.length ≤ 100) (h7 : cA M 3 j 7 c = nI f) (h8 : cA M 3 j 8 c = nI (f + l.length)) (h9 : ∀ k, (hk : k < l.length) → cA M 3 j 9 (f + k) = enC l[k]) (ht : tkL l 0 1) : XC (d + 2) jX3_holds [vR 3 j 0, vI (nI c), vR 1 n 15] M = some (some (vI (if hoP (cA M 1 n 15) l = true then 1 else 0)), M) := by
  rw [E_X3_holds]
  simp (disch := omega) only [ge_no, ob_no, ob_n2, cl_no, nI_1, le_self, zo_0, zo_1, bindI_some, bindV_some, bindL_some, ite_true, ite_false, if_true, if_false, or_true, true_or, h7]
  have e0 : (0 : Int32) = nI (bv []) := rfl
  rw [e0]
  obtain ⟨e1, e2⟩ := hold_all d j n c M hc hh h8 l f 1 [] rfl h9 (by decide) ht
  rw [e1, B_X3_holds_10]
  simp (disch := omega) only [ge_no, ob_no, ob_n2, cl_no, nI_1, le_self, zo_0, zo_1, bindI_some, bindV_some, bindL_some, ite_true, ite_false, if_true, if_false, or_true, true_or, h8]
  rw [B_X3_holds_143, nI_low]
  unfold hoP
  match evL (cA M 1 n 15) l [], e2 with
  | [b], _ =>
    cases b
    · rw [if_pos (by decide), B_X3_holds_153, B_X3_holds_154]; rfl
    · rw [if_neg (by decide), B_X3_holds_154]; rfl
theorem X3_gainOf (d j n : Nat) (M : Mem) {P : List Cl} (hP : WfP P) (h : RepC M j P) : XC (d + 3) jX3_gainOf [vR 3 j 0, vR 1 n 15] M = some (some (vI (iI (gnP (cA M 1 n 15) P))), M) := by
  rw [E_X3_gainOf]
  obtain ⟨h0, h1, h2, h3⟩ := h
  obtain ⟨hl, hw⟩ := hP
  have key : ∀ k, k ≤ P.length → X (d + 2) jX3_gainOf 4 [some (vR 3 j 0), some (vR 1 n 15), some (vI 0), some (vI 0)] [] M = X (d + 2) jX3_gainOf 4 [some (vR 3 j 0), some (vR 1 n 15), some (vI (iI (gnP (cA M 1 n 15) (P.take k)))), some (vI (nI k))] [] M := by
    intro k
    induction k with
    | zero => intro _; rfl
    | succ k ih =>
      intro hk
      rw [ih (by omega), B_X3_gainOf_4, h0]
      obtain ⟨a1, a2, f, a3, a4, a5, a6⟩ := h3 k (by omega)
      obtain ⟨b1, b2, b3⟩ := hw P[k] (List.getElem_mem (by omega))
      have e1 : gnP (cA M 1 n 15) (P.take (k + 1)) = gnC (cA M 1 n 15) P[k] (gnP (cA M 1 n 15) (P.take k)) := by
        unfold gnP
        rw [List.take_succ_eq_append_getElem (by omega), List.foldl_append]
        rfl
      rw [e1]
      generalize gnP (cA M 1 n 15) (P.take k) = z
      have hL := fun (q : ¬ P[k].1 < 2) => X3_holds d j n k M (f := f) (l := P[k].2.2) (by omega) a3 a4 a5 a6 (by rw [if_neg q] at b3; exact b3)
      simp (disch := omega) only [ge_no, ob_no, ob_n2, cl_no, nI_1, le_self, zo_0, zo_1, bindI_some, bindV_some, bindL_some, ite_true, ite_false, if_true, if_false, or_true, true_or, a1, a2]
      unfold gnC
      have c2 : (2 : Int32) = nI 2 := rfl
      have c3 : (3 : Int32) = nI 3 := rfl
      by_cases w2 : P[k].1 = 2
      · have n2 : nI P[k].1 = 2 := by rw [w2]; rfl
        rw [if_pos n2, hL (by omega)]
        by_cases q : hoP (cA M 1 n 15) P[k].2.2 = true
        · rw [if_pos q, if_pos ⟨w2, q⟩]
          simp (disch := omega) only [ge_no, ob_no, ob_n2, cl_no, nI_1, le_self, zo_0, zo_1, bindI_some, bindV_some, bindL_some, ite_true, ite_false, if_true, if_false, or_true, true_or, a2, ne_10]
          rw [B_X3_gainOf_71, nI_1, ← iI_n, iI_add]
        · rw [if_neg q, if_neg (fun z => q z.2), if_neg (fun z => q z.2)]
          simp (disch := omega) only [ge_no, ob_no, ob_n2, cl_no, nI_1, le_self, zo_0, zo_1, bindI_some, bindV_some, bindL_some, ite_true, ite_false, if_true, if_false, or_true, true_or, eq_00]
          rw [B_X3_gainOf_43]
          have n3 : ¬ nI P[k].1 = 3 := by rw [w2]; decide
          simp (disch := omega) only [ge_no, ob_no, ob_n2, cl_no, nI_1, le_self, zo_0, zo_1, bindI_some, bindV_some, bindL_some, ite_true, ite_false, if_true, if_false, or_true, true_or, a1, if_neg n3]
          rw [B_X3_gainOf_71, nI_1]
      · have n2 : ¬ nI P[k].1 = 2 := by rw [c2]; exact fun z => w2 ((nI_eq (by omega) (by omega)).mp z)
        rw [if_neg n2, if_neg (fun z => w2 z.1), B_X3_gainOf_43]
        by_cases w3 : P[k].1 = 3
        · have n3 : nI P[k].1 = 3 := by rw [w3]; rfl
          simp (disch := omega) only [ge_no, ob_no, ob_n2, cl_no, nI_1, le_self, zo_0, zo_1, bindI_some, bindV_some, bindL_some, ite_true, ite_false, if_true, if_false, or_true, true_or, a1]
          rw [if_pos n3, hL (by omega)]
          by_cases q : hoP (cA M 1 n 15) P[k].2.2 = true
          · rw [if_pos q, if_pos ⟨w3, q⟩]
            simp (disch := omega) only [ge_no, ob_no, ob_n2, cl_no, nI_1, le_self, zo_0, zo_1, bindI_some, bindV_some, bindL_some, ite_true, ite_false, if_true, if_false, or_true, true_or, a2, ne_10]
            rw [B_X3_gainOf_71, nI_1, ← iI_n, iI_sub]
          · rw [if_neg q, if_neg (fun z => q z.2)]
            simp (disch := omega) only [ge_no, ob_no, ob_n2, cl_no, nI_1, le_self, zo_0, zo_1, bindI_some, bindV_some, bindL_some, ite_true, ite_false, if_true, if_false, or_true, true_or, eq_00]
            rw [B_X3_gainOf_71, nI_1]
        · have n3 : ¬ nI P[k].1 = 3 := by rw [c3]; exact fun z => w3 ((nI_eq (by omega) (by omega)).mp z)
          simp (disch := omega) only [ge_no, ob_no, ob_n2, cl_no, nI_1, le_self, zo_0, zo_1, bindI_some, bindV_some, bindL_some, ite_true, ite_false, if_true, if_false, or_true, true_or, a1, if_neg n3]
          rw [if_neg (fun z => w3 z.1), B_X3_gainOf_71, nI_1]
  rw [key P.length (Nat.le_refl _), B_X3_gainOf_4, h0, le_self, B_X3_gainOf_77, List.take_length]
