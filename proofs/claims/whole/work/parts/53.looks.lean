/-! the reference's looks: its steps are the program's -/
def enR (t : Tok) : Int32 := if t.1 < 6 then nI (t.1 + 8 * t.2.1 + 32 * t.2.2) else if t.1 = 6 then -1 else if t.1 = 7 then -2 else -3
def stC (c : Cl) : List Int32 := if c.1 < 2 then [] else c.2.2.map enR ++ [if c.1 = 2 then iI (-10 - c.2.1) else iI (-200 - c.2.1)]
def stR (P : List Cl) : List Int32 := P.flatMap stC
def TrR (t : Nat → Int32) : List Bool → Prop
  | [] => True
  | b :: r => t r.length = (if b = true then 1 else 0) ∧ TrR t r
theorem TrR.up {t : Nat → Int32} {j : Nat} {x : Int32} : ∀ {st : List Bool}, TrR t st → st.length ≤ j → TrR (upd t j x) st
  | [], _, _ => trivial
  | b :: r, h, hj => ⟨by
    rw [upd_ne (by simp only [List.length_cons] at hj; omega)]
    exact h.1, TrR.up h.2 (by simp only [List.length_cons] at hj; omega)⟩
theorem look_step (d : Nat) (M : Mem) {s : St} (hA : rA M 2 = s) {fr many i : Nat} (sum : Int32) (hi : i < fr + many) (hf : fr + many ≤ 940) {t : Tok} (he : s i = enR t) {st : List Bool} (hd : st.length ≤ 20) (ht : tkT t st.length) {tr : Nat → Int32} (hT : TrR tr st) :
    ∃ tr', X d jX6_looks 119 [some (vR 6 0 0), none, some (vI sum), some (vI (nI many)), some (vI (nI fr)), some (vI (nI st.length)), some (vI (nI i)), none, none, none, none] [] (rsA M 12 tr) = X d jX6_looks 119 [some (vR 6 0 0), none, some (vI sum), some (vI (nI many)), some (vI (nI fr)), some (vI (nI (evT (rA M 11) t st).length)), some (vI (nI (i + 1))), none, none, none, none] [] (rsA M 12 tr') ∧ TrR tr' (evT (rA M 11) t st) := by
  obtain ⟨w, h, v⟩ := t
  obtain ⟨t1, t2, t3, t4⟩ := ht
  dsimp only at t1 t2 t3 t4
  rw [B_X6_looks_119, nI_add, ge_no hi (by omega)]
  simp (disch := omega) only [ge_no, ob_no, ob_n2, cl_no, nI_1, le_self, zo_0, zo_1, bindI_some, bindV_some, bindL_some, ite_true, ite_false, if_true, if_false, or_true, true_or, rA_same, rA_ne, rsA_rsA, hA, he]
  by_cases hw : w < 6
  · have e1 : enR (w, h, v) = nI (w + 8 * h + 32 * v) := if_pos hw
    have a1 : (8 : Int32) = nI 8 := rfl
    have a2 : (4 : Int32) = nI 4 := rfl
    have a3 : (32 : Int32) = nI 32 := rfl
    have hp : ¬ nI (w + 8 * h + 32 * v) < 0 := nI_pos (by omega)
    rw [e1, if_neg hp, a1, a2, a3, rem_n (by omega) (by omega) (by omega), nI_div (a := w + 8 * h + 32 * v) (b := 8) (by omega) (by omega) (by omega), rem_n (by omega) (by omega) (by omega), nI_div (a := w + 8 * h + 32 * v) (b := 32) (by omega) (by omega) (by omega)]
    have q1 : (w + 8 * h + 32 * v) % 8 = w := by omega
    have q2 : (w + 8 * h + 32 * v) / 8 % 4 = h := by omega
    have q3 : (w + 8 * h + 32 * v) / 32 = v := by omega
    rw [q1, q2, q3]
    simp (disch := omega) only [ge_no, ob_no, ob_n2, cl_no, nI_1, le_self, zo_0, zo_1, bindI_some, bindV_some, bindL_some, ite_true, ite_false, if_true, if_false, or_true, true_or]
    have e2 : evT (rA M 11) (w, h, v) st = (if h = 0 then decide (rA M 11 w < nI v) else if h = 1 then decide (rA M 11 w = nI v) else decide (nI v < rA M 11 w)) :: st := if_pos hw
    have fin : ∀ (b : Bool) (x : Int32), x = (if b = true then 1 else 0) → X d jX6_looks 229 [some (vR 6 0 0), none, some (vI sum), some (vI (nI many)), some (vI (nI fr)), some (vI (nI st.length)), some (vI (nI i)), none, none, none, none] [vI x, vI (nI st.length), vR 6 0 12] (rsA M 12 tr) = X d jX6_looks 119 [some (vR 6 0 0), none, some (vI sum), some (vI (nI many)), some (vI (nI fr)), some (vI (nI (b :: st).length)), some (vI (nI (i + 1))), none, none, none, none] [] (rsA M 12 (upd tr st.length (if b = true then 1 else 0))) ∧ TrR (upd tr st.length (if b = true then 1 else 0)) (b :: st) := by
      intro b x hx
      subst hx
      rw [B_X6_looks_229, ob_no (by omega) (by omega), cl_no (by omega)]
      refine ⟨?_, upd_same, hT.up (Nat.le_refl _)⟩
      have z : (if b = true then (1 : Int32) else 0) = 0 ∨ (if b = true then (1 : Int32) else 0) = 1 := by cases b <;> decide
      rw [if_pos z]
      try dsimp only
      rw [B_X6_looks_419, nI_1, nI_1, rA_same, rsA_rsA]
      rfl
    rw [e2]
    by_cases c0 : h = 0
    · subst c0
      have e0 : nI 0 = 0 := rfl
      rw [if_pos e0, if_pos rfl]
      by_cases l : rA M 11 w < nI v
      · have l2 : ¬ nI v ≤ rA M 11 w := Int32.not_le.mpr l
        rw [if_neg l2, decide_eq_true l]
        exact ⟨_, fin true 1 rfl⟩
      · have l2 : nI v ≤ rA M 11 w := Int32.not_lt.mp l
        rw [if_pos l2, decide_eq_false l, B_X6_looks_192]
        exact ⟨_, fin false 0 rfl⟩
    · have n0 : ¬ nI h = 0 := nI_ne (b := 0) (by omega) (by omega) c0
      rw [if_neg n0, if_neg c0, B_X6_looks_196]
      by_cases c1 : h = 1
      · subst c1
        have e0 : nI 1 = 1 := rfl
        rw [if_pos e0, if_pos rfl]
        by_cases l : rA M 11 w = nI v
        · rw [if_pos l, decide_eq_true l]
          exact ⟨_, fin true 1 rfl⟩
        · rw [if_neg l, decide_eq_false l, B_X6_looks_213]
          exact ⟨_, fin false 0 rfl⟩
      · have n1 : ¬ nI h = 1 := nI_ne (b := 1) (by omega) (by omega) c1
        rw [if_neg n1, if_neg c1, B_X6_looks_217]
        by_cases l : nI v < rA M 11 w
        · have l2 : ¬ rA M 11 w ≤ nI v := Int32.not_le.mpr l
          rw [if_neg l2, decide_eq_true l]
          exact ⟨_, fin true 1 rfl⟩
        · have l2 : rA M 11 w ≤ nI v := Int32.not_lt.mp l
          rw [if_pos l2, decide_eq_false l, B_X6_looks_228]
          exact ⟨_, fin false 0 rfl⟩
  · rw [if_neg hw] at t4
    have e1 : enR (w, h, v) = if w = 6 then -1 else if w = 7 then -2 else -3 := if_neg hw
    have n1 : (-1 : Int32) < 0 := by decide
    have n2 : (-2 : Int32) < 0 := by decide
    have n3 : (-3 : Int32) < 0 := by decide
    have b1 : ∀ b : Bool, (if (if b = true then (1 : Int32) else 0) = 0 then False else True) ↔ b = true := by intro b; cases b <;> simp
    by_cases h6 : w = 6
    · subst h6
      rw [if_pos rfl] at t4
      match st, t4, hT, hd with
      | b :: r, _, hT, hd =>
        have hl : (b :: r).length = r.length + 1 := rfl
        have em : nI (b :: r).length - 1 = nI r.length := nI_sub (a := r.length + 1) (b := 1) (by omega)
        rw [e1, if_pos rfl, if_pos n1, B_X6_looks_236, if_pos rfl, em, ob_no (by omega) (by omega), cl_no (by omega), rA_same, hT.1]
        have e2 : evT (rA M 11) (6, h, v) (b :: r) = (!b) :: r := rfl
        rw [e2]
        cases b
        · have z9 : (if false = true then (1 : Int32) else 0) = 0 := if_neg (by decide)
          rw [z9, if_pos rfl, B_X6_looks_267, ob_no (by omega) (by omega), cl_no (by omega), zo_1]
          try dsimp only
          rw [B_X6_looks_419, nI_1, rA_same, rsA_rsA]
          exact ⟨_, rfl, upd_same, hT.2.up (Nat.le_refl _)⟩
        · rw [if_neg (by decide), B_X6_looks_266, B_X6_looks_267, ob_no (by omega) (by omega), cl_no (by omega), zo_0]
          try dsimp only
          rw [B_X6_looks_419, nI_1, rA_same, rsA_rsA]
          exact ⟨_, rfl, upd_same, hT.2.up (Nat.le_refl _)⟩
    · rw [if_neg h6] at t4
      match st, t4, hT, hd with
      | b :: a :: r, _, hT, hd =>
        have hl : (b :: a :: r).length = r.length + 2 := rfl
        have em : nI (b :: a :: r).length + (-1) = nI (r.length + 1) := by
          rw [hl, ← Int32.sub_eq_add_neg]
          exact nI_sub (a := r.length + 2) (b := 1) (by omega)
        have em2 : nI (r.length + 1) - 1 = nI r.length := nI_sub (a := r.length + 1) (b := 1) (by omega)
        have y1 : tr (r.length + 1) = (if b = true then 1 else 0) := hT.1
        have y2 : tr r.length = (if a = true then 1 else 0) := hT.2.1
        have fin : ∀ (c : Bool) (x : Int32), x = (if c = true then 1 else 0) → X d jX6_looks 353 [some (vR 6 0 0), none, some (vI sum), some (vI (nI many)), some (vI (nI fr)), some (vI (nI (r.length + 1))), some (vI (nI i)), none, none, none, none] [vI x, vI (nI r.length), vR 6 0 12] (rsA M 12 tr) = X d jX6_looks 119 [some (vR 6 0 0), none, some (vI sum), some (vI (nI many)), some (vI (nI fr)), some (vI (nI (c :: r).length)), some (vI (nI (i + 1))), none, none, none, none] [] (rsA M 12 (upd tr r.length (if c = true then 1 else 0))) ∧ TrR (upd tr r.length (if c = true then 1 else 0)) (c :: r) := by
          intro c x hx
          subst hx
          rw [B_X6_looks_353, ob_no (by omega) (by omega), cl_no (by omega)]
          refine ⟨?_, upd_same, hT.2.2.up (Nat.le_refl _)⟩
          have z : (if c = true then (1 : Int32) else 0) = 0 ∨ (if c = true then (1 : Int32) else 0) = 1 := by cases c <;> decide
          rw [if_pos z]
          try dsimp only
          rw [B_X6_looks_419, nI_1, rA_same, rsA_rsA]
          rfl
        by_cases h7 : w = 7
        · subst h7
          have n4 : ¬ (-2 : Int32) = -1 := by decide
          have n6 : ¬ (-2 : Int32) ≤ -10 := by decide
          rw [e1, if_neg h6, if_pos rfl, if_pos n2, B_X6_looks_236, if_neg n4, B_X6_looks_271, if_neg n6, em, B_X6_looks_281, if_pos rfl, em2]
          simp (disch := omega) only [ge_no, ob_no, ob_n2, cl_no, nI_1, le_self, zo_0, zo_1, bindI_some, bindV_some, bindL_some, ite_true, ite_false, if_true, if_false, or_true, true_or, rA_same, y1, y2]
          have e2 : evT (rA M 11) (7, h, v) (b :: a :: r) = (a && b) :: r := rfl
          rw [e2]
          cases a
          · simp only [Bool.false_eq_true, if_false, eq_00, B_X6_looks_322]
            exact ⟨_, fin _ 0 rfl⟩
          · cases b
            · simp only [Bool.false_eq_true, if_false, if_true, eq_00, ne_10, B_X6_looks_322]
              exact ⟨_, fin _ 0 rfl⟩
            · simp only [if_true, ne_10]
              exact ⟨_, fin _ 1 rfl⟩
        · have n4 : ¬ (-3 : Int32) = -1 := by decide
          have n5 : ¬ (-3 : Int32) = -2 := by decide
          have n6 : ¬ (-3 : Int32) ≤ -10 := by decide
          rw [e1, if_neg h6, if_neg h7, if_pos n3, B_X6_looks_236, if_neg n4, B_X6_looks_271, if_neg n6, em, B_X6_looks_281, if_neg n5, em2, B_X6_looks_326, em2]
          simp (disch := omega) only [ge_no, ob_no, ob_n2, cl_no, nI_1, le_self, zo_0, zo_1, bindI_some, bindV_some, bindL_some, ite_true, ite_false, if_true, if_false, or_true, true_or, rA_same, y1, y2]
          have e2 : evT (rA M 11) (w, h, v) (b :: a :: r) = (a || b) :: r := by
            simp [evT, hw, h6, h7]
          rw [e2]
          cases a
          · cases b
            · simp only [Bool.false_eq_true, if_false, eq_00, B_X6_looks_352]
              exact ⟨_, fin _ 0 rfl⟩
            · simp only [Bool.false_eq_true, if_false, if_true, eq_00, ne_10, B_X6_looks_348]
              exact ⟨_, fin _ 1 rfl⟩
          · simp only [if_true, ne_10, B_X6_looks_348]
            exact ⟨_, fin _ 1 rfl⟩
theorem look_all (d : Nat) (M : Mem) {s : St} (hA : rA M 2 = s) {fr many : Nat} (sum : Int32) (hf : fr + many ≤ 940) : ∀ (l : List Tok) (i e : Nat) (st : List Bool) (tr : Nat → Int32), i + l.length ≤ fr + many → (∀ k, (h : k < l.length) → s (i + k) = enR l[k]) → st.length ≤ 20 → tkL l st.length e → TrR tr st →
    ∃ tr', X d jX6_looks 119 [some (vR 6 0 0), none, some (vI sum), some (vI (nI many)), some (vI (nI fr)), some (vI (nI st.length)), some (vI (nI i)), none, none, none, none] [] (rsA M 12 tr) = X d jX6_looks 119 [some (vR 6 0 0), none, some (vI sum), some (vI (nI many)), some (vI (nI fr)), some (vI (nI e)), some (vI (nI (i + l.length))), none, none, none, none] [] (rsA M 12 tr') ∧ TrR tr' (evL (rA M 11) l st) ∧ (evL (rA M 11) l st).length = e
  | [], i, e, st, tr, _, _, _, ht, hT => ⟨tr, by rw [show st.length = e from ht]; rfl, hT, ht⟩
  | t :: l, i, e, st, tr, hi, hc, hd, ht, hT => by
    have hlen : (t :: l).length = l.length + 1 := rfl
    obtain ⟨tr1, e1, T1⟩ := look_step d M hA (fr := fr) (many := many) (i := i) sum (by omega) hf (t := t) (hc 0 (by omega)) hd ht.1 hT
    have hl := evT_len (ab := rA M 11) ht.1
    obtain ⟨tr2, e2, T2, L2⟩ := look_all d M hA sum hf l (i + 1) e (evT (rA M 11) t st) tr1 (by omega) (fun k h => by
      have := hc (k + 1) (by omega)
      rw [show i + 1 + k = i + (k + 1) by omega, this]
      rfl) (by rw [hl]; exact dpT_le ht.1 hd) (by rw [hl]; exact ht.2) T1
    refine ⟨tr2, ?_, T2, L2⟩
    rw [e1, e2, hlen, show i + 1 + l.length = i + (l.length + 1) by omega]
