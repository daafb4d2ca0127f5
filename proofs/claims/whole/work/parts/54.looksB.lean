/-! a whole program looked at -/
theorem look_end (d : Nat) (M : Mem) {s : St} (hA : rA M 2 = s) {fr many i : Nat} (z : Int) (hi : i < fr + many) (hf : fr + many ≤ 940) {w n : Nat} (hw : w = 2 ∨ w = 3) (hn : n ≤ 99) (he : s i = if w = 2 then iI (-10 - n) else iI (-200 - n)) {tr : Nat → Int32} {b : Bool} (hb : tr 0 = if b = true then 1 else 0) :
    X d jX6_looks 119 [some (vR 6 0 0), none, some (vI (iI z)), some (vI (nI many)), some (vI (nI fr)), some (vI (nI 1)), some (vI (nI i)), none, none, none, none] [] (rsA M 12 tr) = X d jX6_looks 119 [some (vR 6 0 0), none, some (vI (iI (if w = 2 ∧ b = true then z + n else if w = 3 ∧ b = true then z - n else z))), some (vI (nI many)), some (vI (nI fr)), some (vI (nI 0)), some (vI (nI (i + 1))), none, none, none, none] [] (rsA M 12 tr) := by
  rw [B_X6_looks_119, nI_add, ge_no hi (by omega)]
  simp (disch := omega) only [ge_no, ob_no, ob_n2, cl_no, nI_1, le_self, zo_0, zo_1, bindI_some, bindV_some, bindL_some, ite_true, ite_false, if_true, if_false, or_true, true_or, rA_same, rA_ne, rsA_rsA, hA, he]
  have a0 : (0 : Int32) = iI 0 := rfl
  have am1 : (-1 : Int32) = iI (-1) := rfl
  have am10 : (-10 : Int32) = iI (-10) := rfl
  have am200 : (-200 : Int32) = iI (-200) := rfl
  generalize hy : (if w = 2 then iI (-10 - n) else iI (-200 - n)) = y
  obtain ⟨t, ht, rfl, hw2, hw3⟩ : ∃ t : Int, (-300 ≤ t ∧ t ≤ -10) ∧ y = iI t ∧ (w = 2 → t = -10 - n) ∧ (w = 3 → t = -200 - n) := by
    rcases hw with rfl | rfl
    · exact ⟨-10 - n, by omega, by rw [← hy, if_pos rfl], fun _ => rfl, fun q => absurd q (by decide)⟩
    · exact ⟨-200 - n, by omega, by rw [← hy, if_neg (by decide)], fun q => absurd q (by decide), fun _ => rfl⟩
  have n1 : iI t < 0 := by rw [a0]; exact (iI_lt (by omega) (by omega) (by omega) (by omega)).mpr (by omega)
  have n2 : ¬ iI t = -1 := by
    intro q
    have := congrArg Int32.toInt q
    rw [am1, iI_toInt (by omega) (by omega), iI_toInt (by omega) (by omega)] at this
    omega
  have n3 : iI t ≤ -10 := by rw [am10]; exact (iI_le (by omega) (by omega) (by omega) (by omega)).mpr (by omega)
  have n4 : iI t ≤ -200 ↔ w = 3 := by
    rw [am200, iI_le (by omega) (by omega) (by omega) (by omega)]
    omega
  have n5 : (-200 : Int32) < iI t ↔ w = 2 := by
    rw [am200, iI_lt (by omega) (by omega) (by omega) (by omega)]
    omega
  rw [if_pos n1, B_X6_looks_236, if_neg n2, B_X6_looks_271, if_pos n3, B_X6_looks_357, rA_same, hb]
  have zz : nI 0 = 0 := rfl
  have zs : ∀ x : Int, iI x - 0 = iI x := fun x => by rw [a0, iI_sub, Int.sub_zero]
  have za : ∀ x : Int, iI x + 0 = iI x := fun x => by rw [a0, iI_add, Int.add_zero]
  cases b
  · have e : (if false = true then (1 : Int32) else 0) = 0 := if_neg (by decide)
    rw [e, if_pos rfl, B_X6_looks_390, B_X6_looks_391, if_pos rfl, B_X6_looks_416, B_X6_looks_417, B_X6_looks_419, nI_1, za, zs, if_neg (fun q => absurd q.2 (by decide)), if_neg (fun q => absurd q.2 (by decide)), zz]
  · have e : (if true = true then (1 : Int32) else 0) = 1 := if_pos rfl
    have e1 : ¬ (1 : Int32) = 0 := by decide
    rw [e, if_neg e1]
    rcases hw with rfl | rfl
    · rw [if_neg (fun q => absurd (n4.mp q) (by decide)), B_X6_looks_391, if_neg e1, if_pos (n5.mpr rfl), B_X6_looks_416, B_X6_looks_417, B_X6_looks_419, nI_1, if_pos ⟨rfl, rfl⟩, zz, am10, iI_sub, iI_add, zs, hw2 rfl, show z + (-10 - (-10 - (n : Int))) = z + n by omega]
    · rw [if_pos (n4.mpr rfl), B_X6_looks_390, B_X6_looks_391, if_neg e1, if_neg (fun q => absurd (n5.mp q) (by decide)), B_X6_looks_417, B_X6_looks_419, nI_1, if_neg (fun q => absurd q.1 (by decide)), if_pos ⟨rfl, rfl⟩, zz, za, am200, iI_sub, iI_sub, hw3 rfl, show z - (-200 - (-200 - (n : Int))) = z - n by omega]
theorem look_prog (d : Nat) (M : Mem) {s : St} (hA : rA M 2 = s) {fr many : Nat} (hf : fr + many ≤ 940) : ∀ (P : List Cl) (i : Nat) (z : Int) (tr : Nat → Int32), (∀ c, c ∈ P → tkC c) → i + (stR P).length ≤ fr + many → (∀ k, (h : k < (stR P).length) → s (i + k) = (stR P)[k]) →
    ∃ tr', X d jX6_looks 119 [some (vR 6 0 0), none, some (vI (iI z)), some (vI (nI many)), some (vI (nI fr)), some (vI (nI 0)), some (vI (nI i)), none, none, none, none] [] (rsA M 12 tr) = X d jX6_looks 119 [some (vR 6 0 0), none, some (vI (iI (P.foldl (fun z c => gnC (rA M 11) c z) z))), some (vI (nI many)), some (vI (nI fr)), some (vI (nI 0)), some (vI (nI (i + (stR P).length))), none, none, none, none] [] (rsA M 12 tr')
  | [], i, z, tr, _, _, _ => ⟨tr, rfl⟩
  | c :: P, i, z, tr, hP, hi, hs => by
    have hst : stR (c :: P) = stC c ++ stR P := rfl
    have hlen : (stR (c :: P)).length = (stC c).length + (stR P).length := by rw [hst, List.length_append]
    obtain ⟨t1, t2, t3⟩ := hP c (by simp)
    have rest : ∀ k, (h : k < (stR P).length) → s (i + (stC c).length + k) = (stR P)[k] := by
      intro k h
      have := hs ((stC c).length + k) (by omega)
      rw [show i + (stC c).length + k = i + ((stC c).length + k) by omega, this]
      simp only [hst]
      rw [List.getElem_append_right (by omega)]
      congr 1
      omega
    by_cases w : c.1 < 2
    · have e0 : stC c = [] := if_pos w
      have eg : gnC (rA M 11) c z = z := by
        unfold gnC
        rw [if_neg (fun q => by omega), if_neg (fun q => by omega)]
      rw [e0] at rest hlen
      obtain ⟨tr', e⟩ := look_prog d M hA hf P i z tr (fun c h => hP c (by simp [h])) (by simp only [List.length_nil] at hlen; omega) (fun k h => rest k h)
      refine ⟨tr', ?_⟩
      rw [e, List.foldl_cons, eg, hlen, List.length_nil, Nat.zero_add]
    · rw [if_neg w] at t3
      have ec : stC c = c.2.2.map enR ++ [if c.1 = 2 then iI (-10 - c.2.1) else iI (-200 - c.2.1)] := if_neg w
      have el : (stC c).length = c.2.2.length + 1 := by rw [ec]; simp
      have toks : ∀ k, (h : k < c.2.2.length) → s (i + k) = enR c.2.2[k] := by
        intro k h
        rw [hs k (by omega)]
        simp only [hst, ec]
        rw [List.getElem_append_left (by simp; omega), List.getElem_append_left (by simpa using h), List.getElem_map]
      have fin : s (i + c.2.2.length) = if c.1 = 2 then iI (-10 - c.2.1) else iI (-200 - c.2.1) := by
        rw [hs c.2.2.length (by omega)]
        simp only [hst, ec]
        rw [List.getElem_append_left (by simp), List.getElem_append_right (by simp)]
        simp
      obtain ⟨tr1, e1, T1, L1⟩ := look_all d M hA (fr := fr) (many := many) (iI z) hf c.2.2 i 1 [] tr (by omega) toks (by decide) t3 trivial
      have hb : tr1 0 = if hoP (rA M 11) c.2.2 = true then 1 else 0 := by
        unfold hoP
        match evL (rA M 11) c.2.2 [], T1, L1 with
        | [b], T1, _ => exact T1.1
      have e2 := look_end d M hA (fr := fr) (many := many) (i := i + c.2.2.length) z (by omega) hf (w := c.1) (n := c.2.1) (by omega) t2 fin hb
      obtain ⟨tr', e3⟩ := look_prog d M hA hf P (i + c.2.2.length + 1) (gnC (rA M 11) c z) tr1 (fun c h => hP c (by simp [h])) (by omega) (fun k h => by
        have := rest k h
        rw [el] at this
        exact this)
      refine ⟨tr', ?_⟩
      have e1' := e1
      rw [show ([] : List Bool).length = 0 from rfl] at e1'
      rw [e1', e2]
      refine Eq.trans e3 ?_
      rw [List.foldl_cons, hlen, el, show i + c.2.2.length + 1 + (stR P).length = i + (c.2.2.length + 1 + (stR P).length) by omega]
