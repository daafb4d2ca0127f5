/-! the reference: forces -/
def Rf (S : Nat → Nat → Prop) (M M' : Mem) : Prop := M'.1 = M.1 ∧ M'.2.2 = M.2.2 ∧ (∀ k, ¬ S 0 k → rI M' k = rI M k) ∧ (∀ k, ¬ S 1 k → rA M' k = rA M k)
theorem Rf.rf {S : Nat → Nat → Prop} {M : Mem} : Rf S M M := ⟨rfl, rfl, fun _ _ => rfl, fun _ _ => rfl⟩
theorem Rf.tr {S : Nat → Nat → Prop} {M M' M'' : Mem} (h : Rf S M M') (g : Rf S M' M'') : Rf S M M'' := ⟨g.1.trans h.1, g.2.1.trans h.2.1, fun k q => (g.2.2.1 k q).trans (h.2.2.1 k q), fun k q => (g.2.2.2 k q).trans (h.2.2.2 k q)⟩
theorem Rf.mono {S T : Nat → Nat → Prop} {M M' : Mem} (h : Rf S M M') (hST : ∀ t k, S t k → T t k) : Rf T M M' := ⟨h.1, h.2.1, fun k q => h.2.2.1 k (fun z => q (hST _ _ z)), fun k q => h.2.2.2 k (fun z => q (hST _ _ z))⟩
theorem Rf.A {S : Nat → Nat → Prop} {M : Mem} {k : Nat} {f : Nat → Int32} (h : S 1 k) : Rf S M (rsA M k f) := ⟨rfl, rfl, fun _ _ => rfl, fun k' q => rA_ne _ _ (fun e => q (e ▸ h))⟩
theorem Rf.I {S : Nat → Nat → Prop} {M : Mem} {k : Nat} {x : Int32} (h : S 0 k) : Rf S M (rsI M k x) := ⟨rfl, rfl, fun k' q => if_neg (fun e : k' = k => q (by rw [e]; exact h)), fun _ _ => rfl⟩
def RepR (s : St) (i : Nat) (P : List Cl) : Prop := s (225 + i) = nI (eaP P) ∧ s (230 + i) = nI (weP P) ∧ s (235 + i) = nI (stR P).length ∧ (stR P).length ≤ 140 ∧ ∀ k, (h : k < (stR P).length) → s (240 + 140 * i + k) = (stR P)[k]
def HdR (s : St) (P : List Cl) : Prop := WfP P ∧ ((s 26 = -1 ∧ P = []) ∨ ∃ i, i < 5 ∧ s 26 = nI i ∧ RepR s i P)
theorem X6_tellsOf (d : Nat) (M : Mem) {s : St} (hA : rA M 2 = s) (w : Nat) (hw : w < 900) (x : Int32) : XC (d + 1) jX6_tellsOf [vR 6 0 0, vI (nI w), vI x] M = if s 26 = -1 then some (some (vI x), M) else if nI w + s 26 < 0 ∨ 940 ≤ (nI w + s 26).toNatClampNeg then none else some (some (vI (s (nI w + s 26).toNatClampNeg)), M) := by
  rw [E_X6_tellsOf, hA]
  by_cases c : s 26 = -1
  · rw [if_pos c, if_pos c, B_X6_tellsOf_29]
  · rw [if_neg c, if_neg c, B_X6_tellsOf_15, hA, B_X6_tellsOf_29]
theorem X6_ease (d : Nat) (M : Mem) {s : St} (hA : rA M 2 = s) {P : List Cl} (hP : HdR s P) : XC (d + 1) jX6_tellsOf [vR 6 0 0, vI 225, vI 3] M = some (some (vI (nI (eaP P))), M) := by
  refine (X6_tellsOf d M hA 225 (by omega) 3).trans ?_
  rcases hP.2 with ⟨h1, rfl⟩ | ⟨i, hi, h1, h2⟩
  · rw [if_pos h1]; rfl
  · have n1 : ¬ nI i = -1 := fun q => absurd (q ▸ (by decide : (-1 : Int32) < 0)) (nI_pos (by omega))
    rw [h1, if_neg n1, nI_add, ob_no (by omega) (by omega), cl_no (by omega), h2.1]
theorem X6_weary (d : Nat) (M : Mem) {s : St} (hA : rA M 2 = s) {P : List Cl} (hP : HdR s P) : XC (d + 1) jX6_tellsOf [vR 6 0 0, vI 230, vI 1] M = some (some (vI (nI (weP P))), M) := by
  refine (X6_tellsOf d M hA 230 (by omega) 1).trans ?_
  rcases hP.2 with ⟨h1, rfl⟩ | ⟨i, hi, h1, h2⟩
  · rw [if_pos h1]; rfl
  · have n1 : ¬ nI i = -1 := fun q => absurd (q ▸ (by decide : (-1 : Int32) < 0)) (nI_pos (by omega))
    rw [h1, if_neg n1, nI_add, ob_no (by omega) (by omega), cl_no (by omega), h2.2.1]
theorem X6_looks (d : Nat) (M : Mem) {s : St} (hA : rA M 2 = s) {P : List Cl} (hP : HdR s P) {p : Nat} (hp : p < 6) : ∃ M', XC (d + 2) jX6_looks [vR 6 0 0, vI (nI p)] M = some (some (vI (iI (gnP (abS s p) P))), M') ∧ Rf (fun t k => t = 1 ∧ (k = 11 ∨ k = 12)) M M' := by
  rw [E_X6_looks]
  simp (disch := omega) only [ge_no, ob_no, ob_n2, cl_no, nI_1, le_self, zo_0, zo_1, bindI_some, bindV_some, bindL_some, ite_true, ite_false, if_true, if_false, or_true, true_or, la1, la7, la13, la27, la33, la39, la45, la69, la75, la81, la87, la93, la101, la109, la117, la125, la225, la230, la235, la240, rA_same, rA_ne, rsA_rsA, hA]
  generalize hF : upd (upd (upd (upd (upd (upd (rA M 11) 0 (nI p)) 1 (s (27 + p))) 2 (s (33 + p))) 3 (s (1 + p))) 4 (s (7 + p) / 10)) 5 (s 0 - s 0 / 10 * 10) = F
  have hab : ∀ k, k < 6 → F k = abS s p k := by
    intro k hk
    subst hF
    rcases (by omega : k = 0 ∨ k = 1 ∨ k = 2 ∨ k = 3 ∨ k = 4 ∨ k = 5) with rfl | rfl | rfl | rfl | rfl | rfl <;> simp [upd, abS]
  have hA2 : rA (rsA M 11 F) 2 = s := by rw [rA_ne _ _ (by omega), hA]
  have e235 := X6_tellsOf d (rsA M 11 F) hA2 235 (by omega) 0
  have e235' : XC (d + 1) jX6_tellsOf [vR 6 0 0, vI 235, vI 0] (rsA M 11 F) = _ := e235
  rw [e235']
  rcases hP.2 with ⟨h1, rfl⟩ | ⟨i, hi, h1, h2, h3, h4, h5, h6⟩
  · rw [if_pos h1, bindI_some]
    try dsimp only
    rw [hA2, h1]
    have e1 : (240 : Int32) + 140 * -1 = nI 100 := by decide +kernel
    have e2 : nI 100 + 0 ≤ nI 100 := by decide +kernel
    rw [e1, B_X6_looks_119, if_pos e2, B_X6_looks_425]
    exact ⟨_, rfl, Rf.A ⟨rfl, Or.inl rfl⟩⟩
  · have n1 : ¬ nI i = -1 := fun q => absurd (q ▸ (by decide : (-1 : Int32) < 0)) (nI_pos (by omega))
    rw [h1, if_neg n1, nI_add, ob_no (by omega) (by omega), cl_no (by omega), h4, bindI_some]
    try dsimp only
    rw [hA2, h1]
    have e1 : (240 : Int32) + 140 * nI i = nI (240 + 140 * i) := by
      rw [show (140 : Int32) = nI 140 from rfl, nI_mul, show (240 : Int32) = nI 240 from rfl, nI_add]
    rw [e1]
    obtain ⟨tr, e⟩ := look_prog (d + 1) (rsA M 11 F) hA2 (fr := 240 + 140 * i) (many := (stR P).length) (by omega) P (240 + 140 * i) 0 (rA (rsA M 11 F) 12) hP.1.2 (by omega) h6
    rw [rsA_self, rA_same] at e
    have e9 : X (d + 1) jX6_looks 119 [some (vR 6 0 0), none, some (vI 0), some (vI (nI (stR P).length)), some (vI (nI (240 + 140 * i))), some (vI 0), some (vI (nI (240 + 140 * i))), none, none, none, none] [] (rsA M 11 F) = _ := e
    rw [e9, B_X6_looks_119, nI_add, le_self, B_X6_looks_425]
    have eg : List.foldl (fun z c => gnC F c z) 0 P = gnP (abS s p) P := gnP_cg hab P
    rw [eg]
    exact ⟨_, rfl, (Rf.A ⟨rfl, Or.inl rfl⟩).tr (Rf.A ⟨rfl, Or.inr rfl⟩)⟩
