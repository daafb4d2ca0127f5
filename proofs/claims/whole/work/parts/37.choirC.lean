/-! forces -/
theorem cA_ne (M : Mem) {c n k k' : Nat} (f : Nat → Int32) (h : ¬ k' = k) : cA (csA M c n k f) c n k' = cA M c n k' := if_neg (fun q => h q.2.2)
theorem csA_csA (M : Mem) (c n k : Nat) (f g : Nat → Int32) : csA (csA M c n k f) c n k g = csA M c n k g := by
  unfold csA
  congr 3
  funext a b e
  unfold u3
  try dsimp only
  split <;> rfl
theorem max_n (x : Int32) : (if 0 < x then x else 0) = nI x.toNatClampNeg := by
  by_cases h : 0 < x
  · rw [if_pos h]
    obtain ⟨j, h1, h2⟩ := nI_of (x := x) (fun q => absurd (Int32.lt_trans h q) (by decide))
    rw [h2, nI_clamp h1]
  · rw [if_neg h]
    have h3 : x.toInt ≤ 0 := Int32.le_iff_toInt_le.mp (Int32.not_lt.mp h)
    have h4 : x.toNatClampNeg = 0 := by
      show x.toInt.toNat = 0
      omega
    rw [h4]; rfl
theorem evT_cg {ab ac : Nat → Int32} (h : ∀ k, k < 6 → ab k = ac k) (t : Tok) (st : List Bool) : evT ab t st = evT ac t st := by
  unfold evT
  by_cases h1 : t.1 < 6
  · rw [if_pos h1, if_pos h1, h _ h1]
  · rw [if_neg h1, if_neg h1]
theorem evL_cg {ab ac : Nat → Int32} (h : ∀ k, k < 6 → ab k = ac k) (l : List Tok) (st : List Bool) : evL ab l st = evL ac l st := by
  have e : (fun (st : List Bool) (t : Tok) => evT ab t st) = fun st t => evT ac t st := by
    funext st t
    exact evT_cg h t st
  unfold evL
  rw [e]
theorem gnP_cg {ab ac : Nat → Int32} (h : ∀ k, k < 6 → ab k = ac k) (P : List Cl) : gnP ab P = gnP ac P := by
  unfold gnP
  congr 1
  funext z c
  unfold gnC hoP
  rw [evL_cg h]
theorem gnP_le (ab : Nat → Int32) {P : List Cl} (hP : WfP P) : -990 ≤ gnP ab P ∧ gnP ab P ≤ 990 := by
  have key : ∀ (l : List Cl) (z : Int) (k : Nat), (∀ c, c ∈ l → tkC c) → -(99 * k : Int) ≤ z → z ≤ 99 * k → -(99 * (k + l.length) : Int) ≤ l.foldl (fun z c => gnC ab c z) z ∧ l.foldl (fun z c => gnC ab c z) z ≤ 99 * (k + l.length) := by
    intro l
    induction l with
    | nil => intro z k _ h1 h2; simpa using ⟨h1, h2⟩
    | cons c l ih =>
      intro z k hc h1 h2
      have hn := (hc c (by simp)).2.1
      have := ih (gnC ab c z) (k + 1) (fun c h => hc c (by simp [h])) (by unfold gnC; split <;> (try split) <;> omega) (by unfold gnC; split <;> (try split) <;> omega)
      simp only [List.length_cons, List.foldl_cons]
      omega
  have := key P 0 0 hP.2 (by omega) (by omega)
  have h2 := hP.1
  unfold gnP
  omega
theorem strS_le {B : Nat} (hB : B < 2 ^ 30) {s : St} (hs : Wf B s) {p : Nat} (hp : p < 6) (hsg : sg s p) : ∃ k, k ≤ 40 ∧ strS s p = nI k := by
  obtain ⟨k, hk, ek⟩ := hs.2.2.1 p hp
  obtain ⟨v, hv, ev⟩ := hs.2.2.2.1 p hp
  rcases hs.note hp with hnt | ⟨t, ht, et⟩
  · exact absurd hnt hsg
  obtain ⟨b, hb, eb⟩ := hs.2.1 0 (by decide)
  obtain ⟨r, hr, er⟩ := hs.2.2.2.2.2.2.2.1 (4 * p + (s 0).toNatClampNeg % 4) (by omega)
  unfold strS
  rw [ek, ev, et, er]
  have a2 : (2 : Int32) = nI 2 := rfl
  have a8 : (8 : Int32) = nI 8 := rfl
  have a10 : (10 : Int32) = nI 10 := rfl
  have a23 : (23 : Int32) = nI 23 := rfl
  have a4 : (4 : Int32) = nI 4 := rfl
  have a12 : (12 : Int32) = nI 12 := rfl
  have a0 : (0 : Int32) = nI 0 := rfl
  rw [nI_sub (a := 23) (b := t) ht |> fun e => (a23 ▸ e : (23 : Int32) - nI t = _)]
  rw [show nI t / (2 : Int32) = nI (t / 2) from nI_div (a := t) (b := 2) (by omega) (by omega) (by omega), show nI (23 - t) / (4 : Int32) = nI (23 - t) / nI 4 from rfl, nI_div (a := 23 - t) (by omega) (by omega) (by omega)]
  have q1 : (8 : Int32) + nI (t / 2) = nI (8 + t / 2) := nI_add 8 _
  have q2 : (10 : Int32) + nI v = nI (10 + v) := nI_add 10 _
  rw [q1, q2, nI_add]
  split
  · split
    · exact ⟨12, by omega, rfl⟩
    · exact ⟨8, by omega, rfl⟩
  split
  · exact ⟨_, by omega, rfl⟩
  split
  · exact ⟨_, by omega, rfl⟩
  split
  · split
    · exact ⟨12 + (23 - t) / 4, by omega, nI_add 12 _⟩
    · exact ⟨8 + (23 - t) / 4, by omega, nI_add 8 _⟩
  split
  · split
    · exact ⟨0, by omega, rfl⟩
    · exact ⟨_, by omega, rfl⟩
  split
  · exact ⟨_, by omega, rfl⟩
  · exact ⟨10, by omega, rfl⟩
theorem foS_le {B : Nat} (hB : B < 2 ^ 30) {s : St} (hs : Wf B s) {P : List Cl} (hP : WfP P) {p : Nat} (hp : p < 6) : foS P s p ≤ 2100 := by
  unfold foS
  split
  · obtain ⟨k, hk, ek⟩ := strS_le hB hs hp ‹_›
    obtain ⟨t, ht, et⟩ := hs.2.2.2.2.2.2.1 p hp
    obtain ⟨g1, g2⟩ := gnP_le (abS s p) hP
    have a10 : (10 : Int32) = nI 10 := rfl
    rw [ek, et, a10, nI_div (by omega) (by omega) (by omega), ← iI_n, ← iI_n, iI_add, iI_sub, iI_cl (by omega) (by omega)]
    omega
  · omega
theorem X1_strengthOf (d n : Nat) (M : Mem) {B : Nat} (hB : B < 2 ^ 30) {s : St} (hs : Wf B s) (h : Ch M n s) {p : Nat} (hp : p < 6) : XC (d + 1) jX1_strengthOf [vR 1 n 0, vI (nI p)] M = some (some (vI (strS s p)), M) := by
  obtain ⟨v, hv, ev⟩ := hs.2.2.2.1 p hp
  obtain ⟨b, hb, eb⟩ := hs.2.1 0 (by decide)
  have key : ∀ s0, X d jX1_strengthOf 18 [some (vR 1 n 0), some (vI (nI p)), none, none, none, none] [vI s0] M = some (some (vI (if s (27 + p) = 1 then s0
  else if s (27 + p) = 2 then 8 + s (1 + p) / 2
  else if s (27 + p) = 3 then 10 + s (33 + p)
  else if s (27 + p) = 4 then s0 + (23 - s (1 + p)) / 4
  else if s (27 + p) = 5 then (if (s 0 + nI p) - (s 0 + nI p) / (s (33 + p) + 2) * (s (33 + p) + 2) = 0 then 0 else 8 + s (1 + p) / 2)
  else if s (27 + p) = 6 then 10 + s (33 + p) + s (45 + (4 * p + (s 0).toNatClampNeg % 4))
  else 10)), M) := by
    intro s0
    rw [B_X1_strengthOf_18]
    simp (disch := omega) only [ge_no, ob_no, ob_n2, cl_no, nI_1, le_self, zo_0, zo_1, bindI_some, bindV_some, bindL_some, ite_true, ite_false, if_true, if_false, or_true, true_or, h.a8, h.a6, h.a5]
    by_cases c1 : s (27 + p) = 1
    · rw [if_pos c1, if_pos c1, B_X1_strengthOf_96]
    rw [if_neg c1, if_neg c1]
    by_cases c2 : s (27 + p) = 2
    · rw [if_pos c2, if_pos c2, B_X1_strengthOf_98]
    rw [if_neg c2, if_neg c2]
    by_cases c3 : s (27 + p) = 3
    · rw [if_pos c3, if_pos c3, B_X1_strengthOf_100]
    rw [if_neg c3, if_neg c3]
    by_cases c4 : s (27 + p) = 4
    · rw [if_pos c4, if_pos c4, B_X1_strengthOf_103]
      simp (disch := omega) only [ge_no, ob_no, ob_n2, cl_no, nI_1, le_self, zo_0, zo_1, bindI_some, bindV_some, bindL_some, ite_true, ite_false, if_true, if_false, or_true, true_or, h.a8]
    rw [if_neg c4, if_neg c4]
    by_cases c5 : s (27 + p) = 5
    · rw [if_pos c5, if_pos c5, B_X1_strengthOf_117, h.c2]
      have e2 : s (33 + p) + 2 = nI (v + 2) := by rw [ev]; exact nI_add v 2
      have n1 : ¬ s (33 + p) + 2 ≤ 0 := by rw [e2]; exact nI_nle (by omega) (by omega)
      have n2 : ¬ s (33 + p) + 2 = 0 := by rw [e2]; exact nI_ne0 (by omega) (by omega)
      rw [if_neg n1, if_neg n2]
      split
      · rw [B_X1_strengthOf_139]
      · rw [B_X1_strengthOf_138, B_X1_strengthOf_139]
    rw [if_neg c5, if_neg c5]
    by_cases c6 : s (27 + p) = 6
    · rw [if_pos c6, if_pos c6, B_X1_strengthOf_140, h.c2]
      have e0 : s 0 = nI b := eb
      have a4 : (4 : Int32) = nI 4 := rfl
      rw [e0, a4, rem_n (by omega) (by omega) (by omega), nI_mul, nI_add, ob_no (by omega) (by omega), cl_no (by omega), cl_no (by omega), h.a10 (by omega), Nat.mul_comm p 4]
    · rw [if_neg c6, if_neg c6, B_X1_strengthOf_159]
  rw [E_X1_strengthOf, ob_no (by omega) (by omega), cl_no (by omega), h.a8 (by omega)]
  unfold strS
  by_cases h11 : 11 < s (1 + p)
  · have h12 : ¬ s (1 + p) ≤ 11 := Int32.not_le.mpr h11
    rw [if_pos h11, B_X1_strengthOf_16, key, if_neg h12]
  · have h12 : s (1 + p) ≤ 11 := Int32.not_lt.mp h11
    rw [if_neg h11, key, if_pos h12]
theorem X1_forceOf (d n : Nat) (M : Mem) {B : Nat} (hB : B < 2 ^ 30) {s : St} (hs : Wf B s) (h : Ch M n s) {P : List Cl} (hP : Hd M n P) {p : Nat} (hp : p < 6) (hsg : sg s p) : ∃ M', XC (d + 4) jX1_forceOf [vR 1 n 0, vI (nI p)] M = some (some (vI (nI (foS P s p))), M') ∧ Df (fun t c m k => t = 1 ∧ c = 1 ∧ m = n ∧ k = 15) M M' := by
  rw [E_X1_forceOf]
  simp (disch := omega) only [ge_no, ob_no, ob_n2, cl_no, nI_1, le_self, zo_0, zo_1, bindI_some, bindV_some, bindL_some, ite_true, ite_false, if_true, if_false, or_true, true_or, csA_csA, cA_same, cA_ne, cI_csA, cR_csA, h.a5, h.a6, h.a8, h.a9, h.c2]
  generalize hF : upd (upd (upd (upd (upd (upd (cA M 1 n 15) 0 (nI p)) 1 (s (27 + p))) 2 (s (33 + p))) 3 (s (1 + p))) 4 (s (7 + p) / 10)) 5 (s 0 - s 0 / 10 * 10) = F
  have D : Df (fun t c m k => t = 1 ∧ c = 1 ∧ m = n ∧ k = 15) M (csA M 1 n 15 F) := Df.csA ⟨rfl, rfl, rfl, rfl⟩
  have D2 : Df (scr n) M (csA M 1 n 15 F) := Df.csA ⟨rfl, rfl, rfl, Or.inr rfl⟩
  have hab : ∀ k, k < 6 → F k = abS s p k := by
    intro k hk
    subst hF
    rcases (by omega : k = 0 ∨ k = 1 ∨ k = 2 ∨ k = 3 ∨ k = 4 ∨ k = 5) with rfl | rfl | rfl | rfl | rfl | rfl <;> simp [upd, abS]
  have h2 := h.sc D2
  have hP2 := hP.sc D2
  rw [X1_strengthOf (d + 2) n _ hB hs h2 hp, bindI_some]
  try dsimp only
  have e1 : cR (csA M 1 n 15 F) 1 n 3 = cR M 1 n 3 := rfl
  rw [if_pos (e1 ▸ hP.1), X3_gainOf d _ n _ hP2.2.2 hP2.2.1, bindI_some, cA_same, gnP_cg hab, max_n]
  refine ⟨_, ?_, D⟩
  have e9 : foS P s p = (strS s p + iI (gnP (abS s p) P) - s (7 + p) / 10).toNatClampNeg := if_pos hsg
  rw [e9]
theorem X1_measure (d n : Nat) (M : Mem) {B : Nat} (hB : B < 2 ^ 30) {s : St} (hs : Wf B s) (h : Ch M n s) {P : List Cl} (hP : Hd M n P) : ∃ M', XC (d + 5) jX1_measure [vR 1 n 0] M = some (none, M') ∧ Df (scr n) M M' ∧ Fo M' n s (foS P s) := by
  obtain ⟨hn, h6⟩ := hs.ns
  rw [E_X1_measure]
  obtain ⟨M', e, D, F⟩ := loop_ex (fun i (M' : Mem) => X (d + 4) jX1_measure 2 [some (vR 1 n 0), some (vI (nI i))] [] M') (fun i M' => Df (scr n) M M' ∧ ∀ q, q < i → cA M' 1 n 14 q = nI (foS P s q)) (nsS s) M ⟨Df.rf, fun q hq => absurd hq (by omega)⟩ (fun i M1 hi I => by
    obtain ⟨D1, F1⟩ := I
    try dsimp only
    have h1 := h.sc D1
    have hP1 := hP.sc D1
    rw [B_X1_measure_2, h1.c0, hn, ge_no hi (by omega), ob_no (by omega) (by omega), cl_no (by omega), h1.a8 (by omega)]
    by_cases hsg : s (1 + i) = -1
    · rw [if_pos hsg, B_X1_measure_34]
      simp (disch := omega) only [ge_no, ob_no, ob_n2, cl_no, nI_1, le_self, zo_0, zo_1, bindI_some, bindV_some, bindL_some, ite_true, ite_false, if_true, if_false, or_true, true_or]
      refine ⟨_, rfl, D1.tr (Df.csA ⟨rfl, rfl, rfl, Or.inl rfl⟩), fun q hq => ?_⟩
      rw [cA_same]
      by_cases hqi : q = i
      · subst hqi
        have e0 : foS P s q = 0 := if_neg (fun z => z hsg)
        rw [e0]
        exact if_pos rfl
      · exact (if_neg hqi).trans (F1 q (by omega))
    · rw [if_neg hsg, B_X1_measure_29]
      obtain ⟨M2, e2, D2⟩ := X1_forceOf d n M1 hB hs h1 hP1 (p := i) (by omega) hsg
      rw [e2, bindI_some, B_X1_measure_34]
      simp (disch := omega) only [ge_no, ob_no, ob_n2, cl_no, nI_1, le_self, zo_0, zo_1, bindI_some, bindV_some, bindL_some, ite_true, ite_false, if_true, if_false, or_true, true_or]
      have D3 : Df (scr n) M1 M2 := D2.mono (fun t c m k ⟨a, b, e, f⟩ => ⟨a, b, e, Or.inr f⟩)
      refine ⟨_, rfl, (D1.tr D3).tr (Df.csA ⟨rfl, rfl, rfl, Or.inl rfl⟩), fun q hq => ?_⟩
      rw [cA_same]
      by_cases hqi : q = i
      · subst hqi
        exact if_pos rfl
      · refine (if_neg hqi).trans ?_
        rw [D2.2.1 1 n 14 (fun z => absurd z.2.2.2 (by decide))]
        exact F1 q (by omega))
  refine ⟨M', ?_, D, fun i hi => ⟨F i hi, foS_le hB hs hP.2.2 (by omega)⟩⟩
  refine Eq.trans e ?_
  try dsimp only
  rw [B_X1_measure_2, (h.sc D).c0, hn, le_self, B_X1_measure_41]
