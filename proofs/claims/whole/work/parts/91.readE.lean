/-! the class's reader: a whole setting -/
theorem pRe_go {pk : Nat → Int32} {N : Nat} (T : Tp pk N) (w q : Nat) : Go N q (pRe pk w q) := Go.bd (pNm_go T q) (fun q2 n _ => by
  by_cases e : w < 2
  · rw [if_pos e]; exact Go.st
  · rw [if_neg e]
    by_cases e2 : pk q2 = 32
    · rw [if_pos e2]
      have hq := T.in e2 (by decide)
      exact (Go.bd (pEi_go T (pFa_go T 5) (q2 + 1)) (fun q' l _ => Go.st)).up (Nat.le_succ _) hq
    · rw [if_neg e2]; exact Go.st)
theorem pCl_go {pk : Nat → Int32} {N : Nat} (T : Tp pk N) (q : Nat) : Go N q (pCl pk q) := by
  have go : ∀ w, w < 4 → Go N q (bd (pWd pk (wN w) q) fun q1 _ => pRe pk w q1) := fun w hw => Go.bd (pWd_go T (wN w) (wN_0 w hw) q) (fun q1 _ _ => pRe_go T w q1)
  rw [pCl_re]
  by_cases e1 : pk q = 100
  · rw [if_pos e1]; exact go 3 (by decide)
  · rw [if_neg e1]
    by_cases e2 : pk q = 101
    · rw [if_pos e2]; exact go 0 (by decide)
    · rw [if_neg e2]
      by_cases e3 : pk q = 108
      · rw [if_pos e3]; exact go 2 (by decide)
      · rw [if_neg e3]
        by_cases e4 : pk q = 119
        · rw [if_pos e4]; exact go 1 (by decide)
        · rw [if_neg e4]; exact Go.st
theorem pRe_wf {pk : Nat → Int32} {w q q' : Nat} {c : Cl} (hw : w ≤ 3) (h : pRe pk w q = (q', some c)) : tkC c := by
  obtain ⟨q1, n, h1, h⟩ := bd_some h
  have n9 := (pNm_some h1).2
  by_cases e : w < 2
  · rw [if_pos e] at h
    injection h with _ h
    injection h with h
    subst h
    refine ⟨hw, n9, ?_⟩
    show (if w < 2 then ([] : List Tok) = [] else tkL [] 0 1)
    rw [if_pos e]
  · rw [if_neg e] at h
    by_cases e2 : pk q1 = 32
    · rw [if_pos e2] at h
      obtain ⟨q2, l, h2, h⟩ := bd_some h
      have tt := (pEi_tg (pk := pk) (pFa_tg (pk := pk) 5) (q1 + 1) q2 l h2).2 0 (by decide)
      injection h with _ h
      injection h with h
      subst h
      refine ⟨hw, n9, ?_⟩
      show (if w < 2 then l = [] else tkL l 0 1)
      rw [if_neg e]
      exact tt
    · rw [if_neg e2] at h; cases h
theorem pCl_wf {pk : Nat → Int32} {q q' : Nat} {c : Cl} (h : pCl pk q = (q', some c)) : tkC c := by
  have go : ∀ w, w ≤ 3 → (bd (pWd pk (wN w) q) fun q1 _ => pRe pk w q1) = (q', some c) → tkC c := fun w hw h => by
    obtain ⟨q1, n, h1, h⟩ := bd_some h
    exact pRe_wf hw h
  rw [pCl_re] at h
  by_cases e1 : pk q = 100
  · rw [if_pos e1] at h; exact go 3 (by decide) h
  · rw [if_neg e1] at h
    by_cases e2 : pk q = 101
    · rw [if_pos e2] at h; exact go 0 (by decide) h
    · rw [if_neg e2] at h
      by_cases e3 : pk q = 108
      · rw [if_pos e3] at h; exact go 2 (by decide) h
      · rw [if_neg e3] at h
        by_cases e4 : pk q = 119
        · rw [if_pos e4] at h; exact go 1 (by decide) h
        · rw [if_neg e4] at h; cases h
theorem pSe_wf {pk : Nat → Int32} {N : Nat} : ∀ n q acc q' P, acc.length + n ≤ 9 → (∀ c, c ∈ acc → tkC c) → pSe pk N n q acc = (q', some P) → WfP P
  | 0, q, acc, q', P, hl, ha, h => by
    obtain ⟨q1, c, h1, h⟩ := bd_some h
    by_cases e : N ≤ q1
    · rw [if_pos e] at h
      injection h with _ h
      injection h with h
      subst h
      refine ⟨by rw [List.length_append]; show acc.length + 1 ≤ 10; omega, fun x hx => ?_⟩
      rcases List.mem_append.mp hx with hx | hx
      · exact ha x hx
      · rw [List.mem_singleton.mp hx]; exact pCl_wf h1
    · rw [if_neg e] at h; cases h
  | n + 1, q, acc, q', P, hl, ha, h => by
    obtain ⟨q1, c, h1, h⟩ := bd_some h
    have ha2 : ∀ x, x ∈ acc ++ [c] → tkC x := fun x hx => by
      rcases List.mem_append.mp hx with hx | hx
      · exact ha x hx
      · rw [List.mem_singleton.mp hx]; exact pCl_wf h1
    by_cases e : N ≤ q1
    · rw [if_pos e] at h
      injection h with _ h
      injection h with h
      subst h
      exact ⟨by rw [List.length_append]; show acc.length + 1 ≤ 10; omega, ha2⟩
    · rw [if_neg e] at h
      by_cases e2 : pk q1 = 59
      · rw [if_pos e2] at h
        exact pSe_wf n (q1 + 1) (acc ++ [c]) q' P (by rw [List.length_append]; show acc.length + 1 + n ≤ 9; omega) ha2 h
      · rw [if_neg e2] at h; cases h
theorem pSe_go {pk : Nat → Int32} {N : Nat} (T : Tp pk N) : ∀ n q acc, Go N q (pSe pk N n q acc)
  | 0, q, acc => Go.bd (pCl_go T q) (fun q1 c _ => by
    by_cases e : N ≤ q1
    · rw [if_pos e]; exact Go.st
    · rw [if_neg e]; exact Go.st)
  | n + 1, q, acc => Go.bd (pCl_go T q) (fun q1 c _ => by
    by_cases e : N ≤ q1
    · rw [if_pos e]; exact Go.st
    · rw [if_neg e]
      by_cases e2 : pk q1 = 59
      · rw [if_pos e2]
        exact (pSe_go T n (q1 + 1) (acc ++ [c])).up (Nat.le_succ _) (by omega)
      · rw [if_neg e2]; exact Go.st)
def SeC (M : Mem) (j : Nat) (r : Nat × Option (List Cl)) (x : Res) : Prop := match r with
  | (q', none) => ∃ M', x = some (some (vI (nI q')), M') ∧ Df (rd3 j) M M'
  | (q', some P) => ∃ M', x = some (some (vI (-1)), M') ∧ Df (rd3 j) M M' ∧ RepC M' j P
theorem seL_cls (d : Nat) {M : Mem} {N j : Nat} {g : Nat → Int32} (hj : j < 6) (hN : N ≤ 100) (hg : ∀ i, i < N → ∃ c, c ≤ 127 ∧ g i = nI c) : ∀ n q acc T M1, n ≤ 9 → acc.length = 9 - n → RC N j g M1 → RS M1 j q T M1 → RepU M1 j acc T.length → T.length ≤ q → q ≤ N → Df (rd3 j) M M1 → SeC M j (pSe (pkG g N) N n q acc) (X (d + 27) jX2_read 35 [some (vR 2 0 0), none, none, none, some (vI (nI (9 - n)))] [] M1)
  | 0, q, acc, T, M1, hn, ha, c, h, hU, hT, hq, D => by
    have o := clause_cls d c hj hN hg hU h (by omega) hq hT
    have gg := pCl_go (pkG_Tp hg) q
    have t10 : ¬ (10 : Int32) ≤ nI (9 - 0) := nI_ge (b := 10) (show 9 - 0 < 10 by decide) (by omega)
    rw [B_X2_read_35, if_neg t10]
    unfold pSe
    match hr : pCl (pkG g N) q, o with
    | (q1, none), o =>
      obtain ⟨M2, e, D2, h2⟩ := o
      refine ⟨M2, ?_, D.tr D2.r3⟩
      rw [e, bindI_some, if_pos rfl, h2]
    | (q1, some k), o =>
      obtain ⟨M2, L, e, D2, h2, hU2, hL⟩ := o
      rw [hr] at gg
      have c2 := c.df D2
      have hq1 : q1 ≤ N := gg.2 hq
      show SeC M j (if N ≤ q1 then (q1, some (acc ++ [k])) else (q1, none)) _
      rw [e, bindI_some, if_neg n10, B_X2_read_54, h2.2.1, c2.2.1]
      by_cases w : N ≤ q1
      · rw [if_pos w, if_neg (nI_nlt w (by omega))]
        exact ⟨M2, rfl, D.tr D2.r3, hU2.c (by omega)⟩
      · rw [if_neg w, if_pos (nI_lt (by omega) (by omega)), B_X2_read_67, if_pos (by decide), B_X2_read_83, h2.2.1]
        exact ⟨M2, rfl, D.tr D2.r3⟩
  | n + 1, q, acc, T, M1, hn, ha, c, h, hU, hT, hq, D => by
    have o := clause_cls d c hj hN hg hU h (by omega) hq hT
    have gg := pCl_go (pkG_Tp hg) q
    have t10 : ¬ (10 : Int32) ≤ nI (9 - (n + 1)) := nI_ge (b := 10) (show 9 - (n + 1) < 10 by omega) (by omega)
    rw [B_X2_read_35, if_neg t10]
    unfold pSe
    match hr : pCl (pkG g N) q, o with
    | (q1, none), o =>
      obtain ⟨M2, e, D2, h2⟩ := o
      refine ⟨M2, ?_, D.tr D2.r3⟩
      rw [e, bindI_some, if_pos rfl, h2]
    | (q1, some k), o =>
      obtain ⟨M2, L, e, D2, h2, hU2, hL⟩ := o
      rw [hr] at gg
      have c2 := c.df D2
      have hq1 : q1 ≤ N := gg.2 hq
      show SeC M j (if N ≤ q1 then (q1, some (acc ++ [k])) else if pkG g N q1 = 59 then pSe (pkG g N) N n (q1 + 1) (acc ++ [k]) else (q1, none)) _
      rw [e, bindI_some, if_neg n10, B_X2_read_54, h2.2.1, c2.2.1]
      by_cases w : N ≤ q1
      · rw [if_pos w, if_neg (nI_nlt w (by omega))]
        exact ⟨M2, rfl, D.tr D2.r3, hU2.c (by omega)⟩
      · have n9 : ¬ nI (9 - (n + 1)) = 9 := nI_ne (b := 9) (by omega) (by omega) (by omega)
        have tk := take_cls (d + 25) c2 hN h2 hq1 59
        rw [if_neg w, if_pos (nI_lt (by omega) (by omega)), B_X2_read_67, if_neg n9, tk]
        by_cases e2 : pkG g N q1 = 59
        · have ih := seL_cls d (M := M) hj hN hg n (q1 + 1) (acc ++ [k]) L (csI M2 2 0 2 (nI (q1 + 1))) (by omega) (by rw [List.length_append]; show acc.length + 1 = 9 - n; omega) (c2.df (Df.csI (Or.inl ⟨rfl, rfl, rfl, rfl⟩))) ⟨Df.rf, h2.adv.2⟩ (hU2.rs (L := []) h2 (by rw [List.append_nil]; exact h2.adv)) (by omega) (by omega) ((D.tr D2.r3).tr (Df.csI (Or.inl ⟨rfl, rfl⟩)))
          rw [if_pos e2, if_pos e2, bindI_some, if_neg n10, B_X2_read_88, nI_1, show 9 - (n + 1) + 1 = 9 - n by omega]
          exact ih
        · rw [if_neg e2, if_neg e2, bindI_some, if_pos rfl, B_X2_read_83, h2.2.1]
          exact ⟨M2, rfl, D.tr D2.r3⟩
theorem read_cls (d : Nat) {M : Mem} {N j : Nat} {g : Nat → Int32} (hj : j < 6) (hN : N ≤ 100) (hg : ∀ i, i < N → ∃ c, c ≤ 127 ∧ g i = nI c) (ht : ∀ i, i < 100 → cA M 4 0 6 i = g i) : SeC M j (pSe (pkG g N) N 9 0 []) (XC (d + 28) jX2_read [vR 2 0 0, vR 4 0 6, vI (nI N), vR 3 j 0] M) := by
  have l100 : ¬ (100 : Int32) < nI N := nI_nlt (a := 100) hN (by omega)
  have e1 : XC (d + 28) jX2_read [vR 2 0 0, vR 4 0 6, vI (nI N), vR 3 j 0] M = X (d + 27) jX2_read 35 [some (vR 2 0 0), none, none, none, some (vI (nI (9 - 9)))] [] (csI (csI (csI (csI (csR (csI (csI (csR M 2 0 0 0) 2 0 1 (nI N)) 2 0 2 0) 2 0 3 j) 3 j 0 0) 3 j 1 0) 3 j 2 3) 3 j 3 1) := by
    rw [E_X2_read, if_neg l100]
    try dsimp only
    rw [cR_same, if_pos hj, E_X3_clear]
    try dsimp only
    rw [bindV_some]
    rfl
  rw [e1]
  refine seL_cls d hj hN hg 9 0 [] [] _ (Nat.le_refl _) rfl ⟨?_, ?_, ?_, ?_⟩ ⟨Df.rf, ?_, ?_, ?_⟩ ⟨?_, ?_, ?_, ?_⟩ (Nat.le_refl _) (Nat.zero_le _) ?_
  · simp [cR_csI, cR_csR]
  · simp [cI_csI, cI_csR]
  · simp [cR_csI, cR_csR]
  · intro i hi
    simp only [cA_csI, cA_csR]
    exact ht i hi
  · simp [cI_csI, cI_csR]
    rfl
  · simp [cI_csI, cI_csR]
    rfl
  · intro k hk
    exact absurd hk (Nat.not_lt_zero k)
  · simp [cI_csI, cI_csR]
    rfl
  · simp [cI_csI, cI_csR]
    rfl
  · simp [cI_csI, cI_csR]
    rfl
  · intro k hk
    exact absurd hk (Nat.not_lt_zero k)
  · exact (((((((Df.csR (Or.inl ⟨rfl, rfl⟩)).tr (Df.csI (Or.inl ⟨rfl, rfl⟩))).tr (Df.csI (Or.inl ⟨rfl, rfl⟩))).tr (Df.csR (Or.inl ⟨rfl, rfl⟩))).tr (Df.csI (Or.inr ⟨rfl, rfl⟩))).tr (Df.csI (Or.inr ⟨rfl, rfl⟩))).tr (Df.csI (Or.inr ⟨rfl, rfl⟩))).tr (Df.csI (Or.inr ⟨rfl, rfl⟩))
