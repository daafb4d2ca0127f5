/-! the k-th lightest, order -/
theorem lt6 (x : Int32) : x < 6 ↔ x ≤ 5 := by
  rw [Int32.lt_iff_toInt_lt, Int32.le_iff_toInt_le]
  have h5 : (6 : Int32).toInt = 6 := by decide
  have h4 : (5 : Int32).toInt = 5 := by decide
  omega
theorem lightest_in (d : Nat) {B : Nat} {s : St} {N : Mem} (hs : Wf B s) (hN : rA N 2 = s) (k : Int32) {q : Nat} (hq : q < ntS s) : X (d + 1) jX6_lightest 18 [some (vR 6 0 0), some (vI k), some (vI (nI q)), some (vI (nI 0)), some (vI (nI 0))] [] N = X (d + 1) jX6_lightest 103 [some (vR 6 0 0), some (vI k), some (vI (nI q)), some (vI (nI (ah s (ntS s) q))), none] [] N := by
  obtain ⟨hn, h6⟩ := hs.nt
  have wq := hs.wt (i := q) (by omega)
  refine Eq.trans (chain (fun r => X (d + 1) jX6_lightest 18 [some (vR 6 0 0), some (vI k), some (vI (nI q)), some (vI (nI (cnt (bfB s q) r))), some (vI (nI r))] [] N) (ntS s) (fun r hr => ?_)) ?_
  · have wr := hs.wt (i := r) (by omega)
    have up : cnt (bfB s q) (r + 1) = cnt (bfB s q) r + (if bfB s q r = true then 1 else 0) := rfl
    have yes : bfB s q r = true → X (d + 1) jX6_lightest 90 [some (vR 6 0 0), some (vI k), some (vI (nI q)), none, some (vI (nI r))] [vI (nI (cnt (bfB s q) r))] N = X (d + 1) jX6_lightest 18 [some (vR 6 0 0), some (vI k), some (vI (nI q)), some (vI (nI (cnt (bfB s q) (r + 1)))), some (vI (nI (r + 1)))] [] N := fun c => by
      rw [B_X6_lightest_90, B_X6_lightest_95, nI_1, nI_1, up, if_pos c]
    have no : ¬ bfB s q r = true → X (d + 1) jX6_lightest 94 [some (vR 6 0 0), some (vI k), some (vI (nI q)), none, some (vI (nI r))] [vI (nI (cnt (bfB s q) r))] N = X (d + 1) jX6_lightest 18 [some (vR 6 0 0), some (vI k), some (vI (nI q)), some (vI (nI (cnt (bfB s q) (r + 1)))), some (vI (nI (r + 1)))] [] N := fun c => by
      have z0 : nI (cnt (bfB s q) r) + 0 = nI (cnt (bfB s q) r) := nI_add _ 0
      rw [B_X6_lightest_94, B_X6_lightest_95, nI_1, z0, up, if_neg c]
      rfl
    try dsimp only
    rw [B_X6_lightest_18, hN, hn, ge_no hr (by omega), X6_doesHang d N hN (by omega), bindI_some]
    by_cases c : hg s r
    · rw [if_pos c, ne_10, la69, ob_no (by omega) (by omega), cl_no (by omega), la69, ob_no (by omega) (by omega), cl_no (by omega), hN, wr.1, wq.1]
      by_cases c1 : wtS s r < wtS s q
      · rw [if_pos (nI_lt c1 (by omega)), yes (bfB_i.mpr ⟨c, Or.inl c1⟩)]
      · rw [if_neg (nI_nlt (by omega) (by omega)), ob_n2 (by omega) (by omega), ob_n2 (by omega) (by omega)]
        by_cases c2 : wtS s r = wtS s q
        · rw [if_pos (by rw [c2])]
          by_cases c3 : q ≤ r
          · rw [if_pos (nI_le c3 (by omega)), no (fun h => by have := (bfB_i.mp h).2; omega)]
          · rw [if_neg (nI_ge (by omega) (by omega)), yes (bfB_i.mpr ⟨c, Or.inr ⟨c2, by omega⟩⟩)]
        · rw [if_neg (nI_ne (by omega) (by omega) c2), no (fun h => by have := (bfB_i.mp h).2; omega)]
    · rw [if_neg c, eq_00, no (fun h => c (bfB_i.mp h).1)]
  · try dsimp only
    rw [B_X6_lightest_18, hN, hn, le_self]
    rfl
theorem lightest_go (d : Nat) {B : Nat} {s : St} {N : Mem} (hs : Wf B s) (hN : rA N 2 = s) (k : Nat) (hk : k < 100) : ∀ m, m ≤ ntS s → (∀ q, q < m → hg s q → ¬ ah s (ntS s) q = k) → XC (d + 2) jX6_lightest [vR 6 0 0, vI (nI k)] N = X (d + 1) jX6_lightest 2 [some (vR 6 0 0), some (vI (nI k)), some (vI (nI m)), none, none] [] N := fun m hm hh => by
  obtain ⟨hn, h6⟩ := hs.nt
  rw [E_X6_lightest]
  refine chain (fun q => X (d + 1) jX6_lightest 2 [some (vR 6 0 0), some (vI (nI k)), some (vI (nI q)), none, none] [] N) m (fun q hq => ?_)
  have e := lightest_in d hs hN (nI k) (q := q) (by omega)
  have e' : X (d + 1) jX6_lightest 18 [some (vR 6 0 0), some (vI (nI k)), some (vI (nI q)), some (vI 0), some (vI 0)] [] N = _ := e
  have ha := cnt_le (bfB s q) (ntS s)
  have ha' : ah s (ntS s) q ≤ ntS s := ha
  try dsimp only
  rw [B_X6_lightest_2, hN, hn, ge_no (by omega) (by omega), e', B_X6_lightest_103, X6_doesHang d N hN (by omega), bindI_some]
  by_cases c : hg s q
  · rw [if_pos c, ne_10, if_neg (nI_ne (by omega) (by omega) (hh q hq c)), B_X6_lightest_118, nI_1]
  · rw [if_neg c, eq_00, B_X6_lightest_118, nI_1]
theorem lightest_yes (d : Nat) {B : Nat} {s : St} {N : Mem} (hs : Wf B s) (hN : rA N 2 = s) {k q : Nat} (hq : q < ntS s) (hh : hg s q) (hk : ah s (ntS s) q = k) : XC (d + 2) jX6_lightest [vR 6 0 0, vI (nI k)] N = some (some (vI (nI q)), N) := by
  obtain ⟨hn, h6⟩ := hs.nt
  have ha := cnt_le (bfB s q) (ntS s)
  have ha' : ah s (ntS s) q ≤ ntS s := ha
  have e := lightest_in d hs hN (nI k) hq
  have e' : X (d + 1) jX6_lightest 18 [some (vR 6 0 0), some (vI (nI k)), some (vI (nI q)), some (vI 0), some (vI 0)] [] N = _ := e
  rw [lightest_go d hs hN k (by omega) q (by omega) (fun r hr hhr e => by
    have := ah_inj (by omega) hq hhr hh (e.trans hk.symm)
    omega), B_X6_lightest_2, hN, hn, ge_no hq (by omega), e', B_X6_lightest_103, X6_doesHang d N hN (by omega), bindI_some, if_pos hh, ne_10, hk, if_pos rfl]
theorem lightest_no (d : Nat) {B : Nat} {s : St} {N : Mem} (hs : Wf B s) (hN : rA N 2 = s) {k : Nat} (hk : k < 100) (hh : hct s (ntS s) ≤ k) : XC (d + 2) jX6_lightest [vR 6 0 0, vI (nI k)] N = some (some (vI (-5)), N) := by
  obtain ⟨hn, h6⟩ := hs.nt
  rw [lightest_go d hs hN k hk (ntS s) (Nat.le_refl _) (fun q hq hhq e => by
    have := ah_h hq hhq
    omega), B_X6_lightest_2, hN, hn, le_self, B_X6_lightest_124]
noncomputable def rkS (s : St) (j : Nat) : Nat := Classical.epsilon (fun q => q < ntS s ∧ hg s q ∧ ah s (ntS s) q = j)
theorem rk_ok {s : St} {j : Nat} (h : j < hct s (ntS s)) : rkS s j < ntS s ∧ hg s (rkS s j) ∧ ah s (ntS s) (rkS s j) = j := Classical.epsilon_spec (p := fun q => q < ntS s ∧ hg s q ∧ ah s (ntS s) q = j) (ex_rk s (ntS s) j h)
noncomputable def liS (s : St) (all m : Nat) : Nat × Nat := itr (fun j z => (z.1 + wtS s (rkS s j), if z.1 + wtS s (rkS s j) ≤ all then z.2 else z.2 + 1)) m ((0, 0) : Nat × Nat)
theorem liS_ok {B : Nat} {s : St} (hs : Wf B s) (all : Nat) : ∀ m, m ≤ hct s (ntS s) → (liS s all m).1 ≤ 60 * m ∧ (liS s all m).2 ≤ m
  | 0, _ => ⟨Nat.le_refl _, Nat.le_refl _⟩
  | m + 1, h => by
    obtain ⟨h1, h2⟩ := liS_ok hs all m (by omega)
    have hr := rk_ok (s := s) (j := m) (by omega)
    have hw := (hs.wt (i := rkS s m) (by have := hs.nt.2; omega)).2
    refine ⟨?_, ?_⟩
    · show (liS s all m).1 + wtS s (rkS s m) ≤ 60 * (m + 1)
      omega
    · show (if (liS s all m).1 + wtS s (rkS s m) ≤ all then (liS s all m).2 else (liS s all m).2 + 1) ≤ m + 1
      split <;> omega
theorem q_order (d : Nat) (x : Int32) {B : Nat} {s : St} {P : List Cl} {M : Mem} (h : QC B s P M) : Ans M s (XC (d + 20) jX5_order [vR 5 0 0, vI x] M) (fun N => XC (d + 20) jX6_order [vR 6 0 0, vI x] N) := by
  obtain ⟨hBn, hs, hC, hH, hR⟩ := h
  obtain ⟨hn, h6⟩ := hs.nt
  have hcl := cnt_le (hB s) (ntS s)
  have hcl' : hct s (ntS s) ≤ ntS s := hcl
  by_cases b : -1 ≤ x ∧ x ≤ 5
  · obtain ⟨M1, e1, D1, F1⟩ := sort_cls (d + 17) hs hC
    have hc : XC (d + 20) jX5_order [vR 5 0 0, vI x] M = X (d + 19) jX5_order 13 [some (vR 5 0 0), some (vI x), none, none, none, none, none] [] M := by
      rw [E_X5_order, if_neg (fun q => absurd (Int32.lt_of_le_of_lt b.1 q) (Int32.lt_irrefl)), if_pos ((lt6 x).mpr b.2)]
    have hr : ∀ N, XC (d + 20) jX6_order [vR 6 0 0, vI x] N = X (d + 19) jX6_order 11 [some (vR 6 0 0), some (vI x), none, none, none, none, none] [] N := fun N => by
      rw [E_X6_order, X6_in, bindI_some, if_pos b, ne_10]
    by_cases c : 0 ≤ x
    · obtain ⟨k, hk, rfl⟩ := in_le (n := 5) (by omega) rfl ⟨c, b.2⟩
      have nx : ¬ nI k = -1 := nI_m1 (by omega)
      by_cases c2 : k < hct s (ntS s)
      · obtain ⟨r1, r2, r3⟩ := rk_ok c2
        refine ⟨vI (nI (rkS s k)), M1, ?_, D1, fun N hN => ⟨N, ?_, RQ.rf⟩⟩
        · have := F1 _ r1 r2
          rw [r3] at this
          rw [hc, B_X5_order_13, e1, bindI_some, if_neg (nI_pos (by omega)), if_neg (nI_ge c2 (by omega)), ob_no (by omega) (by omega), cl_no (by omega), this, B_X5_order_38]
        · try dsimp only
          rw [hr, B_X6_order_11, if_neg nx, lightest_yes (d + 17) hs hN r1 r2 r3, bindI_some]
      · refine ⟨vI (-5), M1, ?_, D1, fun N hN => ⟨N, ?_, RQ.rf⟩⟩
        · rw [hc, B_X5_order_13, e1, bindI_some, if_neg (nI_pos (by omega)), if_pos (nI_le (by omega) (by omega)), B_X5_order_36, B_X5_order_38]
        · try dsimp only
          rw [hr, B_X6_order_11, if_neg nx, lightest_no (d + 17) hs hN (by omega) (by omega), bindI_some]
    · have xm : x = -1 := by
        have h1 := Int32.le_iff_toInt_le.mp b.1
        have h2 : ¬ (0 : Int32).toInt ≤ x.toInt := fun q => c (Int32.le_iff_toInt_le.mpr q)
        have h3 : (0 : Int32).toInt = 0 := by decide
        have h4 : (-1 : Int32).toInt = -1 := by decide
        apply Int32.toInt_inj.mp
        omega
      subst xm
      have hC1 := hC.S D1
      obtain ⟨M2, e2, D2, F2⟩ := X1_allNow (d + 13) 0 M1 (by omega) hs hC1 (hH.S D1)
      have hC2 := hC1.sc D2
      have hw := hs.now (by omega) hH.2.2
      have srt : ∀ j, j < hct s (ntS s) → cA M2 5 0 10 j = nI (rkS s j) := fun j hj => by
        obtain ⟨r1, r2, r3⟩ := rk_ok hj
        have := F1 _ r1 r2
        rw [r3] at this
        rw [D2.2.1 5 0 10 (fun w => absurd w.2.1 (by decide)), this]
      have lok := liS_ok hs (nowS P s) (hct s (ntS s)) (Nat.le_refl _)
      refine ⟨vI (nI (liS s (nowS P s) (hct s (ntS s))).2), M2, ?_, D1.tr (D2.mono scr_SCR), fun N hN => ?_⟩
      · have L := chain (fun j => X (d + 19) jX5_order 56 [some (vR 5 0 0), none, some (vI (nI (hct s (ntS s)))), some (vI (nI (nowS P s))), some (vI (nI (liS s (nowS P s) j).1)), some (vI (nI (j - (liS s (nowS P s) j).2))), some (vI (nI j))] [] M2) (hct s (ntS s)) (fun j hj => by
          obtain ⟨r1, r2, r3⟩ := rk_ok hj
          obtain ⟨l1, l2⟩ := liS_ok hs (nowS P s) j (by omega)
          have hwr := hs.wt (i := rkS s j) (by omega)
          have es1 : (liS s (nowS P s) (j + 1)).1 = (liS s (nowS P s) j).1 + wtS s (rkS s j) := rfl
          have es2 : (liS s (nowS P s) (j + 1)).2 = if (liS s (nowS P s) j).1 + wtS s (rkS s j) ≤ nowS P s then (liS s (nowS P s) j).2 else (liS s (nowS P s) j).2 + 1 := rfl
          try dsimp only
          rw [es1, es2]
          generalize liS s (nowS P s) j = z at l1 l2
          rw [B_X5_order_56, ge_no hj (by omega), ob_no (by omega) (by omega), cl_no (by omega), srt j hj, ob_no (by omega) (by omega), cl_no (by omega), hC2.a11 (by omega), hwr.1, nI_add]
          by_cases c : z.1 + wtS s (rkS s j) ≤ nowS P s
          · rw [if_neg (nI_nlt c (by omega)), B_X5_order_95, nI_1, nI_1, if_pos c, show j + 1 - z.2 = j - z.2 + 1 by omega]
          · have z0 : nI (j - z.2) + 0 = nI (j - z.2) := nI_add _ 0
            rw [if_pos (nI_lt (by omega) (by omega)), B_X5_order_94, B_X5_order_95, nI_1, z0, if_neg c, show j + 1 - (z.2 + 1) = j - z.2 by omega])
        rw [hc, B_X5_order_13, e1, bindI_some, if_pos (by decide), B_X5_order_39, e2, bindI_some]
        refine Eq.trans L ?_
        try dsimp only
        rw [B_X5_order_56, le_self, B_X5_order_104, nI_sub (by omega), show hct s (ntS s) - (hct s (ntS s) - (liS s (nowS P s) (hct s (ntS s))).2) = (liS s (nowS P s) (hct s (ntS s))).2 by omega]
      · obtain ⟨N', e, D, _⟩ := X6_allNow (d + 13) N (by omega) hs hN hR
        have hA := D.s2.trans hN
        refine ⟨N', ?_, D.sc⟩
        have L := chain (fun j => X (d + 19) jX6_order 35 [some (vR 6 0 0), none, some (vI (nI (nowS P s))), some (vI (nI (liS s (nowS P s) j).1)), some (vI (nI (liS s (nowS P s) j).2)), some (vI (nI j)), none] [] N') (hct s (ntS s)) (fun j hj => by
          obtain ⟨r1, r2, r3⟩ := rk_ok hj
          obtain ⟨l1, l2⟩ := liS_ok hs (nowS P s) j (by omega)
          have hwr := hs.wt (i := rkS s j) (by omega)
          have g6 : ¬ (6 : Int32) ≤ nI j := nI_ge (b := 6) (by omega) (by omega)
          have es1 : (liS s (nowS P s) (j + 1)).1 = (liS s (nowS P s) j).1 + wtS s (rkS s j) := rfl
          have es2 : (liS s (nowS P s) (j + 1)).2 = if (liS s (nowS P s) j).1 + wtS s (rkS s j) ≤ nowS P s then (liS s (nowS P s) j).2 else (liS s (nowS P s) j).2 + 1 := rfl
          try dsimp only
          rw [es1, es2]
          generalize liS s (nowS P s) j = z at l1 l2
          rw [B_X6_order_35, if_neg g6, lightest_yes (d + 17) hs hA r1 r2 r3, bindI_some, if_neg (nI_m5' (by omega)), la69, ob_no (by omega) (by omega), cl_no (by omega), hA, hwr.1, nI_add]
          try dsimp only
          by_cases c : z.1 + wtS s (rkS s j) ≤ nowS P s
          · have z0 : nI z.2 + 0 = nI z.2 := nI_add _ 0
            rw [if_pos (nI_le c (by omega)), B_X6_order_81, B_X6_order_82, B_X6_order_85, nI_1, z0, if_pos c]
          · rw [if_neg (nI_ge (by omega) (by omega)), B_X6_order_82, B_X6_order_85, nI_1, nI_1, if_neg c])
        have T : ∀ m, hct s (ntS s) + m ≤ 6 → X (d + 19) jX6_order 35 [some (vR 6 0 0), none, some (vI (nI (nowS P s))), some (vI (nI (liS s (nowS P s) (hct s (ntS s))).1)), some (vI (nI (liS s (nowS P s) (hct s (ntS s))).2)), some (vI (nI (hct s (ntS s)))), none] [] N' = X (d + 19) jX6_order 35 [some (vR 6 0 0), none, some (vI (nI (nowS P s))), some (vI (nI (liS s (nowS P s) (hct s (ntS s))).1)), some (vI (nI (liS s (nowS P s) (hct s (ntS s))).2)), some (vI (nI (hct s (ntS s) + m))), none] [] N' := fun m hm => chain (fun i => X (d + 19) jX6_order 35 [some (vR 6 0 0), none, some (vI (nI (nowS P s))), some (vI (nI (liS s (nowS P s) (hct s (ntS s))).1)), some (vI (nI (liS s (nowS P s) (hct s (ntS s))).2)), some (vI (nI (hct s (ntS s) + i))), none] [] N') m (fun i hi => by
          have g6 : ¬ (6 : Int32) ≤ nI (hct s (ntS s) + i) := nI_ge (b := 6) (by omega) (by omega)
          try dsimp only
          rw [B_X6_order_35, if_neg g6, lightest_no (d + 17) hs hA (by omega) (by omega), bindI_some, if_pos rfl, B_X6_order_85, nI_1]
          rfl)
        have t6 := T (6 - hct s (ntS s)) (by omega)
        rw [show hct s (ntS s) + (6 - hct s (ntS s)) = 6 by omega] at t6
        try dsimp only
        rw [hr, B_X6_order_11, if_pos rfl, B_X6_order_22, e, bindI_some]
        refine Eq.trans L ?_
        try dsimp only
        rw [t6, B_X6_order_35, if_pos (by decide), B_X6_order_91]
  · refine Ans.pure (vI (-1)) ?_ (fun N hN => ?_)
    · rw [E_X5_order]
      by_cases q : x < -1
      · rw [if_pos q, B_X5_order_11]
      · rw [if_neg q, if_neg (fun w => b ⟨Int32.not_lt.mp q, (lt6 x).mp w⟩), B_X5_order_11]
    · rw [E_X6_order, X6_in, bindI_some, if_neg b, eq_00]
