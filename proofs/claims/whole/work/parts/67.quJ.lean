/-! the sheets: looked, planned, flat -/
def Sh (M : Mem) (m : Nat) (s : St) : Prop := (cI M 4 m 0 = s 25 ∧ cI M 4 m 1 = s 21 ∧ cI M 4 m 2 = s 22 ∧ cI M 4 m 3 = s 23 ∧ cI M 4 m 4 = s 24) ∧ (∀ i, i < 100 → cA M 4 m 6 i = s (125 + i)) ∧ (∀ i, i < 6 → cA M 4 m 7 i = s (81 + i)) ∧ (∀ i, i < 6 → cA M 4 m 8 i = s (87 + i)) ∧ (∀ i, i < 8 → cA M 4 m 9 i = s (93 + i)) ∧ (∀ i, i < 8 → cA M 4 m 10 i = s (101 + i)) ∧ (∀ i, i < 8 → cA M 4 m 11 i = s (109 + i)) ∧ (∀ i, i < 8 → cA M 4 m 12 i = s (117 + i))
def tpS (s : St) : Nat := (s 25).toNatClampNeg
def seS (s : St) : Nat := (s 21).toNatClampNeg
def duS (s : St) : Nat := (s 22).toNatClampNeg
def plS (s : St) : Nat := (s 23).toNatClampNeg
def bkS (s : St) : Nat := (s 24).toNatClampNeg
def Rw (s : St) : Prop := Rg s 25 1 100 ∧ Rg s 21 1 5 ∧ Rg s 22 1 6 ∧ Rg s 23 2 8 ∧ Rg s 125 100 127 ∧ (∀ i, i < 8 → ∃ k, s (93 + i) = nI k ∧ k ≤ 5 ∧ (i < plS s → k < nsS s)) ∧ (∀ i, i < 8 → ∃ k, s (109 + i) = nI k ∧ k ≤ 5 ∧ (i < bkS s → k < nsS s))
theorem Rw.tp {s : St} (h : Rw s) : s 25 = nI (tpS s) ∧ tpS s ≤ 100 := h.1.val (i := 0) (by decide) (by decide)
theorem Rw.se {s : St} (h : Rw s) : s 21 = nI (seS s) ∧ seS s ≤ 5 := h.2.1.val (i := 0) (by decide) (by decide)
theorem Rw.du {s : St} (h : Rw s) : s 22 = nI (duS s) ∧ duS s ≤ 6 := h.2.2.1.val (i := 0) (by decide) (by decide)
theorem Rw.pl {s : St} (h : Rw s) : s 23 = nI (plS s) ∧ plS s ≤ 8 := h.2.2.2.1.val (i := 0) (by decide) (by decide)
theorem Rw.bk {s : St} (h : Rw s) : s 24 = nI (bkS s) ∧ bkS s ≤ 8 := h.2.2.2.1.val (i := 1) (by decide) (by decide)
theorem Sh.df {S : SetC} {M M' : Mem} {m : Nat} {s : St} (h : Sh M m s) (D : Df S M M') (hS : ∀ t k, ¬ S t 4 m k) : Sh M' m s := by
  obtain ⟨⟨h1, h2, h3, h4, h5⟩, g1, g2, g3, g4, g5, g6, g7⟩ := h
  refine ⟨⟨(D.1 4 m 0 (hS _ _)).trans h1, (D.1 4 m 1 (hS _ _)).trans h2, (D.1 4 m 2 (hS _ _)).trans h3, (D.1 4 m 3 (hS _ _)).trans h4, (D.1 4 m 4 (hS _ _)).trans h5⟩, ?_, ?_, ?_, ?_, ?_, ?_, ?_⟩
  all_goals
    intro i hi
    rw [D.2.1 4 m _ (hS _ _)]
  · exact g1 i hi
  · exact g2 i hi
  · exact g3 i hi
  · exact g4 i hi
  · exact g5 i hi
  · exact g6 i hi
  · exact g7 i hi
theorem Sh.S {M M' : Mem} {m : Nat} {s : St} (h : Sh M m s) (D : Df SCR M M') : Sh M' m s := h.df D (fun t k q => by unfold SCR at q; omega)
def lkB (s : St) (f : Nat → Nat) (k : Nat) : Prop := ¬ nI (beS s f 63 (s (109 + k)).toNatClampNeg) = s (117 + k)
theorem q_looked (d : Nat) {B : Nat} {s : St} {P : List Cl} {M : Mem} (h : QC B s P M) (hSh : Sh M 0 s) (hRw : Rw s) : Ans M s (XC (d + 20) jX5_looked [vR 5 0 0] M) (fun N => XC (d + 20) jX6_looked [vR 6 0 0] N) := by
  obtain ⟨hB, hs, hC, hH, hR⟩ := h
  obtain ⟨hn, h6⟩ := hs.ns
  obtain ⟨hbk, hb8⟩ := hRw.bk
  obtain ⟨M1, e1, D1, F1⟩ := X1_measure (d + 14) 0 M (by omega) hs hC hH
  have hC1 := hC.sc D1
  have hSh1 := hSh.S (D1.mono scr_SCR)
  have hS := siS_sub (s := s) h6
  have who : ∀ k, k < bkS s → ∃ p, s (109 + k) = nI p ∧ p < nsS s := fun k hk => by
    obtain ⟨p, p1, p2, p3⟩ := hRw.2.2.2.2.2.2 k (by omega)
    exact ⟨p, p1, p3 hk⟩
  have c59 : ∀ k, k < bkS s → X (d + 19) jX5_looked 17 [some (vR 5 0 0), some (vI (nI (siS s))), some (vI (nI k)), none, none] [] M1 = X (d + 19) jX5_looked 59 [some (vR 5 0 0), some (vI (nI (siS s))), some (vI (nI k)), none, none] [vI (nI (beS s (foS P s) 63 (s (109 + k)).toNatClampNeg))] M1 := fun k hk => by
    obtain ⟨p, p1, p2⟩ := who k hk
    rw [B_X5_looked_17, hSh1.1.2.2.2.2, hbk, ge_no hk (by omega), ob_no (by omega) (by omega), cl_no (by omega), hSh1.2.2.2.2.2.2.1 k (by omega), p1]
    try dsimp only
    rw [X5_hasBit _ _ hS.1 (by omega), bindI_some, cl_no (by omega)]
    by_cases c : sg s p
    · rw [if_pos ((siS_i p2).mpr c), ne_10, X1_bearing (d + 16) 0 M1 hs hC1 F1 hS p2 ((siS_i p2).mpr c), bindI_some, beS_63 p2 h6]
    · have e0 : beS s (foS P s) 63 p = 0 := if_neg (fun q => c q.2)
      rw [if_neg (fun q => c ((siS_i p2).mp q)), eq_00, B_X5_looked_58, e0]
      rfl
  have cls : ∀ n, n ≤ bkS s → (∀ k, k < n → ¬ lkB s (foS P s) k) → XC (d + 20) jX5_looked [vR 5 0 0] M = X (d + 19) jX5_looked 17 [some (vR 5 0 0), some (vI (nI (siS s))), some (vI (nI n)), none, none] [] M1 := fun n hn2 hh => by
    rw [E_X5_looked, e1, bindV_some, X1_singing (d + 18) 0 M1 hs hC1, bindI_some]
    refine chain (fun k => X (d + 19) jX5_looked 17 [some (vR 5 0 0), some (vI (nI (siS s))), some (vI (nI k)), none, none] [] M1) n (fun k hk => ?_)
    try dsimp only
    have ok := Classical.not_not.mp (hh k hk)
    rw [c59 k (by omega), B_X5_looked_59, ob_no (by omega) (by omega), cl_no (by omega), hSh1.2.2.2.2.2.2.2 k (by omega), if_pos ok, B_X5_looked_77, nI_1]
  have ref : ∀ N, rA N 2 = s → ∃ N', RQ N N' ∧ rA N' 2 = s ∧ (∀ k, k < bkS s → X (d + 19) jX6_looked 6 [some (vR 6 0 0), some (vI (nI k))] [] N' = if nI (beS s (foS P s) 63 (s (109 + k)).toNatClampNeg) = s (117 + k) then X (d + 19) jX6_looked 6 [some (vR 6 0 0), some (vI (nI (k + 1)))] [] N' else some (some (vI (nI k)), N')) ∧ XC (d + 20) jX6_looked [vR 6 0 0] N = X (d + 19) jX6_looked 6 [some (vR 6 0 0), some (vI (nI 0))] [] N' := fun N hN => by
    obtain ⟨N', e, D, F⟩ := X6_looksForForces (d + 15) N (by omega) hs hN hR
    have hA' := D.s2.trans hN
    refine ⟨N', D.sc, hA', fun k hk => ?_, ?_⟩
    · obtain ⟨p, p1, p2⟩ := who k hk
      have eb : XC (d + 19) jX6_bearsOf [vR 6 0 0, vI 63, vI (nI p)] N' = _ := X6_bearsOf (d + 15) N' hs hA' F (a := 63) (by decide) p2
      rw [B_X6_looked_6, hA', hbk, ge_no hk (by omega), la109, ob_no (by omega) (by omega), cl_no (by omega), p1, cl_no (by omega), eb, bindI_some, la117, ob_no (by omega) (by omega), cl_no (by omega), hA']
      by_cases c : nI (beS s (foS P s) 63 p) = s (117 + k)
      · rw [if_pos c, if_pos c, B_X6_looked_46, nI_1]
      · rw [if_neg c, if_neg c]
    · rw [E_X6_looked, e, bindV_some]
      rfl
  rcases first_hit (lkB s (foS P s)) (bkS s) with hh | ⟨k, hk, h1, h2⟩
  · refine ⟨vI (-5), M1, ?_, D1.mono scr_SCR, fun N hN => ?_⟩
    · rw [cls (bkS s) (Nat.le_refl _) hh, B_X5_looked_17, hSh1.1.2.2.2.2, hbk, le_self, B_X5_looked_83]
    · obtain ⟨N', R, hA', st, e⟩ := ref N hN
      refine ⟨N', ?_, R⟩
      try dsimp only
      rw [e]
      refine Eq.trans (chain (fun k => X (d + 19) jX6_looked 6 [some (vR 6 0 0), some (vI (nI k))] [] N') (bkS s) (fun k hk => ?_)) ?_
      · try dsimp only
        rw [st k hk, if_pos (Classical.not_not.mp (hh k hk))]
      · try dsimp only
        rw [B_X6_looked_6, hA', hbk, le_self, B_X6_looked_52]
  · refine ⟨vI (nI k), M1, ?_, D1.mono scr_SCR, fun N hN => ?_⟩
    · rw [cls k (by omega) h2, c59 k hk, B_X5_looked_59, ob_no (by omega) (by omega), cl_no (by omega), hSh1.2.2.2.2.2.2.2 k (by omega), if_neg h1]
    · obtain ⟨N', R, hA', st, e⟩ := ref N hN
      refine ⟨N', ?_, R⟩
      try dsimp only
      rw [e]
      refine Eq.trans (chain (fun k => X (d + 19) jX6_looked 6 [some (vR 6 0 0), some (vI (nI k))] [] N') k (fun j hj => ?_)) ?_
      · try dsimp only
        rw [st j (by omega), if_pos (Classical.not_not.mp (h2 j hj))]
      · try dsimp only
        rw [st k hk, if_neg h1]
/-! planned -/
def pwS (s : St) (k : Nat) : Nat := (s (93 + k)).toNatClampNeg
def plN (s z : St) (k : Nat) : Int32 := if canS z (pwS s k) (s (101 + k)) then s (101 + k) else -1
def pl1 (P : List Cl) (s : St) (k : Nat) (z : St) : St := goS P (upd z (1 + pwS s k) (plN s z k)) 63
def plZ (P : List Cl) (s : St) (n : Nat) : St := itr (pl1 P s) n s
theorem plN_ok {B : Nat} {s z : St} (hz : Wf B z) {k : Nat} (hk : pwS s k < 6) : NtOk (plN s z k) := by
  unfold plN
  split
  · exact Or.inr (hz.sung hk ‹_›)
  · exact Or.inl rfl
theorem q_planned (d : Nat) (x : Int32) {B : Nat} {s : St} {P : List Cl} {M : Mem} (h : QC B s P M) (hSh : Sh M 0 s) (hRw : Rw s) : Ans M s (XC (d + 20) jX5_planned [vR 5 0 0, vI x] M) (fun N => XC (d + 20) jX6_planned [vR 6 0 0, vI x] N) := by
  obtain ⟨hB, hs, hC, hH, hR⟩ := h
  obtain ⟨hn, h6⟩ := hs.ns
  obtain ⟨hpl, hp8⟩ := hRw.pl
  have who : ∀ k, k < plS s → s (93 + k) = nI (pwS s k) ∧ pwS s k < nsS s := fun k hk => by
    obtain ⟨p, p1, p2, p3⟩ := hRw.2.2.2.2.2.1 k (by omega)
    have e : pwS s k = p := by unfold pwS; rw [p1, cl_no (by omega)]
    rw [e]
    exact ⟨p1, p3 hk⟩
  by_cases b : 0 ≤ x ∧ x ≤ 1
  · obtain ⟨M1, e1, T1⟩ := TC.become (d + 18) hs hC hH
    obtain ⟨M3, e3, T3⟩ := loop_ex (fun i (zM : Mem) => X (d + 19) jX5_planned 24 [some (vR 5 0 0), some (vI x), some (vI (nI i)), none, none] [] zM) (fun i zM => TC M (B + i) (plZ P s i) P zM) (plS s) M1 T1 (fun i zM hi zT => by
      obtain ⟨w1, w2⟩ := who i hi
      have hw6 : pwS s i < 6 := by omega
      have hSh1 := hSh.S zT.1
      have t1 := zT.note hw6 (plN_ok (s := s) (k := i) zT.2.2.2 hw6)
      obtain ⟨m2, f2, t2⟩ := t1.beat (d + 13) (by omega)
      refine ⟨m2, ?_, t2⟩
      have hq : isSg s (nI (pwS s i)) := by
        have := hs.ns
        unfold isSg
        rw [hn]
        exact ⟨nI_le (a := 0) (by omega) (by omega), nI_lt w2 (by omega)⟩
      try dsimp only
      rw [B_X5_planned_24, hSh1.1.2.2.2.1, hpl, ge_no hi (by omega), ob_no (by omega) (by omega), cl_no (by omega), hSh1.2.2.2.2.1 i (by omega), w1]
      try dsimp only
      rw [ob_n2 (by omega) (by omega), hSh1.2.2.2.2.2.1 i (by omega), X5_isSinger (d + 18) (zT.now hC), bindI_some, if_pos hq, ne_10, X1_canSing (d + 17) 1 zM zT.2.2.2 zT.2.1 hw6, bindI_some]
      have fin : ∀ v, v = plN s (plZ P s i) i → X (d + 19) jX5_planned 91 [some (vR 5 0 0), some (vI x), some (vI (nI i)), none, none] [vI v, vI (nI (pwS s i)), vR 1 1 8] zM = X (d + 19) jX5_planned 24 [some (vR 5 0 0), some (vI x), some (vI (nI (i + 1))), none, none] [] m2 := fun v hv => by
        rw [B_X5_planned_91, ob_no (by omega) (by omega), cl_no (by omega), hv]
        try dsimp only
        rw [B_X5_planned_92, f2, bindI_some, nI_1]
      by_cases c : canS (plZ P s i) (pwS s i) (s (101 + i))
      · rw [if_pos c, ne_10, fin _ (if_pos c).symm]
      · rw [if_neg c, eq_00, B_X5_planned_90, fin _ (if_neg c).symm])
    have cls : XC (d + 20) jX5_planned [vR 5 0 0, vI x] M = X (d + 19) jX5_planned 106 [some (vR 5 0 0), some (vI x), none, none, none] [] M3 := by
      rw [E_X5_planned, rng, if_pos b, B_X5_planned_11, e1, bindV_some]
      refine Eq.trans e3 ?_
      try dsimp only
      rw [B_X5_planned_24, (hSh.S T3.1).1.2.2.2.1, hpl, le_self]
    have ref : ∀ N, rA N 2 = s → ∃ N1 N3, Kp N N1 ∧ XC (d + 20) jX6_planned [vR 6 0 0, vI x] N = X (d + 19) jX6_planned 84 [some (vR 6 0 0), some (vI x), none, none, none] [] N3 ∧ TR N1 (B + plS s) s (plZ P s (plS s)) P N3 := fun N hN => by
      obtain ⟨N1, g1, K, U1⟩ := TR.keeps (d + 18) hs hN hR
      obtain ⟨N3, g3, U3⟩ := loop_ex (fun i (zM : Mem) => X (d + 19) jX6_planned 17 [some (vR 6 0 0), some (vI x), some (vI (nI i)), none, none] [] zM) (fun i zM => TR N1 (B + i) s (plZ P s i) P zM) (plS s) N1 U1 (fun i zM hi zT => by
        obtain ⟨w1, w2⟩ := who i hi
        have hw6 : pwS s i < 6 := by omega
        have t1 := zT.note hw6 (plN_ok (s := s) (k := i) zT.2.2.2.2 hw6)
        obtain ⟨m2, f2, t2⟩ := t1.goes (d + 12) (by omega)
        refine ⟨m2, ?_, t2⟩
        have hi9 := zT.2.2.1
        try dsimp only
        rw [B_X6_planned_17, zT.2.1, hi9 23 (by omega), hpl, ge_no hi (by omega), la93, ob_no (by omega) (by omega), cl_no (by omega), hi9 (93 + i) (by omega), w1]
        try dsimp only
        rw [la101, ob_no (by omega) (by omega), cl_no (by omega), hi9 (101 + i) (by omega), X6_canSing (d + 17) zT.2.2.2.2 zT.2.1 hw6, bindI_some]
        have fin : ∀ v, v = plN s (plZ P s i) i → X (d + 19) jX6_planned 72 [some (vR 6 0 0), some (vI x), some (vI (nI i)), none, none] [vI v, vI (1 + nI (pwS s i)), vR 6 0 2] zM = X (d + 19) jX6_planned 17 [some (vR 6 0 0), some (vI x), some (vI (nI (i + 1))), none, none] [] m2 := fun v hv => by
          rw [B_X6_planned_72, la1, ob_no (by omega) (by omega), cl_no (by omega), hv]
          try dsimp only
          rw [f2, bindI_some, nI_1]
        by_cases c : canS (plZ P s i) (pwS s i) (s (101 + i))
        · rw [if_pos c, ne_10, fin _ (if_pos c).symm]
        · rw [if_neg c, eq_00, B_X6_planned_71, fin _ (if_neg c).symm])
      refine ⟨N1, N3, K, ?_, U3⟩
      rw [E_X6_planned, X6_in, bindI_some, if_pos b, ne_10, B_X6_planned_11, g1, bindV_some]
      refine Eq.trans g3 ?_
      try dsimp only
      rw [B_X6_planned_17, U3.2.1, U3.2.2.1 23 (by omega), hpl, le_self]
    have w1 := T3.2.2.2
    by_cases c : x = 0
    · refine ⟨vI (nI (faS (plZ P s (plS s)))), M3, ?_, T3.1, fun N hN => ?_⟩
      · rw [cls, B_X5_planned_106, if_pos c, X1_countFallen (d + 18) 1 M3 w1 T3.2.1, bindI_some, B_X5_planned_127]
      · obtain ⟨N1, N3, K, e, U⟩ := ref N hN
        obtain ⟨N2, g2, R2⟩ := U.back (d + 18) K hN
        refine ⟨N2, ?_, R2⟩
        try dsimp only
        rw [e, B_X6_planned_84, if_pos c, X6_fallenMany (d + 18) N3 w1 U.2.1, bindI_some, B_X6_planned_99, g2, bindV_some]
    · obtain ⟨M4, e4, T4, _⟩ := T3.allNow (d + 13) (by omega)
      refine ⟨vI (nI (nowS P (plZ P s (plS s)))), M4, ?_, T4.1, fun N hN => ?_⟩
      · rw [cls, B_X5_planned_106, if_neg c, B_X5_planned_120, e4, bindI_some, B_X5_planned_127]
      · obtain ⟨N1, N3, K, e, U⟩ := ref N hN
        obtain ⟨N4, g4, U4, _⟩ := U.allNow (d + 13) (by omega)
        obtain ⟨N2, g2, R2⟩ := U4.back (d + 18) K hN
        refine ⟨N2, ?_, R2⟩
        try dsimp only
        rw [e, B_X6_planned_84, if_neg c, B_X6_planned_95, g4, bindI_some, B_X6_planned_99, g2, bindV_some]
  · refine Ans.pure (vI (-1)) ?_ (fun N hN => ?_)
    · rw [E_X5_planned, rng, if_neg b, B_X5_planned_9]
    · rw [E_X6_planned, X6_in, bindI_some, if_neg b, eq_00]
