/-! calls that write one place: sing, tire, row, prop; beat; singer, stone -/
theorem ltL {x a b : Int32} (h : a.toInt = b.toInt + 1) : x < a ↔ x ≤ b := by
  rw [Int32.lt_iff_toInt_lt, Int32.le_iff_toInt_le]
  omega
theorem rng2 {α : Type} {x lo hi : Int32} {A B : α} : (if x < lo then A else (if hi < x then A else B)) = if lo ≤ x ∧ x ≤ hi then B else A := by
  by_cases a : x < lo
  · rw [if_pos a, if_neg (fun q => absurd (Int32.lt_of_le_of_lt q.1 a) (Int32.lt_irrefl))]
  · rw [if_neg a]
    by_cases b : hi < x
    · rw [if_pos b, if_neg (fun q => absurd (Int32.lt_of_le_of_lt q.2 b) (Int32.lt_irrefl))]
    · rw [if_neg b, if_pos ⟨Int32.not_lt.mp a, Int32.not_lt.mp b⟩]
theorem Rf.now {M : Mem} {f : Nat → Int32} : Rf nowR M (rsA M 2 f) := Rf.A ⟨rfl, Or.inl rfl⟩
theorem c_tire (d : Nat) (x y : Int32) {B : Nat} {M : Mem} (I : Inv B M) : Call B M (fun M => XC (d + 20) jX5_tire [vR 5 0 0, vI x, vI y] M) (fun N => XC (d + 20) jX6_tire [vR 6 0 0, vI x, vI y] N) := by
  obtain ⟨_, _, _, Ps, hG, _, _⟩ := id I
  obtain ⟨s, hs0⟩ : ∃ s, rA M 2 = s := ⟨_, rfl⟩
  rw [hs0] at hG
  obtain ⟨hs, hr, hf, hC, hS, _, _⟩ := hG
  obtain ⟨hn, h6⟩ := hs.ns
  by_cases a : isSg s x
  · obtain ⟨p, hp, rfl⟩ := a.num hs
    by_cases b : 0 ≤ y ∧ y ≤ 99
    · obtain ⟨n, hn9, rfl⟩ := in_le (n := 99) (by omega) rfl b
      refine ⟨vI (s (7 + p)), csA M 1 0 9 (upd (cA M 1 0 9) p (nI n)), rsA (csA M 1 0 9 (upd (cA M 1 0 9) p (nI n))) 2 (upd s (7 + p) (nI n)), ?_, ?_, fun h => ?_, rfl⟩
      · try dsimp only
        rw [E_X5_tire, X5_isSinger (d + 18) hC, bindI_some, if_pos a, ne_10, B_X5_tire_10, rng, if_pos b, B_X5_tire_23, ob_no (by omega) (by omega), ob_no (by omega) (by omega), cl_no (by omega), hC.a9 (by omega)]
      · have hA' : rA (csA M 1 0 9 (upd (cA M 1 0 9) p (nI n))) 2 = s := hs0
        try dsimp only
        rw [E_X6_tire, X6_isSinger (d + 17) hs hA', bindI_some, if_pos a, ne_10, B_X6_tire_10, X6_in, bindI_some, if_pos b, ne_10, B_X6_tire_23, la7, ob_no (by omega) (by omega), ob_no (by omega) (by omega), cl_no (by omega), hA']
      · exact I.choir (Df.csA ⟨by decide, rfl, rfl⟩) Rf.now (rA_same _ _ _) ((hs.u9 (by omega) ⟨n, hn9, rfl⟩).mono (Nat.le_succ B)) (hf.up (by omega) (fun q a b => by omega) (fun q a b => by omega)) (hC.u9 (by omega) _) (by rw [hs0]; unfold nsS; rw [upd_ne (by omega)]; exact Nat.le_refl _) (fun k hk => by rw [hs0]; exact upd_ne (by omega)) h
    · refine Call.same I (vI (-2)) ?_ ?_
      · try dsimp only
        rw [E_X5_tire, X5_isSinger (d + 18) hC, bindI_some, if_pos a, ne_10, B_X5_tire_10, rng, if_neg b, B_X5_tire_20]
      · try dsimp only
        rw [E_X6_tire, X6_isSinger (d + 17) hs hs0, bindI_some, if_pos a, ne_10, B_X6_tire_10, X6_in, bindI_some, if_neg b, eq_00]
  · refine Call.same I (vI (-1)) ?_ ?_
    · try dsimp only
      rw [E_X5_tire, X5_isSinger (d + 18) hC, bindI_some, if_neg a, eq_00]
    · try dsimp only
      rw [E_X6_tire, X6_isSinger (d + 17) hs hs0, bindI_some, if_neg a, eq_00]
theorem c_sing (d : Nat) (x y : Int32) {B : Nat} {M : Mem} (I : Inv B M) : Call B M (fun M => XC (d + 20) jX5_sing [vR 5 0 0, vI x, vI y] M) (fun N => XC (d + 20) jX6_sing [vR 6 0 0, vI x, vI y] N) := by
  obtain ⟨_, _, _, Ps, hG, _, _⟩ := id I
  obtain ⟨s, hs0⟩ : ∃ s, rA M 2 = s := ⟨_, rfl⟩
  rw [hs0] at hG
  obtain ⟨hs, hr, hf, hC, hS, _, _⟩ := hG
  obtain ⟨hn, h6⟩ := hs.ns
  by_cases a : isSg s x
  · obtain ⟨p, hp, rfl⟩ := a.num hs
    have hp6 : p < 6 := by omega
    by_cases b : y = -1 ∨ canS s p y
    · have hy : NtOk y := by
        rcases b with b | b
        · exact Or.inl b
        · exact Or.inr (hs.sung hp6 b)
      refine ⟨vI (if s (1 + p) = -1 then -5 else s (1 + p)), csA M 1 0 8 (upd (cA M 1 0 8) p y), rsA (csA M 1 0 8 (upd (cA M 1 0 8) p y)) 2 (upd s (1 + p) y), ?_, ?_, fun h => ?_, rfl⟩
      · have e30 : X (d + 19) jX5_sing 30 [some (vR 5 0 0), some (vI (nI p)), some (vI y), none] [] M = some (some (vI (if s (1 + p) = -1 then -5 else s (1 + p))), csA M 1 0 8 (upd (cA M 1 0 8) p y)) := by
          rw [B_X5_sing_30, ob_no (by omega) (by omega), ob_no (by omega) (by omega), cl_no (by omega), hC.a8 hp6]
          try dsimp only
          by_cases c : s (1 + p) = -1
          · rw [if_pos c, if_pos c, B_X5_sing_61]
          · rw [if_neg c, if_neg c, B_X5_sing_60, B_X5_sing_61]
        try dsimp only
        rw [E_X5_sing, X5_isSinger (d + 18) hC, bindI_some, if_pos a, ne_10, B_X5_sing_10]
        by_cases c : y = -1
        · rw [if_pos c, e30]
        · rw [if_neg c, X1_canSing (d + 17) 0 M hs hC hp6, bindI_some, if_pos (b.resolve_left c), ne_10, e30]
      · have hA' : rA (csA M 1 0 8 (upd (cA M 1 0 8) p y)) 2 = s := hs0
        have e27 : X (d + 19) jX6_sing 27 [some (vR 6 0 0), some (vI (nI p)), some (vI y), none] [] (csA M 1 0 8 (upd (cA M 1 0 8) p y)) = some (some (vI (if s (1 + p) = -1 then -5 else s (1 + p))), rsA (csA M 1 0 8 (upd (cA M 1 0 8) p y)) 2 (upd s (1 + p) y)) := by
          rw [B_X6_sing_27, X6_doesSing _ _ hA' hp6, bindI_some]
          by_cases c : s (1 + p) = -1
          · rw [if_neg (show ¬ sg s p from fun q => q c), eq_00, B_X6_sing_46, B_X6_sing_48, la1, ob_no (by omega) (by omega), cl_no (by omega), hA', if_pos c]
          · rw [if_pos (show sg s p from c), ne_10, la1, ob_no (by omega) (by omega), cl_no (by omega), hA', B_X6_sing_48, la1, ob_no (by omega) (by omega), cl_no (by omega), hA', if_neg c]
        try dsimp only
        rw [E_X6_sing, X6_isSinger (d + 17) hs hA', bindI_some, if_pos a, ne_10, B_X6_sing_10]
        by_cases c : y = -1
        · rw [if_pos c, e27]
        · rw [if_neg c, X6_canSing (d + 17) hs hA' hp6, bindI_some, if_pos (b.resolve_left c), ne_10, e27]
      · exact I.choir (Df.csA ⟨by decide, rfl, rfl⟩) Rf.now (rA_same _ _ _) ((hs.u8 hp6 hy).mono (Nat.le_succ B)) (hf.up (by omega) (fun q a b => by omega) (fun q a b => by omega)) (hC.u8 hp6 _) (by rw [hs0]; unfold nsS; rw [upd_ne (by omega)]; exact Nat.le_refl _) (fun k hk => by rw [hs0]; exact upd_ne (by omega)) h
    · refine Call.same I (vI (-2)) ?_ ?_
      · try dsimp only
        rw [E_X5_sing, X5_isSinger (d + 18) hC, bindI_some, if_pos a, ne_10, B_X5_sing_10, if_neg (fun q => b (Or.inl q)), X1_canSing (d + 17) 0 M hs hC hp6, bindI_some, if_neg (show ¬ canS s p y from fun q => b (Or.inr q)), eq_00]
      · try dsimp only
        rw [E_X6_sing, X6_isSinger (d + 17) hs hs0, bindI_some, if_pos a, ne_10, B_X6_sing_10, if_neg (fun q => b (Or.inl q)), X6_canSing (d + 17) hs hs0 hp6, bindI_some, if_neg (show ¬ canS s p y from fun q => b (Or.inr q)), eq_00]
  · refine Call.same I (vI (-1)) ?_ ?_
    · try dsimp only
      rw [E_X5_sing, X5_isSinger (d + 18) hC, bindI_some, if_neg a, eq_00]
    · try dsimp only
      rw [E_X6_sing, X6_isSinger (d + 17) hs hs0, bindI_some, if_neg a, eq_00]
theorem c_row (d : Nat) (x k y : Int32) {B : Nat} {M : Mem} (I : Inv B M) : Call B M (fun M => XC (d + 20) jX5_row [vR 5 0 0, vI x, vI k, vI y] M) (fun N => XC (d + 20) jX6_row [vR 6 0 0, vI x, vI k, vI y] N) := by
  obtain ⟨_, _, _, Ps, hG, _, _⟩ := id I
  obtain ⟨s, hs0⟩ : ∃ s, rA M 2 = s := ⟨_, rfl⟩
  rw [hs0] at hG
  obtain ⟨hs, hr, hf, hC, hS, _, _⟩ := hG
  obtain ⟨hn, h6⟩ := hs.ns
  have l4 : ∀ {α : Type} (A C : α), (if k < 0 then A else (if k < 4 then C else A)) = if 0 ≤ k ∧ k ≤ 3 then C else A := fun A C => by
    rw [← rng]
    by_cases q : k < 4
    · rw [if_pos q, if_pos ((ltL (b := 3) (by decide)).mp q)]
    · rw [if_neg q, if_neg (fun w => q ((ltL (b := 3) (by decide)).mpr w))]
  by_cases a : isSg s x
  · obtain ⟨p, hp, rfl⟩ := a.num hs
    have hp6 : p < 6 := by omega
    by_cases b : 0 ≤ k ∧ k ≤ 3
    · obtain ⟨j, hj, rfl⟩ := in_le (n := 3) (by omega) rfl b
      by_cases c : 0 ≤ y ∧ y ≤ 9
      · obtain ⟨n, hn9, rfl⟩ := in_le (n := 9) (by omega) rfl c
        by_cases g : s (27 + p) = 6
        · have e1 : nI p * 4 + nI j = nI (4 * p + j) := by rw [show (4 : Int32) = nI 4 from rfl, nI_mul, nI_add, Nat.mul_comm]
          have e2 : (45 : Int32) + 4 * nI p + nI j = nI (45 + (4 * p + j)) := by rw [show (4 : Int32) = nI 4 from rfl, show (45 : Int32) = nI 45 from rfl, nI_mul, nI_add, nI_add, Nat.add_assoc]
          refine ⟨vI (s (45 + (4 * p + j))), csA M 1 0 10 (upd (cA M 1 0 10) (4 * p + j) (nI n)), rsA (csA M 1 0 10 (upd (cA M 1 0 10) (4 * p + j) (nI n))) 2 (upd s (45 + (4 * p + j)) (nI n)), ?_, ?_, fun h => ?_, rfl⟩
          · try dsimp only
            rw [E_X5_row, X5_isSinger (d + 18) hC, bindI_some, if_pos a, ne_10, l4, if_pos b, B_X5_row_19, rng, if_pos c, B_X5_row_32, ob_no (by omega) (by omega), cl_no (by omega), hC.a5 hp6, if_pos g, B_X5_row_49, e1, ob_no (by omega) (by omega), ob_no (by omega) (by omega), cl_no (by omega), hC.a10 (by omega)]
          · have hA' : rA (csA M 1 0 10 (upd (cA M 1 0 10) (4 * p + j) (nI n))) 2 = s := hs0
            try dsimp only
            rw [E_X6_row, X6_isSinger (d + 17) hs hA', bindI_some, if_pos a, ne_10, X6_in, bindI_some, if_pos b, ne_10, B_X6_row_19, X6_in, bindI_some, if_pos c, ne_10, B_X6_row_32, la27, ob_no (by omega) (by omega), cl_no (by omega), hA', if_pos g, B_X6_row_49, e2, ob_no (by omega) (by omega), ob_no (by omega) (by omega), cl_no (by omega), hA']
          · exact I.choir (Df.csA ⟨by decide, rfl, rfl⟩) Rf.now (rA_same _ _ _) ((hs.u10 (by omega) ⟨n, hn9, rfl⟩).mono (Nat.le_succ B)) (hf.up (by omega) (fun q a b => by omega) (fun q a b => by omega)) (hC.u10 (by omega) _) (by rw [hs0]; unfold nsS; rw [upd_ne (by omega)]; exact Nat.le_refl _) (fun k hk => by rw [hs0]; exact upd_ne (by omega)) h
        · refine Call.same I (vI (-3)) ?_ ?_
          · try dsimp only
            rw [E_X5_row, X5_isSinger (d + 18) hC, bindI_some, if_pos a, ne_10, l4, if_pos b, B_X5_row_19, rng, if_pos c, B_X5_row_32, ob_no (by omega) (by omega), cl_no (by omega), hC.a5 hp6, if_neg g]
          · try dsimp only
            rw [E_X6_row, X6_isSinger (d + 17) hs hs0, bindI_some, if_pos a, ne_10, X6_in, bindI_some, if_pos b, ne_10, B_X6_row_19, X6_in, bindI_some, if_pos c, ne_10, B_X6_row_32, la27, ob_no (by omega) (by omega), cl_no (by omega), hs0, if_neg g]
      · refine Call.same I (vI (-2)) ?_ ?_
        · try dsimp only
          rw [E_X5_row, X5_isSinger (d + 18) hC, bindI_some, if_pos a, ne_10, l4, if_pos b, B_X5_row_19, rng, if_neg c, B_X5_row_29]
        · try dsimp only
          rw [E_X6_row, X6_isSinger (d + 17) hs hs0, bindI_some, if_pos a, ne_10, X6_in, bindI_some, if_pos b, ne_10, B_X6_row_19, X6_in, bindI_some, if_neg c, eq_00]
    · refine Call.same I (vI (-1)) ?_ ?_
      · try dsimp only
        rw [E_X5_row, X5_isSinger (d + 18) hC, bindI_some, if_pos a, ne_10, l4, if_neg b, B_X5_row_17]
      · try dsimp only
        rw [E_X6_row, X6_isSinger (d + 17) hs hs0, bindI_some, if_pos a, ne_10, X6_in, bindI_some, if_neg b, eq_00, B_X6_row_17]
  · refine Call.same I (vI (-1)) ?_ ?_
    · try dsimp only
      rw [E_X5_row, X5_isSinger (d + 18) hC, bindI_some, if_neg a, eq_00, B_X5_row_17]
    · try dsimp only
      rw [E_X6_row, X6_isSinger (d + 17) hs hs0, bindI_some, if_neg a, eq_00, B_X6_row_17]
theorem c_prop (d : Nat) (x y : Int32) {B : Nat} {M : Mem} (I : Inv B M) : Call B M (fun M => XC (d + 20) jX5_prop [vR 5 0 0, vI x, vI y] M) (fun N => XC (d + 20) jX6_prop [vR 6 0 0, vI x, vI y] N) := by
  obtain ⟨_, _, _, Ps, hG, _, _⟩ := id I
  obtain ⟨s, hs0⟩ : ∃ s, rA M 2 = s := ⟨_, rfl⟩
  rw [hs0] at hG
  obtain ⟨hs, hr, hf, hC, hS, _, _⟩ := hG
  obtain ⟨hn, h6⟩ := hs.nt
  by_cases a : isSt s x
  · obtain ⟨p, hp, rfl⟩ := a.num hs
    have hp6 : p < 6 := by omega
    obtain ⟨f, hf1, ef⟩ := hs.2.2.2.2.2.2.2.2.2.2 p hp6
    rcases (by omega : f = 0 ∨ f = 1) with rfl | rfl
    · have f0 : s (13 + p) = 0 := ef
      have f1 : ¬ s (13 + p) = 1 := by rw [f0]; decide
      obtain ⟨v, hv⟩ : ∃ v : Int32, v = if y = 0 then 0 else 1 := ⟨_, rfl⟩
      have hv2 : ∃ k, k ≤ 1 ∧ v = nI k := by
        by_cases c : y = 0
        · exact ⟨0, by omega, by rw [hv, if_pos c]; rfl⟩
        · exact ⟨1, by omega, by rw [hv, if_neg c]; rfl⟩
      refine ⟨vI (s (75 + p)), csA M 1 0 12 (upd (cA M 1 0 12) p v), rsA (csA M 1 0 12 (upd (cA M 1 0 12) p v)) 2 (upd s (75 + p) v), ?_, ?_, fun h => ?_, rfl⟩
      · try dsimp only
        rw [E_X5_prop, X5_isStone (d + 18) hC, bindI_some, if_pos a, ne_10, B_X5_prop_10, ob_no (by omega) (by omega), cl_no (by omega), hC.a13 hp6, if_pos f0, B_X5_prop_25, ob_no (by omega) (by omega), cl_no (by omega), hC.a12 hp6]
        try dsimp only
        by_cases c : y = 0
        · rw [if_pos c] at hv
          rw [if_pos c, B_X5_prop_51, B_X5_prop_52, ob_no (by omega) (by omega), cl_no (by omega), hv]
        · rw [if_neg c] at hv
          rw [if_neg c, B_X5_prop_52, ob_no (by omega) (by omega), cl_no (by omega), hv]
      · have hA' : rA (csA M 1 0 12 (upd (cA M 1 0 12) p v)) 2 = s := hs0
        try dsimp only
        rw [E_X6_prop, X6_isStone (d + 17) hs hA', bindI_some, if_pos a, ne_10, B_X6_prop_10, la13, ob_no (by omega) (by omega), cl_no (by omega), hA', if_neg f1, B_X6_prop_26, la75, ob_no (by omega) (by omega), cl_no (by omega), hA']
        try dsimp only
        by_cases c : y = 0
        · rw [if_pos c] at hv
          rw [if_pos c, B_X6_prop_52, B_X6_prop_53, ob_no (by omega) (by omega), cl_no (by omega), hA', hv]
        · rw [if_neg c] at hv
          rw [if_neg c, B_X6_prop_53, ob_no (by omega) (by omega), cl_no (by omega), hA', hv]
      · exact I.choir (Df.csA ⟨by decide, rfl, rfl⟩) Rf.now (rA_same _ _ _) ((hs.u12 hp6 hv2).mono (Nat.le_succ B)) (hf.up (by omega) (fun q a b => by omega) (fun q a b => by omega)) (hC.u12 hp6 _) (by rw [hs0]; unfold nsS; rw [upd_ne (by omega)]; exact Nat.le_refl _) (fun k hk => by rw [hs0]; exact upd_ne (by omega)) h
    · have f1 : s (13 + p) = 1 := ef
      have f0 : ¬ s (13 + p) = 0 := by rw [f1]; decide
      refine Call.same I (vI (-3)) ?_ ?_
      · try dsimp only
        rw [E_X5_prop, X5_isStone (d + 18) hC, bindI_some, if_pos a, ne_10, B_X5_prop_10, ob_no (by omega) (by omega), cl_no (by omega), hC.a13 hp6, if_neg f0]
      · try dsimp only
        rw [E_X6_prop, X6_isStone (d + 17) hs hs0, bindI_some, if_pos a, ne_10, B_X6_prop_10, la13, ob_no (by omega) (by omega), cl_no (by omega), hs0, if_pos f1]
  · refine Call.same I (vI (-1)) ?_ ?_
    · try dsimp only
      rw [E_X5_prop, X5_isStone (d + 18) hC, bindI_some, if_neg a, eq_00]
    · try dsimp only
      rw [E_X6_prop, X6_isStone (d + 17) hs hs0, bindI_some, if_neg a, eq_00]
theorem Fe.go {P : List Cl} {s : St} (h : Fe s) (h6 : nsS s ≤ 6) (h6t : ntS s ≤ 6) (a : Nat) : Fe (goS P s a) := by
  have e1 : nsS (goS P s a) = nsS s := by unfold nsS; rw [goS_19 P h6 h6t a 19 (by omega)]
  have e2 : ntS (goS P s a) = ntS s := by unfold ntS; rw [goS_19 P h6 h6t a 20 (by omega)]
  obtain ⟨g1, g2⟩ := h
  refine ⟨fun p w b => ?_, fun q w b => ?_⟩
  · rw [e1] at w
    refine ⟨?_, fun k hk => ?_⟩
    · rw [goS_at P h6, if_neg (by omega), if_neg (by omega), if_neg (by omega)]
      exact (g1 p w b).1
    · rw [goS_19 P h6 h6t a _ (by omega)]
      exact (g1 p w b).2 k hk
  · rw [e2] at w
    refine ⟨?_, ?_⟩
    · rw [goS_19 P h6 h6t a _ (by omega)]
      exact (g2 q w b).1
    · rw [goS_at P h6, if_neg (by omega), if_neg (by omega), if_neg (by omega)]
      exact (g2 q w b).2
theorem c_beat (d : Nat) {B : Nat} {M : Mem} (I : Inv B M) (hB9 : B < 99999) : Call B M (fun M => XC (d + 20) jX5_beat [vR 5 0 0] M) (fun N => XC (d + 20) jX6_beat [vR 6 0 0] N) := by
  obtain ⟨hB, _, _, Ps, hG, hP, _⟩ := id I
  obtain ⟨s, hs0⟩ : ∃ s, rA M 2 = s := ⟨_, rfl⟩
  rw [hs0] at hG hP
  obtain ⟨P, p1, p2⟩ := hG.held hP (Nat.le_refl _)
  obtain ⟨hs, hr, hf, hC, hS, _, _⟩ := hG
  obtain ⟨b, hb, eb⟩ := hs.2.1 0 (by decide)
  have eb0 : s 0 = nI b := eb
  have l9 : s 0 < 99999 := by rw [eb0]; exact nI_lt (b := 99999) (by omega) (by omega)
  have n9 : ¬ s 0 = 99999 := by rw [eb0]; exact nI_ne (b := 99999) (by omega) (by omega) (by omega)
  obtain ⟨M', e, D, C'⟩ := X1_goBeat (d + 13) 0 M (by omega) hs hC p1
  have hA' : rA M' 2 = s := by rw [m2A D.2.2.2, hs0]
  obtain ⟨N', e', R, a'⟩ := X6_goesBy (d + 12) M' (by omega) hs hA' p2 (a := 63) (by decide)
  have e63 : XC (d + 18) jX6_goesBy [vR 6 0 0, vI 63] M' = _ := e'
  refine ⟨vI (nI (pop (lbS P s 63))), M', N', ?_, ?_, fun h => ?_, ?_⟩
  · try dsimp only
    rw [E_X5_beat, hC.c2, if_pos l9, B_X5_beat_15, e, bindI_some]
  · try dsimp only
    rw [E_X6_beat, hA', if_neg n9, B_X6_beat_16, E_X6_goes, e63, bindI_some, bindI_some, B_X6_beat_20]
  · exact I.choir D (R.mono (fun t k q => q)) a' (goS_ok hs P 63).1 (hf.go hs.ns.2 hs.nt.2 63) C' (by rw [hs0]; unfold nsS; rw [(goS_ok hs P 63).2.1]; exact Nat.le_refl _) (fun k hk => by rw [hs0]; exact goS_19 P hs.ns.2 hs.nt.2 63 k (by omega)) h
  · rw [R.2.1, D.2.2.2]
theorem c_singer (d : Nat) (x y z : Int32) {B : Nat} {M : Mem} (I : Inv B M) : Call B M (fun M => XC (d + 20) jX5_singer [vR 5 0 0, vI x, vI y, vI z] M) (fun N => XC (d + 20) jX6_singer [vR 6 0 0, vI x, vI y, vI z] N) := by
  obtain ⟨_, _, _, Ps, hG, _, _⟩ := id I
  obtain ⟨s, hs0⟩ : ∃ s, rA M 2 = s := ⟨_, rfl⟩
  rw [hs0] at hG
  obtain ⟨hs, hr, hf, hC, hS, _, _⟩ := hG
  obtain ⟨hn, h6⟩ := hs.ns
  have l7 : ∀ {α : Type} (A C : α), (if x < 0 then A else (if x < 7 then C else A)) = if 0 ≤ x ∧ x ≤ 6 then C else A := fun A C => by
    rw [← rng]
    by_cases q : x < 7
    · rw [if_pos q, if_pos ((ltL (b := 6) (by decide)).mp q)]
    · rw [if_neg q, if_neg (fun w => q ((ltL (b := 6) (by decide)).mpr w))]
  have c12 : X (d + 19) jX5_singer 12 [some (vR 5 0 0), some (vI x), some (vI y), some (vI z)] [] M = if 0 ≤ y ∧ y ≤ 9 then (if 0 ≤ z ∧ z ≤ 23 then X (d + 19) jX5_singer 35 [some (vR 5 0 0), some (vI x), some (vI y), some (vI z)] [] M else some (some (vI (-2)), M)) else some (some (vI (-2)), M) := by
    rw [B_X5_singer_12, rng2, rng, B_X5_singer_32]
  have r12 : ∀ N, X (d + 19) jX6_singer 12 [some (vR 6 0 0), some (vI x), some (vI y), some (vI z), none, none] [] N = if 0 ≤ y ∧ y ≤ 9 then (if 0 ≤ z ∧ z ≤ 23 then X (d + 19) jX6_singer 35 [some (vR 6 0 0), some (vI x), some (vI y), some (vI z), none, none] [] N else some (some (vI (-2)), N)) else some (some (vI (-2)), N) := fun N => by
    rw [B_X6_singer_12, X6_in, bindI_some]
    by_cases b : 0 ≤ y ∧ y ≤ 9
    · rw [if_pos b, if_pos b, ne_10, X6_in, bindI_some]
      by_cases c : 0 ≤ z ∧ z ≤ 23
      · rw [if_pos c, if_pos c, ne_10]
      · rw [if_neg c, if_neg c, eq_00, B_X6_singer_32]
    · rw [if_neg b, if_neg b, eq_00, B_X6_singer_32]
  by_cases a : 0 ≤ x ∧ x ≤ 6
  · obtain ⟨xk, hx, rfl⟩ := in_le (n := 6) (by omega) rfl a
    by_cases b : 0 ≤ y ∧ y ≤ 9
    · obtain ⟨yk, hy, rfl⟩ := in_le (n := 9) (by omega) rfl b
      by_cases c : 0 ≤ z ∧ z ≤ 23
      · obtain ⟨zk, hz, rfl⟩ := in_le (n := 23) (by omega) rfl c
        by_cases g : nsS s < 6
        · have l6 : nI (nsS s) < 6 := nI_lt (b := 6) g (by omega)
          have n6 : ¬ nI (nsS s) = 6 := nI_ne (b := 6) (by omega) (by omega) (by omega)
          obtain ⟨M', e, D, C'⟩ := X1_addSinger (d + 18) 0 M hs hC (nI xk) (nI yk) (nI zk) g
          have hA' : rA M' 2 = s := by rw [m2A D.2.2.2, hs0]
          have k1 : nsS (adS s (nI xk) (nI yk) (nI zk)) = nsS s + 1 := by
            unfold nsS adS
            rw [upd_same, hn, nI_1, cl_no (by omega), cl_no (by omega)]
          have k2 : ntS (adS s (nI xk) (nI yk) (nI zk)) = ntS s := by
            unfold ntS adS
            simp (disch := omega) only [upd_ne]
          refine ⟨vI (nI (nsS s)), M', rsA M' 2 (adS s (nI xk) (nI yk) (nI zk)), ?_, ?_, fun h => ?_, ?_⟩
          · try dsimp only
            rw [E_X5_singer, l7, if_pos a, c12, if_pos b, if_pos c, B_X5_singer_35, hC.c0, hn, if_pos l6, B_X5_singer_50, e, bindI_some]
          · have z1 : ∀ f : St, f (7 + nsS s) = s (7 + nsS s) → upd f (7 + nsS s) 0 = f := fun f hf1 => upd_self (by rw [hf1]; exact (hf.1 (nsS s) (Nat.le_refl _) g).1.symm)
            have z2 : ∀ (f : St) k, k < 4 → f (45 + 4 * nsS s + k) = s (45 + 4 * nsS s + k) → upd f (45 + 4 * nsS s + k) 0 = f := fun f k hk hf1 => upd_self (by rw [hf1]; exact ((hf.1 (nsS s) (Nat.le_refl _) g).2 k hk).symm)
            have h0 : ∀ k, upd (upd (upd (upd s (27 + nsS s) (nI xk)) (33 + nsS s) (nI yk)) (39 + nsS s) (nI zk)) (1 + nsS s) (-1) (45 + 4 * nsS s + k) = s (45 + 4 * nsS s + k) := fun k => by
              rw [upd_ne (by omega), upd_ne (by omega), upd_ne (by omega), upd_ne (by omega)]
            have h7 : upd (upd (upd (upd s (27 + nsS s) (nI xk)) (33 + nsS s) (nI yk)) (39 + nsS s) (nI zk)) (1 + nsS s) (-1) (7 + nsS s) = s (7 + nsS s) := by
              rw [upd_ne (by omega), upd_ne (by omega), upd_ne (by omega), upd_ne (by omega)]
            have h19 : upd (upd (upd (upd s (27 + nsS s) (nI xk)) (33 + nsS s) (nI yk)) (39 + nsS s) (nI zk)) (1 + nsS s) (-1) 19 = s 19 := by
              rw [upd_ne (by omega), upd_ne (by omega), upd_ne (by omega), upd_ne (by omega)]
            have e45 : ∀ k, (45 : Int32) + 4 * nI (nsS s) + nI k = nI (45 + 4 * nsS s + k) := fun k => by rw [show (4 : Int32) = nI 4 from rfl, show (45 : Int32) = nI 45 from rfl, nI_mul, nI_add, nI_add]
            try dsimp only
            rw [E_X6_singer, X6_in, bindI_some, if_pos a, ne_10, r12, if_pos b, if_pos c, B_X6_singer_35, hA', hn, if_neg n6, B_X6_singer_50, hA', hn, la27, la33, la39, la1, la7]
            rw [ob_no (by omega) (by omega), ob_no (by omega) (by omega), ob_no (by omega) (by omega), ob_no (by omega) (by omega), ob_no (by omega) (by omega)]
            simp (disch := omega) only [cl_no, rA_same, rsA_rsA]
            rw [z1 _ h7]
            have L := chain (fun k => X (d + 19) jX6_singer 116 [some (vR 6 0 0), none, none, none, some (vI (nI (nsS s))), some (vI (nI k))] [] (rsA M' 2 (upd (upd (upd (upd s (27 + nsS s) (nI xk)) (33 + nsS s) (nI yk)) (39 + nsS s) (nI zk)) (1 + nsS s) (-1)))) 4 (fun k hk => by
              have g4 : ¬ (4 : Int32) ≤ nI k := nI_ge (b := 4) hk (by omega)
              try dsimp only
              rw [B_X6_singer_116, if_neg g4, e45, ob_no (by omega) (by omega), cl_no (by omega), rA_same, rsA_rsA, z2 _ k hk (h0 k), nI_1])
            refine Eq.trans L ?_
            try dsimp only
            rw [B_X6_singer_116, if_pos (by decide), B_X6_singer_144, rA_same, rsA_rsA, h19]
            rfl
          · refine I.choir D Rf.now (rA_same _ _ _) ?_ ?_ C' (by rw [hs0, k1]; omega) (fun k hk => ?_) h
            · refine Wf.mono ?_ (Nat.le_succ B)
              exact ((((hs.u5 (i := nsS s) g ⟨xk, hx, rfl⟩).u6 (i := nsS s) g ⟨yk, hy, rfl⟩).u7 (i := nsS s) g ⟨zk, hz, rfl⟩).u8 (i := nsS s) g (Or.inl rfl)).u19 (i := 0) (by decide) ⟨nsS s + 1, by omega, by rw [hn, nI_1]⟩
            · refine ⟨fun p w b => ?_, fun q w b => ?_⟩
              · rw [k1] at w
                unfold adS
                simp (disch := omega) only [upd_ne]
                exact hf.1 p (by omega) b
              · rw [k2] at w
                unfold adS
                simp (disch := omega) only [upd_ne]
                exact hf.2 q w b
            · rw [hs0]
              unfold adS
              rw [upd_ne (by omega), upd_ne (by omega), upd_ne (by omega), upd_ne (by omega), upd_ne (by omega)]
          · show M'.2.2 = M.2.2
            rw [D.2.2.2]
        · have e6 : nsS s = 6 := by omega
          have l6 : ¬ nI (nsS s) < 6 := by rw [e6]; decide
          have n6 : nI (nsS s) = 6 := by rw [e6]; rfl
          refine Call.same I (vI (-4)) ?_ ?_
          · try dsimp only
            rw [E_X5_singer, l7, if_pos a, c12, if_pos b, if_pos c, B_X5_singer_35, hC.c0, hn, if_neg l6]
          · try dsimp only
            rw [E_X6_singer, X6_in, bindI_some, if_pos a, ne_10, r12, if_pos b, if_pos c, B_X6_singer_35, hs0, hn, if_pos n6]
      · refine Call.same I (vI (-2)) ?_ ?_
        · try dsimp only
          rw [E_X5_singer, l7, if_pos a, c12, if_pos b, if_neg c]
        · try dsimp only
          rw [E_X6_singer, X6_in, bindI_some, if_pos a, ne_10, r12, if_pos b, if_neg c]
    · refine Call.same I (vI (-2)) ?_ ?_
      · try dsimp only
        rw [E_X5_singer, l7, if_pos a, c12, if_neg b]
      · try dsimp only
        rw [E_X6_singer, X6_in, bindI_some, if_pos a, ne_10, r12, if_neg b]
  · refine Call.same I (vI (-1)) ?_ ?_
    · try dsimp only
      rw [E_X5_singer, l7, if_neg a, B_X5_singer_10]
    · try dsimp only
      rw [E_X6_singer, X6_in, bindI_some, if_neg a, eq_00]
theorem c_stone (d : Nat) (x : Int32) {B : Nat} {M : Mem} (I : Inv B M) : Call B M (fun M => XC (d + 20) jX5_stone [vR 5 0 0, vI x] M) (fun N => XC (d + 20) jX6_stone [vR 6 0 0, vI x] N) := by
  obtain ⟨_, _, _, Ps, hG, _, _⟩ := id I
  obtain ⟨s, hs0⟩ : ∃ s, rA M 2 = s := ⟨_, rfl⟩
  rw [hs0] at hG
  obtain ⟨hs, hr, hf, hC, hS, _, _⟩ := hG
  obtain ⟨hn, h6⟩ := hs.nt
  by_cases a : 1 ≤ x ∧ x ≤ 60
  · obtain ⟨w, hw, rfl⟩ := in_le (n := 60) (by omega) rfl ⟨Int32.le_trans (by decide) a.1, a.2⟩
    by_cases g : ntS s < 6
    · have l6 : nI (ntS s) < 6 := nI_lt (b := 6) g (by omega)
      have n6 : ¬ nI (ntS s) = 6 := nI_ne (b := 6) (by omega) (by omega) (by omega)
      obtain ⟨M', e, D, C'⟩ := X1_addStone (d + 18) 0 M hs hC (nI w) g
      have hA' : rA M' 2 = s := by rw [m2A D.2.2.2, hs0]
      have k1 : ntS (atS s (nI w)) = ntS s + 1 := by
        unfold ntS atS
        rw [upd_same, hn, nI_1, cl_no (by omega), cl_no (by omega)]
      have k2 : nsS (atS s (nI w)) = nsS s := by
        unfold nsS atS
        simp (disch := omega) only [upd_ne]
      refine ⟨vI (nI (ntS s)), M', rsA M' 2 (atS s (nI w)), ?_, ?_, fun h => ?_, ?_⟩
      · try dsimp only
        rw [E_X5_stone, rng, if_pos a, B_X5_stone_14, hC.c1, hn, if_pos l6, B_X5_stone_29, e, bindI_some]
      · have f2 := hf.2 (ntS s) (Nat.le_refl _) g
        have z1 : upd (upd s (69 + ntS s) (nI w)) (75 + ntS s) 0 = upd s (69 + ntS s) (nI w) := upd_self (by rw [upd_ne (by omega)]; exact f2.1.symm)
        have z2 : upd (upd s (69 + ntS s) (nI w)) (13 + ntS s) 0 = upd s (69 + ntS s) (nI w) := upd_self (by rw [upd_ne (by omega)]; exact f2.2.symm)
        have h20 : upd s (69 + ntS s) (nI w) 20 = s 20 := upd_ne (by omega)
        try dsimp only
        rw [E_X6_stone, X6_in, bindI_some, if_pos a, ne_10, B_X6_stone_13, hA', hn, if_neg n6, B_X6_stone_28, hA', hn, la69, la75, la13]
        rw [ob_no (by omega) (by omega), ob_no (by omega) (by omega), ob_no (by omega) (by omega)]
        simp (disch := omega) only [cl_no, rA_same, rsA_rsA]
        rw [z1, z2, h20]
        rfl
      · refine I.choir D Rf.now (rA_same _ _ _) ?_ ?_ C' (by rw [hs0, k2]; omega) (fun k hk => ?_) h
        · refine Wf.mono ?_ (Nat.le_succ B)
          exact (hs.u11 (i := ntS s) g ⟨w, hw, rfl⟩).u19 (i := 1) (by decide) ⟨ntS s + 1, by omega, by rw [hn, nI_1]⟩
        · refine ⟨fun p v b => ?_, fun q v b => ?_⟩
          · rw [k2] at v
            unfold atS
            simp (disch := omega) only [upd_ne]
            exact ⟨(hf.1 p v b).1, fun k hk => (upd_ne (by omega)).trans ((hf.1 p v b).2 k hk)⟩
          · rw [k1] at v
            unfold atS
            simp (disch := omega) only [upd_ne]
            exact hf.2 q (by omega) b
        · rw [hs0]
          unfold atS
          rw [upd_ne (by omega), upd_ne (by omega)]
      · show M'.2.2 = M.2.2
        rw [D.2.2.2]
    · have e6 : ntS s = 6 := by omega
      have l6 : ¬ nI (ntS s) < 6 := by rw [e6]; decide
      have n6 : nI (ntS s) = 6 := by rw [e6]; rfl
      refine Call.same I (vI (-4)) ?_ ?_
      · try dsimp only
        rw [E_X5_stone, rng, if_pos a, B_X5_stone_14, hC.c1, hn, if_neg l6]
      · try dsimp only
        rw [E_X6_stone, X6_in, bindI_some, if_pos a, ne_10, B_X6_stone_13, hs0, hn, if_pos n6]
  · refine Call.same I (vI (-2)) ?_ ?_
    · try dsimp only
      rw [E_X5_stone, rng, if_neg a, B_X5_stone_11]
    · try dsimp only
      rw [E_X6_stone, X6_in, bindI_some, if_neg a, eq_00]
