/-! on, steady -/
theorem X6_highOf (d : Nat) {M : Mem} {B : Nat} {s : St} (hs : Wf B s) (hA : rA M 2 = s) {p : Nat} (hp : p < 6) : XC (d + 1) jX6_highOf [vR 6 0 0, vI (nI p)] M = some (some (vI (nI (hiS s p))), M) := by
  obtain ⟨l1, l2⟩ := hs.2.2.2.2.1.val (i := p) hp (by decide)
  rw [E_X6_highOf, la39, ob_no (by omega) (by omega), cl_no (by omega), hA]
  unfold hiS
  generalize (s (39 + p)).toNatClampNeg = l at l1 l2
  rw [l1]
  by_cases c : l ≤ 12
  · have c2 : nI l ≤ 12 := nI_le (b := 12) c (by omega)
    rw [if_pos c2, B_X6_highOf_19, la39, ob_no (by omega) (by omega), cl_no (by omega), hA, l1, B_X6_highOf_31, show (11 : Int32) = nI 11 from rfl, nI_add, Nat.min_eq_right (by omega)]
  · have c2 : ¬ nI l ≤ 12 := nI_ge (a := 12) (b := l) (by omega) (by omega)
    rw [if_neg c2, B_X6_highOf_31, Nat.min_eq_left (by omega)]
    rfl
theorem X6_canSing (d : Nat) {M : Mem} {B : Nat} {s : St} (hs : Wf B s) (hA : rA M 2 = s) {p : Nat} (hp : p < 6) (x : Int32) : XC (d + 2) jX6_canSing [vR 6 0 0, vI (nI p), vI x] M = some (some (vI (if canS s p x then 1 else 0)), M) := by
  rw [E_X6_canSing, la39, ob_no (by omega) (by omega), cl_no (by omega), hA, X6_highOf d hs hA hp, bindI_some, X6_in, bindI_some]
  try dsimp only
  split
  · rw [zo_1]
  · rw [zo_0]
/-- so many beats gone -/
def goN (P : List Cl) (s : St) (n : Nat) : St := itr (fun _ z => goS P z 63) n s
def onF (P : List Cl) (s : St) (n : Nat) : Int32 := itr (fun k f => if f = -5 ∧ 0 < pop (lbS P (goN P s k) 63) then nI (k + 1) else f) n (-5)
theorem goN_ok {B : Nat} {s : St} (hs : Wf B s) (P : List Cl) : ∀ n, Wf (B + n) (goN P s n) ∧ Sm s (goN P s n) ∧ ∀ k, 19 ≤ k → goN P s n k = s k
  | 0 => ⟨hs, ⟨rfl, rfl⟩, fun _ _ => rfl⟩
  | n + 1 => by
    obtain ⟨h1, h2, h3⟩ := goN_ok hs P n
    have g := goS_ok h1 P 63
    exact ⟨g.1, ⟨g.2.1.trans h2.1, g.2.2.trans h2.2⟩, fun k hk => (goS_19 P h1.ns.2 h1.nt.2 63 k hk).trans (h3 k hk)⟩
theorem pop_0 {a : Nat} : (nI (pop a) ≤ 0) ↔ ¬ 0 < pop a := by
  have := pop_le a
  rw [show (0 : Int32) = nI 0 from rfl, nI_leI (by omega) (by omega)]
  omega
theorem on_cls (d : Nat) {B : Nat} {s : St} {P : List Cl} {M : Mem} (h : QC B s P M) {n : Nat} (hn : n ≤ 60) (x2 x3 : Int32) : ∃ M', X (d + 19) jX5_on 51 [some (vR 5 0 0), some (vI (nI n)), some (vI x2), some (vI x3), none, none] [] M = X (d + 19) jX5_on 102 [some (vR 5 0 0), none, some (vI x2), some (vI x3), some (vI (onF P s n)), none] [] M' ∧ TC M (B + n) (goN P s n) P M' := by
  obtain ⟨hB, hs, hC, hH, hR⟩ := h
  obtain ⟨M1, e1, T1⟩ := TC.become (d + 18) hs hC hH
  obtain ⟨M', e, T⟩ := loop_ex (fun i (zM : Mem) => X (d + 19) jX5_on 69 [some (vR 5 0 0), some (vI (nI n)), some (vI x2), some (vI x3), some (vI (onF P s i)), some (vI (nI (i + 1)))] [] zM) (fun i zM => TC M (B + i) (goN P s i) P zM) n M1 T1 (fun i zM hi zT => by
    obtain ⟨zM', ze, zT'⟩ := zT.beat (d + 13) (by omega)
    refine ⟨zM', ?_, zT'⟩
    try dsimp only
    have es : onF P s (i + 1) = if onF P s i = -5 ∧ 0 < pop (lbS P (goN P s i) 63) then nI (i + 1) else onF P s i := rfl
    rw [B_X5_on_69, if_neg (nI_nlt (by omega) (by omega)), ze, bindI_some, es]
    by_cases c : 0 < pop (lbS P (goN P s i) 63)
    · rw [if_neg (fun q => pop_0.mp q c)]
      by_cases c2 : onF P s i = -5
      · rw [if_pos c2, if_pos ⟨c2, c⟩, B_X5_on_96, nI_1]
      · rw [if_neg c2, if_neg (fun q => c2 q.1), B_X5_on_96, nI_1]
    · rw [if_pos (pop_0.mpr c), if_neg (fun q => c q.2), B_X5_on_96, nI_1])
  refine ⟨M', ?_, T⟩
  rw [B_X5_on_51, e1, bindV_some]
  have e' : X (d + 19) jX5_on 69 [some (vR 5 0 0), some (vI (nI n)), some (vI x2), some (vI x3), some (vI (-5)), some (vI 1)] [] M1 = _ := e
  rw [e']
  try dsimp only
  rw [B_X5_on_69, if_pos (nI_lt (by omega) (by omega))]
theorem on_ref (d : Nat) {B : Nat} (hB : B < 2 ^ 29) {s : St} {P : List Cl} {N : Mem} (hs : Wf B s) (hN : rA N 2 = s) (hR : HdR s P) {n : Nat} (hn : n ≤ 60) (x2 : Int32) : ∃ N1 N', Kp N N1 ∧ X (d + 19) jX6_on 35 [some (vR 6 0 0), some (vI (nI n)), some (vI x2), none, none, none] [] N = X (d + 19) jX6_on 81 [some (vR 6 0 0), none, some (vI x2), some (vI (onF P s n)), none, none] [] N' ∧ TR N1 (B + n) s (goN P s n) P N' := by
  obtain ⟨N1, e1, K1, T1⟩ := TR.keeps (d + 18) hs hN hR
  obtain ⟨N', e, T⟩ := loop_ex (fun i (zM : Mem) => X (d + 19) jX6_on 45 [some (vR 6 0 0), some (vI (nI n)), some (vI x2), some (vI (onF P s i)), some (vI (nI (i + 1))), none] [] zM) (fun i zM => TR N1 (B + i) s (goN P s i) P zM) n N1 T1 (fun i zM hi zT => by
    obtain ⟨zM', ze, zT'⟩ := zT.goes (d + 12) (by omega)
    refine ⟨zM', ?_, zT'⟩
    try dsimp only
    have es : onF P s (i + 1) = if onF P s i = -5 ∧ 0 < pop (lbS P (goN P s i) 63) then nI (i + 1) else onF P s i := rfl
    rw [B_X6_on_45, if_neg (nI_nlt (by omega) (by omega)), ze, bindI_some, es]
    by_cases c2 : onF P s i = -5
    · rw [if_pos c2]
      by_cases c : 0 < pop (lbS P (goN P s i) 63)
      · rw [if_neg (fun q => pop_0.mp q c), if_pos ⟨c2, c⟩, B_X6_on_74, nI_1]
      · rw [if_pos (pop_0.mpr c), if_neg (fun q => c q.2), B_X6_on_73, B_X6_on_74, nI_1]
    · rw [if_neg c2, if_neg (fun q => c2 q.1), B_X6_on_73, B_X6_on_74, nI_1])
  refine ⟨N1, N', K1, ?_, T⟩
  rw [B_X6_on_35, e1, bindV_some]
  have e' : X (d + 19) jX6_on 45 [some (vR 6 0 0), some (vI (nI n)), some (vI x2), some (vI (-5)), some (vI 1), none] [] N1 = _ := e
  rw [e']
  try dsimp only
  rw [B_X6_on_45, if_pos (nI_lt (by omega) (by omega))]
theorem sub10 {p : Nat} {x : Int32} (h : x - 10 = nI p) : x = nI (p + 10) := by
  rw [← nI_add, ← h]
  exact (Int32.sub_add_cancel x 10).symm
theorem q_on (d : Nat) (x y : Int32) {B : Nat} {s : St} {P : List Cl} {M : Mem} (h : QC B s P M) : Ans M s (XC (d + 20) jX5_on [vR 5 0 0, vI x, vI y] M) (fun N => XC (d + 20) jX6_on [vR 6 0 0, vI x, vI y] N) := by
  have hq := h
  obtain ⟨hB, hs, hC, hH, hR⟩ := h
  obtain ⟨hn, h6⟩ := hs.ns
  have inW : ∀ N, rA N 2 = s → (¬ (0 ≤ y ∧ y ≤ 2) ∧ ¬ isSg s (y - 10)) → XC (d + 20) jX6_on [vR 6 0 0, vI x, vI y] N = some (some (vI (-1)), N) := fun N hN c => by
    rw [E_X6_on, X6_in, bindI_some, if_neg c.1, eq_00, X6_isSinger (d + 17) hs hN, bindI_some, if_neg c.2, eq_00]
  have inR : ∀ N, rA N 2 = s → ((0 ≤ y ∧ y ≤ 2) ∨ isSg s (y - 10)) → XC (d + 20) jX6_on [vR 6 0 0, vI x, vI y] N = if 0 ≤ x ∧ x ≤ 40 then X (d + 19) jX6_on 35 [some (vR 6 0 0), some (vI x), some (vI y), none, none, none] [] N else some (some (vI (-2)), N) := fun N hN c => by
    have e2 : X (d + 19) jX6_on 22 [some (vR 6 0 0), some (vI x), some (vI y), none, none, none] [] N = if 0 ≤ x ∧ x ≤ 40 then X (d + 19) jX6_on 35 [some (vR 6 0 0), some (vI x), some (vI y), none, none, none] [] N else some (some (vI (-2)), N) := by
      rw [B_X6_on_22, X6_in, bindI_some]
      by_cases q : 0 ≤ x ∧ x ≤ 40
      · rw [if_pos q, if_pos q, ne_10]
      · rw [if_neg q, if_neg q, eq_00]
    rw [E_X6_on, X6_in, bindI_some]
    by_cases a : 0 ≤ y ∧ y ≤ 2
    · rw [if_pos a, ne_10, e2]
    · rw [if_neg a, eq_00, X6_isSinger (d + 17) hs hN, bindI_some, if_pos (c.resolve_left a), ne_10, e2]
  have c38 : ∀ z, X (d + 19) jX5_on 38 [some (vR 5 0 0), some (vI x), some (vI y), some (vI z), none, none] [] M = if 0 ≤ x ∧ x ≤ 40 then X (d + 19) jX5_on 51 [some (vR 5 0 0), some (vI x), some (vI y), some (vI z), none, none] [] M else some (some (vI (-2)), M) := fun z => by
    rw [B_X5_on_38]
    by_cases q1 : x < 0
    · rw [if_pos q1, B_X5_on_48, if_neg (fun q => absurd (Int32.lt_of_le_of_lt q.1 q1) (Int32.lt_irrefl))]
    · rw [if_neg q1]
      by_cases q2 : x ≤ 40
      · rw [if_pos q2, if_pos ⟨Int32.not_lt.mp q1, q2⟩]
      · rw [if_neg q2, B_X5_on_48, if_neg (fun q => q2 q.2)]
  by_cases A : isSg s (y - 10)
  · obtain ⟨p, hp, ep⟩ := A.num hs
    have ey := sub10 ep
    have cl : XC (d + 20) jX5_on [vR 5 0 0, vI x, vI y] M = X (d + 19) jX5_on 38 [some (vR 5 0 0), some (vI x), some (vI y), some (vI 1), none, none] [] M := by
      have ny : ¬ y < 10 := by rw [ey]; exact nI_nlt (b := 10) (by omega) (by omega)
      rw [E_X5_on, if_neg ny, X5_isSinger (d + 18) hC, bindI_some, if_pos A, ne_10, B_X5_on_22, ne_10]
    rw [cl, c38]
    by_cases hx : 0 ≤ x ∧ x ≤ 40
    · obtain ⟨n, hn4, rfl⟩ := in_le (n := 40) (by omega) rfl hx
      rw [if_pos hx]
      obtain ⟨M', e, T⟩ := on_cls d hq (n := n) (by omega) y 1
      refine ⟨vI (goN P s n (7 + p)), M', ?_, T.1, fun N hN => ?_⟩
      · rw [e, B_X5_on_102, ne_10, ep, ob_no (by omega) (by omega), cl_no (by omega), T.2.1.a9 (by omega)]
      · obtain ⟨N1, N', K, eN, TN⟩ := on_ref d hB hs hN hR (n := n) (by omega) y
        obtain ⟨N2, e2, R2⟩ := TN.back (d + 18) K hN
        refine ⟨N2, ?_, R2⟩
        try dsimp only
        have y0 : ¬ y = 0 := by rw [ey]; exact nI_ne (b := 0) (by omega) (by omega) (by omega)
        have y1 : ¬ y = 1 := by rw [ey]; exact nI_ne (b := 1) (by omega) (by omega) (by omega)
        have y2 : ¬ y = 2 := by rw [ey]; exact nI_ne (b := 2) (by omega) (by omega) (by omega)
        have yi : (7 : Int32) + y - 10 = nI (7 + p) := by
          rw [ey, show (7 : Int32) = nI 7 from rfl, nI_add, show (10 : Int32) = nI 10 from rfl, nI_sub (by omega)]
          congr 1
        rw [inR N hN (Or.inr A), if_pos hx, eN, B_X6_on_81, if_neg y0, B_X6_on_92, if_neg y1, B_X6_on_101, if_neg y2, B_X6_on_113, yi, ob_no (by omega) (by omega), cl_no (by omega), B_X6_on_125, TN.2.1, e2, bindV_some]
    · rw [if_neg hx]
      refine Ans.pure (vI (-2)) rfl (fun N hN => ?_)
      rw [inR N hN (Or.inr A), if_neg hx]
  · have cl : XC (d + 20) jX5_on [vR 5 0 0, vI x, vI y] M = if 0 ≤ y ∧ y ≤ 2 then X (d + 19) jX5_on 38 [some (vR 5 0 0), some (vI x), some (vI y), some (vI 0), none, none] [] M else some (some (vI (-1)), M) := by
      have e22 : X (d + 19) jX5_on 22 [some (vR 5 0 0), some (vI x), some (vI y), none, none, none] [vI 0] M = if 0 ≤ y ∧ y ≤ 2 then X (d + 19) jX5_on 38 [some (vR 5 0 0), some (vI x), some (vI y), some (vI 0), none, none] [] M else some (some (vI (-1)), M) := by
        rw [B_X5_on_22, eq_00]
        by_cases q1 : y < 0
        · rw [if_pos q1, B_X5_on_36, if_neg (fun q => absurd (Int32.lt_of_le_of_lt q.1 q1) (Int32.lt_irrefl))]
        · rw [if_neg q1]
          by_cases q2 : y ≤ 2
          · rw [if_pos q2, if_pos ⟨Int32.not_lt.mp q1, q2⟩]
          · rw [if_neg q2, B_X5_on_36, if_neg (fun q => q2 q.2)]
      rw [E_X5_on]
      by_cases q : y < 10
      · rw [if_pos q, B_X5_on_21, e22]
      · rw [if_neg q, X5_isSinger (d + 18) hC, bindI_some, if_neg A, eq_00, B_X5_on_21, e22]
    rw [cl]
    by_cases hy : 0 ≤ y ∧ y ≤ 2
    · rw [if_pos hy, c38]
      by_cases hx : 0 ≤ x ∧ x ≤ 40
      · obtain ⟨n, hn4, rfl⟩ := in_le (n := 40) (by omega) rfl hx
        rw [if_pos hx]
        obtain ⟨M', e, T⟩ := on_cls d hq (n := n) (by omega) y 0
        obtain ⟨w1, w2, w3⟩ := goN_ok hs P n
        rcases in2 hy with rfl | rfl | rfl
        · refine ⟨vI (nI (faS (goN P s n))), M', ?_, T.1, fun N hN => ?_⟩
          · rw [e, B_X5_on_102, eq_00, B_X5_on_119, if_neg (by decide), B_X5_on_127, eq_00, X1_countFallen (d + 18) 1 M' w1 T.2.1, bindI_some, B_X5_on_148]
          · obtain ⟨N1, N', K, eN, TN⟩ := on_ref d hB hs hN hR (n := n) (by omega) 0
            obtain ⟨N2, e2, R2⟩ := TN.back (d + 18) K hN
            refine ⟨N2, ?_, R2⟩
            try dsimp only
            rw [inR N hN (Or.inl hy), if_pos hx, eN, B_X6_on_81, eq_00, X6_fallenMany (d + 18) N' w1 TN.2.1, bindI_some, B_X6_on_125, e2, bindV_some]
        · refine ⟨vI (onF P s n), M', ?_, T.1, fun N hN => ?_⟩
          · rw [e, B_X5_on_102, eq_00, B_X5_on_119, eq_00]
          · obtain ⟨N1, N', K, eN, TN⟩ := on_ref d hB hs hN hR (n := n) (by omega) 1
            obtain ⟨N2, e2, R2⟩ := TN.back (d + 18) K hN
            refine ⟨N2, ?_, R2⟩
            try dsimp only
            rw [inR N hN (Or.inl hy), if_pos hx, eN, B_X6_on_81, ne_10, B_X6_on_92, eq_00, B_X6_on_125, e2, bindV_some]
        · obtain ⟨M2, e3, T2, _⟩ := T.allNow (d + 13) (by omega)
          refine ⟨vI (nI (nowS P (goN P s n))), M2, ?_, T2.1, fun N hN => ?_⟩
          · rw [e, B_X5_on_102, eq_00, B_X5_on_119, if_neg (by decide), B_X5_on_127, if_neg (by decide), B_X5_on_141, e3, bindI_some, B_X5_on_148]
          · obtain ⟨N1, N', K, eN, TN⟩ := on_ref d hB hs hN hR (n := n) (by omega) 2
            obtain ⟨N3, e4, TN3, _⟩ := TN.allNow (d + 13) (by omega)
            obtain ⟨N2, e2, R2⟩ := TN3.back (d + 18) K hN
            refine ⟨N2, ?_, R2⟩
            try dsimp only
            rw [inR N hN (Or.inl hy), if_pos hx, eN, B_X6_on_81, if_neg (by decide), B_X6_on_92, if_neg (by decide), B_X6_on_101, if_pos rfl, e4, bindI_some, B_X6_on_125, e2, bindV_some]
      · rw [if_neg hx]
        refine Ans.pure (vI (-2)) rfl (fun N hN => ?_)
        rw [inR N hN (Or.inl hy), if_neg hx]
    · rw [if_neg hy]
      exact Ans.pure (vI (-1)) rfl (fun N hN => inW N hN ⟨hy, A⟩)
theorem first_hit (p : Nat → Prop) : ∀ N, (∀ b, b < N → ¬ p b) ∨ ∃ b, b < N ∧ p b ∧ ∀ c, c < b → ¬ p c
  | 0 => Or.inl (fun b h => absurd h (by omega))
  | N + 1 => by
    rcases first_hit p N with h | ⟨b, h1, h2, h3⟩
    · by_cases c : p N
      · exact Or.inr ⟨N, by omega, c, h⟩
      · refine Or.inl (fun b hb => ?_)
        by_cases e : b = N
        · subst e; exact c
        · exact h b (by omega)
    · exact Or.inr ⟨b, by omega, h2, h3⟩
def stH (P : List Cl) (s : St) (b : Nat) : Prop := ¬ (loS (goN P s b) (nowS P (goN P s b))).1 = 0
theorem q_steady (d : Nat) {B : Nat} {s : St} {P : List Cl} {M : Mem} (h : QC B s P M) : Ans M s (XC (d + 20) jX5_steady [vR 5 0 0] M) (fun N => XC (d + 20) jX6_steady [vR 6 0 0] N) := by
  obtain ⟨hB, hs, hC, hH, hR⟩ := h
  obtain ⟨M1, e1, T1⟩ := TC.become (d + 18) hs hC hH
  have cls : ∀ n, n ≤ 61 → (∀ b, b < n → ¬ stH P s b) → ∃ M', XC (d + 20) jX5_steady [vR 5 0 0] M = X (d + 19) jX5_steady 13 [some (vR 5 0 0), some (vI (nI n))] [] M' ∧ TC M (B + n) (goN P s n) P M' := fun n hn hh => by
    obtain ⟨M', e, T⟩ := loop_ex (fun i (zM : Mem) => X (d + 19) jX5_steady 13 [some (vR 5 0 0), some (vI (nI i))] [] zM) (fun i zM => TC M (B + i) (goN P s i) P zM) n M1 T1 (fun i zM hi zT => by
      obtain ⟨zM1, ze1, zT1, _⟩ := zT.allNow (d + 13) (by omega)
      obtain ⟨zM2, ze2, zT2⟩ := zT1.beat (d + 13) (by omega)
      refine ⟨zM2, ?_, zT2⟩
      try dsimp only
      obtain ⟨w1, w2, w3⟩ := goN_ok hs P i
      have hw := w1.now (by omega) hH.2.2
      have h0 : (loS (goN P s i) (nowS P (goN P s i))).1 = 0 := Classical.not_not.mp (hh i hi)
      have l60 : ¬ (60 : Int32) < nI i := nI_nlt (a := 60) (by omega) (by omega)
      rw [B_X5_steady_13, if_neg l60, ze1, bindI_some, X1_looseBits (d + 17) 1 (by omega) zM1 w1 zT1.2.1, bindI_some, h0]
      rw [show nI 0 = 0 from rfl, eq_00, B_X5_steady_38, ze2, bindI_some, nI_1])
    refine ⟨M', ?_, T⟩
    rw [E_X5_steady, e1, bindV_some]
    exact e
  have ref : ∀ N, rA N 2 = s → ∃ N1, Kp N N1 ∧ ∀ n, n ≤ 61 → (∀ b, b < n → ¬ stH P s b) → ∃ N', XC (d + 20) jX6_steady [vR 6 0 0] N = X (d + 19) jX6_steady 9 [some (vR 6 0 0), some (vI (-5)), some (vI (nI n))] [] N' ∧ TR N1 (B + n) s (goN P s n) P N' := fun N hN => by
    obtain ⟨N1, eN, K, TN⟩ := TR.keeps (d + 18) hs hN hR
    refine ⟨N1, K, fun n hn hh => ?_⟩
    obtain ⟨N', e, T⟩ := loop_ex (fun i (zM : Mem) => X (d + 19) jX6_steady 9 [some (vR 6 0 0), some (vI (-5)), some (vI (nI i))] [] zM) (fun i zM => TR N1 (B + i) s (goN P s i) P zM) n N1 TN (fun i zM hi zT => by
      obtain ⟨zM1, ze1, zT1, _⟩ := zT.allNow (d + 13) (by omega)
      obtain ⟨zM2, ze2, zT2⟩ := zT1.goes (d + 12) (by omega)
      refine ⟨zM2, ?_, zT2⟩
      try dsimp only
      obtain ⟨w1, w2, w3⟩ := goN_ok hs P i
      have hw := w1.now (by omega) hH.2.2
      have h0 : (loS (goN P s i) (nowS P (goN P s i))).1 = 0 := Classical.not_not.mp (hh i hi)
      have l60 : ¬ (60 : Int32) < nI i := nI_nlt (a := 60) (by omega) (by omega)
      rw [B_X6_steady_9, if_neg l60, if_pos rfl, ze1, bindI_some, X6_looseBy (d + 17) (by omega) zM1 w1 zT1.2.1, bindI_some, h0]
      rw [show nI 0 = 0 from rfl, eq_00, B_X6_steady_36, B_X6_steady_38, ze2, bindI_some, nI_1])
    refine ⟨N', ?_, T⟩
    rw [E_X6_steady, eN, bindV_some]
    exact e
  rcases first_hit (stH P s) 61 with hh | ⟨b, hb, h1, h2⟩
  · obtain ⟨M', e, T⟩ := cls 61 (by omega) hh
    refine ⟨vI (-5), M', ?_, T.1, fun N hN => ?_⟩
    · rw [e, B_X5_steady_13, if_pos (by decide), B_X5_steady_52]
    · obtain ⟨N1, K, f⟩ := ref N hN
      obtain ⟨N', e, T⟩ := f 61 (by omega) hh
      obtain ⟨N2, e2, R2⟩ := T.back (d + 18) K hN
      refine ⟨N2, ?_, R2⟩
      try dsimp only
      rw [e, B_X6_steady_9, if_pos (by decide), B_X6_steady_50, e2, bindV_some]
  · obtain ⟨M', e, T⟩ := cls b (by omega) h2
    obtain ⟨w1, w2, w3⟩ := goN_ok hs P b
    have hw := w1.now (by omega) hH.2.2
    have l60 : ¬ (60 : Int32) < nI b := nI_nlt (a := 60) (by omega) (by omega)
    have hl := loS_lt (all := nowS P (goN P s b)) w1.nt.2
    have n0 : ¬ nI (loS (goN P s b) (nowS P (goN P s b))).1 = 0 := fun q => h1 ((nI_eq (b := 0) (by omega) (by omega)).mp q)
    obtain ⟨M2, e2, T2, _⟩ := T.allNow (d + 13) (by omega)
    refine ⟨vI (nI b), M2, ?_, T2.1, fun N hN => ?_⟩
    · rw [e, B_X5_steady_13, if_neg l60, e2, bindI_some, X1_looseBits (d + 17) 1 (by omega) M2 w1 T2.2.1, bindI_some, if_neg n0]
    · obtain ⟨N1, K, f⟩ := ref N hN
      obtain ⟨N', e, T⟩ := f b (by omega) h2
      obtain ⟨N3, e3, T3, _⟩ := T.allNow (d + 13) (by omega)
      obtain ⟨N4, e4, T4⟩ := T3.goes (d + 12) (by omega)
      obtain ⟨N2, e2, R2⟩ := T4.back (d + 18) K hN
      refine ⟨N2, ?_, R2⟩
      try dsimp only
      have nb : ¬ nI b = -5 := fun q => absurd (q ▸ (by decide : (-5 : Int32) < 0)) (nI_pos (by omega))
      rw [e, B_X6_steady_9, if_neg l60, if_pos rfl, e3, bindI_some, X6_looseBy (d + 17) (by omega) N3 w1 T3.2.1, bindI_some, if_neg n0, B_X6_steady_38, e4, bindI_some, B_X6_steady_9]
      by_cases l : (60 : Int32) < nI b + 1
      · rw [if_pos l, B_X6_steady_50, e2, bindV_some]
      · rw [if_neg l, if_neg nb, B_X6_steady_50, e2, bindV_some]
