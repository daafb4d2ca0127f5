/-! mean, odds, wage -/
def meS (P : List Cl) (s : St) (n : Nat) : Nat := itr (fun k a => a + nowS P (goN P s k)) n 0
theorem meS_le {B : Nat} (hB : B < 2 ^ 29) {s : St} (hs : Wf B s) {P : List Cl} (hP : WfP P) {n : Nat} (hn : n ≤ 60) : meS P s n ≤ 75600 * n := itr_inv (fun i a => a ≤ 75600 * i) n (Nat.le_refl _) (fun i a hi ha => by
  have := (goN_ok hs P i).1.now (by omega) hP
  try dsimp only
  omega)
theorem nI_iL {n : Nat} (h : n < 2 ^ 31) : (nI n).toInt64 = iL n := iI_iL (z := (n : Int)) (by omega) (by omega)
theorem nI_dif (a b : Nat) : nI a - nI b = iI ((a : Int) - (b : Int)) := by
  rw [← iI_n, ← iI_n]
  exact iI_sub _ _
theorem q_mean (d : Nat) (x y : Int32) {B : Nat} {s : St} {P : List Cl} {M : Mem} (h : QC B s P M) : Ans M s (XC (d + 20) jX5_mean [vR 5 0 0, vI x, vI y] M) (fun N => XC (d + 20) jX6_mean [vR 6 0 0, vI x, vI y] N) := by
  obtain ⟨hB, hs, hC, hH, hR⟩ := h
  by_cases q : 1 ≤ x ∧ x ≤ 40
  · obtain ⟨n, hn, rfl⟩ := in_le (n := 40) (by omega) rfl ⟨Int32.le_trans (by decide) q.1, q.2⟩
    have hn1 : 1 ≤ n := by
      have := (nI_leI (a := 1) (b := n) (by omega) (by omega)).mp q.1
      omega
    have hme := meS_le hB hs hH.2.2 (n := n) (by omega)
    obtain ⟨M1, e1, T1⟩ := TC.become (d + 18) hs hC hH
    obtain ⟨M3, e3, T3⟩ := loop_ex (fun i (zM : Mem) => X (d + 19) jX5_mean 31 [some (vR 5 0 0), some (vI (nI n)), some (vI y), some (vI (nI (meS P s i))), some (vI (nI i))] [] zM) (fun i zM => TC M (B + i) (goN P s i) P zM) n M1 T1 (fun i zM hi zT => by
      obtain ⟨m1, f1, t1, _⟩ := zT.allNow (d + 13) (by omega)
      obtain ⟨m2, f2, t2⟩ := t1.beat (d + 13) (by omega)
      refine ⟨m2, ?_, t2⟩
      try dsimp only
      have es : meS P s (i + 1) = meS P s i + nowS P (goN P s i) := rfl
      rw [B_X5_mean_31, ge_no hi (by omega), f1, bindI_some, f2, bindI_some, nI_1, nI_add, es])
    have cls : XC (d + 20) jX5_mean [vR 5 0 0, vI (nI n), vI y] M = if 0 ≤ y ∧ y ≤ 1 then some (some (vL (frV (meS P s n) n y)), M3) else some (some (vL (-9223372036854775808)), M3) := by
      rw [E_X5_mean, rng, if_pos q, B_X5_mean_15, e1, bindV_some]
      refine Eq.trans e3 ?_
      try dsimp only
      have ef := frac_cls (d + 17) M3 (up := (meS P s n : Int)) (n := n) (by omega) (by omega) (by omega) (by omega) y
      have ef' : XC (d + 19) jX5_inLowestTerms [vI (nI (meS P s n)), vI (nI n), vI y] M3 = _ := ef
      rw [B_X5_mean_31, le_self, B_X5_mean_61, ef']
      by_cases b : 0 ≤ y ∧ y ≤ 1
      · rw [if_pos b, bindL_some]
      · rw [if_neg b, bindL_some]
    rw [cls]
    by_cases b : 0 ≤ y ∧ y ≤ 1
    · rw [if_pos b]
      refine ⟨_, M3, rfl, T3.1, fun N hN => ?_⟩
      obtain ⟨N1, g1, K, U1⟩ := TR.keeps (d + 18) hs hN hR
      obtain ⟨N3, g3, U3⟩ := loop_ex (fun i (zM : Mem) => X (d + 19) jX6_mean 32 [some (vR 6 0 0), some (vI (nI n)), some (vI y), some (vL (iL (meS P s i : Nat))), none, some (vI (nI i))] [] zM) (fun i zM => TR N1 (B + i) s (goN P s i) P zM) n N1 U1 (fun i zM hi zT => by
        obtain ⟨m1, f1, t1, _⟩ := zT.allNow (d + 13) (by omega)
        obtain ⟨m2, f2, t2⟩ := t1.goes (d + 12) (by omega)
        refine ⟨m2, ?_, t2⟩
        have hw := (goN_ok hs P i).1.now (by omega) hH.2.2
        try dsimp only
        have es : ((meS P s (i + 1) : Nat) : Int) = (meS P s i : Int) + (nowS P (goN P s i) : Int) := Int.natCast_add _ _
        rw [B_X6_mean_32, ge_no hi (by omega), f1, bindI_some]
        try dsimp only
        rw [f2, bindI_some, nI_1, nI_iL (by omega), iL_add, es])
      obtain ⟨N2, g2, R2⟩ := U3.back (d + 18) K hN
      refine ⟨N2, ?_, R2⟩
      try dsimp only
      rw [E_X6_mean, X6_in, bindI_some, if_pos q, ne_10, X6_in, bindI_some, if_pos b, ne_10, B_X6_mean_23, g1, bindV_some]
      refine Eq.trans g3 ?_
      try dsimp only
      rw [B_X6_mean_32, le_self, B_X6_mean_57, g2, bindV_some, nI_iL (by omega), frac_ref (d + 18) N2 (by omega) (by omega) (by omega) (by omega), bindL_some]
    · rw [if_neg b]
      refine ⟨_, M3, rfl, T3.1, fun N hN => ⟨N, ?_, RQ.rf⟩⟩
      try dsimp only
      rw [E_X6_mean, X6_in, bindI_some, if_pos q, ne_10, X6_in, bindI_some, if_neg b, eq_00, B_X6_mean_19]
  · refine Ans.pure (vL (-9223372036854775808)) ?_ (fun N hN => ?_)
    · rw [E_X5_mean, rng, if_neg q, B_X5_mean_11]
    · rw [E_X6_mean, X6_in, bindI_some, if_neg q, eq_00, B_X6_mean_19]
def od1 (s : St) (f : Nat → Nat) (i z : Nat) : Nat := if lmS s f (wo 63 i) = 0 then z + 1 else z
def odS (s : St) (f : Nat → Nat) (n : Nat) : Nat := itr (od1 s f) n 0
theorem odS_le (s : St) (f : Nat → Nat) (n : Nat) : odS s f n ≤ n := itr_inv (fun i z => z ≤ i) n (Nat.le_refl _) (fun i z hi hz => by
  unfold od1
  split <;> omega)
theorem q_odds (d : Nat) (y : Int32) {B : Nat} {s : St} {P : List Cl} {M : Mem} (h : QC B s P M) : Ans M s (XC (d + 20) jX5_odds [vR 5 0 0, vI y] M) (fun N => XC (d + 20) jX6_odds [vR 6 0 0, vI y] N) := by
  obtain ⟨hB, hs, hC, hH, hR⟩ := h
  obtain ⟨hn, h6⟩ := hs.ns
  by_cases c : nsS s = 0
  · have e0 : s 19 = 0 := by rw [hn, c]; rfl
    refine Ans.pure (vL (-9223372036854775808)) ?_ (fun N hN => ?_)
    · rw [E_X5_odds, hC.c0, if_pos e0]
    · rw [E_X6_odds, X6_in, bindI_some]
      by_cases b : 0 ≤ y ∧ y ≤ 1
      · rw [if_pos b, ne_10, hN, if_pos e0, B_X6_odds_19]
      · rw [if_neg b, eq_00, B_X6_odds_19]
  · have n0 : ¬ s 19 = 0 := by rw [hn]; exact nI_ne0 (by omega) (by omega)
    obtain ⟨M1, e1, D1, F1⟩ := X1_measure (d + 14) 0 M (by omega) hs hC hH
    have hC1 := hC.sc D1
    have hS := siS_sub (s := s) h6
    have hle := odS_le s (foS P s) (nsS s)
    have L := loop_all (fun i (z : Nat) => X (d + 19) jX5_odds 34 [some (vR 5 0 0), some (vI y), some (vI (nI (siS s))), some (vI (nI z)), some (vI (nI i))] [] M1) (od1 s (foS P s)) (nsS s) 0 (fun i z hi => by
      have hi6 : i < 6 := by omega
      have hl := lmS_le s (foS P s) (wo 63 i)
      try dsimp only
      rw [B_X5_odds_34, hC1.c0, hn, ge_no hi (by omega), wo_p hS.1 hi6, X5_looseOf (d + 14) hs hC1 F1 (hS.wo hi6), bindI_some, lmS_wo h6 _ hi6]
      unfold od1
      by_cases q : lmS s (foS P s) (wo 63 i) = 0
      · have q1 : nI (lmS s (foS P s) (wo 63 i)) = 0 := by rw [q]; rfl
        rw [if_pos q1, if_pos q, B_X5_odds_64, nI_1, nI_1]
      · rw [if_neg (nI_ne0 (by omega) (by omega)), if_neg q, B_X5_odds_64, nI_1])
    have cls : XC (d + 20) jX5_odds [vR 5 0 0, vI y] M = if 0 ≤ y ∧ y ≤ 1 then some (some (vL (frV (odS s (foS P s) (nsS s)) (nsS s) y)), M1) else some (some (vL (-9223372036854775808)), M1) := by
      rw [E_X5_odds, hC.c0, if_neg n0, B_X5_odds_14, e1, bindV_some, X1_singing (d + 18) 0 M1 hs hC1, bindI_some]
      refine Eq.trans L ?_
      try dsimp only
      have ef := frac_cls (d + 17) M1 (up := (odS s (foS P s) (nsS s) : Int)) (n := nsS s) (by omega) (by omega) (by omega) (by omega) y
      have ef' : XC (d + 19) jX5_inLowestTerms [vI (nI (itr (od1 s (foS P s)) (nsS s) 0)), vI (nI (nsS s)), vI y] M1 = _ := ef
      rw [B_X5_odds_34, hC1.c0, hn, le_self, B_X5_odds_70, hC1.c0, hn, ef']
      by_cases b : 0 ≤ y ∧ y ≤ 1
      · rw [if_pos b, bindL_some]
      · rw [if_neg b, bindL_some]
    rw [cls]
    by_cases b : 0 ≤ y ∧ y ≤ 1
    · rw [if_pos b]
      refine ⟨_, M1, rfl, D1.mono scr_SCR, fun N hN => ?_⟩
      obtain ⟨N', e, D, F⟩ := X6_looksForForces (d + 15) N (by omega) hs hN hR
      have hA' := D.s2.trans hN
      refine ⟨N', ?_, D.sc⟩
      have LR := loop_all (fun i (z : Nat) => X (d + 19) jX6_odds 32 [some (vR 6 0 0), some (vI y), some (vL (iL z)), none, some (vI (nI i))] [] N') (od1 s (foS P s)) (nsS s) 0 (fun i z hi => by
        have hi6 : i < 6 := by omega
        have hl := lmS_le s (foS P s) (wo 63 i)
        try dsimp only
        rw [B_X6_odds_32, hA', hn, ge_no hi (by omega), wo_63 hi6, X6_looseMany (d + 13) hs hA' F (wo_lt (by decide) hi6), bindI_some]
        unfold od1
        by_cases q : lmS s (foS P s) (wo 63 i) = 0
        · have q1 : nI (lmS s (foS P s) (wo 63 i)) = 0 := by rw [q]; rfl
          have e1 : iL (z : Int) + 1 = iL ((z + 1 : Nat) : Int) := iL_add z 1
          rw [if_pos q1, if_pos q, B_X6_odds_66, nI_1, e1]
        · have e1 : iL (z : Int) + 0 = iL (z : Int) := iL_add z 0 |>.trans (by rw [Int.add_zero])
          rw [if_neg (nI_ne0 (by omega) (by omega)), if_neg q, B_X6_odds_65, B_X6_odds_66, nI_1, e1])
      try dsimp only
      rw [E_X6_odds, X6_in, bindI_some, if_pos b, ne_10, hN, if_neg n0, B_X6_odds_23, e, bindV_some]
      refine Eq.trans LR ?_
      try dsimp only
      have ef := frac_ref (d + 18) N' (up := (odS s (foS P s) (nsS s) : Int)) (n := nsS s) (by omega) (by omega) (by omega) (by omega) y
      have ef' : XC (d + 19) jX6_lowest [vL (iL (itr (od1 s (foS P s)) (nsS s) 0 : Nat)), vL (iL (nsS s : Nat)), vI y] N' = _ := ef
      rw [B_X6_odds_32, hA', hn, le_self, B_X6_odds_74, hA', hn, nI_iL (by omega), ef', bindL_some]
    · rw [if_neg b]
      refine ⟨_, M1, rfl, D1.mono scr_SCR, fun N hN => ⟨N, ?_, RQ.rf⟩⟩
      try dsimp only
      rw [E_X6_odds, X6_in, bindI_some, if_neg b, eq_00, B_X6_odds_19]
/-! subsets -/
def nsb (a o : Nat) : Nat := a &&& (63 ^^^ o)
theorem nsb_p {a o : Nat} (ha : a < 64) (ho : o < 64) : nI a &&& (nI o ^^^ (-1)) = nI (nsb a o) := by
  have h9 : ∀ a, a < 64 → ∀ o, o < 64 → nI a &&& (nI o ^^^ (-1)) = nI (nsb a o) := by decide +kernel
  exact h9 a ha o ho
theorem nsb_lt {a o : Nat} (ha : a < 64) : nsb a o < 64 := Nat.lt_of_le_of_lt Nat.and_le_left ha
theorem nsb_sub {a o q : Nat} (ha : a < 64) (ho : o < 64) (h : nsb a o = 0) (hq : q < 6) : bt a q → bt o q := by
  intro b
  unfold bt at *
  have e : (nsb a o).testBit q = false := by rw [h]; exact Nat.zero_testBit q
  unfold nsb at e
  rw [Nat.testBit_and, Nat.testBit_xor, b] at e
  have h63 : Nat.testBit 63 q = true := bt_63 hq
  rw [h63] at e
  revert e
  cases o.testBit q <;> simp
theorem nsb_0 (o : Nat) : nsb 0 o = 0 := Nat.zero_and _
def waD (s : St) (f : Nat → Nat) (p k : Nat) : Int := (alS s f (k ||| 2 ^ p) : Int) - (alS s f k : Int)
def wa1 (s : St) (f : Nat → Nat) (p o k : Nat) (z : Int × Nat) : Int × Nat := if nsb k o = 0 then (z.1 + waD s f p k, z.2 + 1) else z
def waO (i : Nat) (z : Int × Nat) : Prop := -(75600 * i : Int) ≤ z.1 ∧ z.1 ≤ 75600 * i ∧ z.2 ≤ i ∧ (0 < i → 0 < z.2)
theorem wa1_ok {s : St} {f : Nat → Nat} (h6 : nsS s ≤ 6) (hf : ∀ i, i < nsS s → f i ≤ 2100) (p o : Nat) {i : Nat} {z : Int × Nat} (hz : waO i z) : waO (i + 1) (wa1 s f p o i z) := by
  have l1 := alS_le (s := s) (f := f) (i ||| 2 ^ p) h6 hf
  have l2 := alS_le (s := s) (f := f) i h6 hf
  obtain ⟨z1, z2, z3, z4⟩ := hz
  unfold wa1 waO
  by_cases q : nsb i o = 0
  · rw [if_pos q]
    unfold waD
    simp only
    omega
  · rw [if_neg q]
    have : 0 < i := by
      rcases Nat.eq_zero_or_pos i with h | h
      · subst h; exact absurd (nsb_0 o) q
      · exact h
    refine ⟨by omega, by omega, by omega, fun _ => z4 this⟩
theorem q_wage (d : Nat) (x y : Int32) {B : Nat} {s : St} {P : List Cl} {M : Mem} (h : QC B s P M) : Ans M s (XC (d + 20) jX5_wage [vR 5 0 0, vI x, vI y] M) (fun N => XC (d + 20) jX6_wage [vR 6 0 0, vI x, vI y] N) := by
  obtain ⟨hB, hs, hC, hH, hR⟩ := h
  obtain ⟨hn, h6⟩ := hs.ns
  by_cases a : isSg s x
  · obtain ⟨p, hp, rfl⟩ := a.num hs
    have hp6 : p < 6 := by omega
    have rNo : ¬ (0 ≤ y ∧ y ≤ 1) → ∀ N, rA N 2 = s → XC (d + 20) jX6_wage [vR 6 0 0, vI (nI p), vI y] N = some (some (vL (-9223372036854775808)), N) := fun b N hN => by
      rw [E_X6_wage, X6_isSinger (d + 17) hs hN, bindI_some, if_pos a, ne_10, X6_in, bindI_some, if_neg b, eq_00, B_X6_wage_17]
    have rYes : (0 ≤ y ∧ y ≤ 1) → ∀ N, rA N 2 = s → XC (d + 20) jX6_wage [vR 6 0 0, vI (nI p), vI y] N = X (d + 19) jX6_wage 21 [some (vR 6 0 0), some (vI (nI p)), some (vI y), none, none, none, none, none, none] [] N := fun b N hN => by
      rw [E_X6_wage, X6_isSinger (d + 17) hs hN, bindI_some, if_pos a, ne_10, X6_in, bindI_some, if_pos b, ne_10]
    by_cases c0 : s (1 + p) = -1
    · have nsg : ¬ sg s p := fun q => q c0
      have cls : XC (d + 20) jX5_wage [vR 5 0 0, vI (nI p), vI y] M = if 0 ≤ y ∧ y ≤ 1 then some (some (vL (frV 0 1 y)), M) else some (some (vL (-9223372036854775808)), M) := by
        have ef := frac_cls (d + 17) M (up := 0) (n := 1) (by omega) (by omega) (by omega) (by omega) y
        have ef' : XC (d + 19) jX5_inLowestTerms [vI 0, vI 1, vI y] M = _ := ef
        rw [E_X5_wage, X5_isSinger (d + 18) hC, bindI_some, if_pos a, ne_10, B_X5_wage_12, ob_no (by omega) (by omega), cl_no (by omega), hC.a8 hp6, if_pos c0, ef']
        by_cases b : 0 ≤ y ∧ y ≤ 1
        · rw [if_pos b, bindL_some]
        · rw [if_neg b, bindL_some]
      rw [cls]
      by_cases b : 0 ≤ y ∧ y ≤ 1
      · rw [if_pos b]
        refine Ans.pure _ rfl (fun N hN => ?_)
        have ef := frac_ref (d + 18) N (up := 0) (n := 1) (by omega) (by omega) (by omega) (by omega) y
        have ef' : XC (d + 19) jX6_lowest [vL 0, vL 1, vI y] N = _ := ef
        rw [rYes b N hN, B_X6_wage_21, X6_doesSing _ _ hN hp6, bindI_some, if_neg nsg, eq_00, ef', bindL_some]
      · rw [if_neg b]
        exact Ans.pure _ rfl (fun N hN => rNo b N hN)
    · have hsg : sg s p := c0
      obtain ⟨M1, e1, D1, F1⟩ := X1_measure (d + 14) 0 M (by omega) hs hC hH
      have hC1 := hC.sc D1
      have hS := siS_sub (s := s) h6
      have hF : ∀ i, i < nsS s → foS P s i ≤ 2100 := fun i hi => (F1 i hi).2
      generalize ho : wo (siS s) p = o
      have ho4 : o < 64 := by rw [← ho]; exact wo_lt hS.1 hp6
      have hoS : Sub s o := by rw [← ho]; exact hS.wo hp6
      have subs : ∀ k, k < 64 → nsb k o = 0 → Sub s k ∧ Sub s (k ||| 2 ^ p) := fun k hk q => by
        have s1 : Sub s k := ⟨hk, fun r hr hb => hoS.2 r hr (nsb_sub hk ho4 q hr hb)⟩
        refine ⟨s1, or_lt hk hp6, fun r hr hb => ?_⟩
        rcases bt_or.mp hb with w | w
        · exact s1.2 r hr w
        · subst w; exact hsg
      have hwa := itr_inv (f := wa1 s (foS P s) p o) (s := ((0, 0) : Int × Nat)) waO (o + 1) ⟨by decide, by decide, by decide, fun q => absurd q (by omega)⟩ (fun i z hi hz => wa1_ok h6 hF p o hz)
      obtain ⟨w1, w2, w3, w4⟩ := hwa
      have L := (loop_itr (fun i (z : Int × Nat) => X (d + 19) jX5_wage 65 [some (vR 5 0 0), none, some (vI y), some (vI (nI (2 ^ p))), some (vI (nI o)), some (vI (iI z.1)), some (vI (nI z.2)), some (vI (nI i))] [] M1) (wa1 s (foS P s) p o) (fun _ _ => True) (o + 1) ((0, 0) : Int × Nat) trivial (fun i z hi _ => by
        refine ⟨?_, trivial⟩
        have hi6 : i < 64 := by omega
        have hl := nsb_lt (o := o) hi6
        try dsimp only
        rw [B_X5_wage_65, if_neg (nI_nlt (by omega) (by omega)), nsb_p hi6 ho4]
        unfold wa1
        by_cases q : nsb i o = 0
        · obtain ⟨s1, s2⟩ := subs i hi6 q
          have q1 : nI (nsb i o) = 0 := by rw [q]; rfl
          rw [if_pos q1, if_pos q, or_p hi6 hp6, X1_allOf (d + 15) 0 M1 hs hC1 F1 s2, bindI_some, X1_allOf (d + 15) 0 M1 hs hC1 F1 s1, bindI_some, B_X5_wage_111, nI_1, nI_1, nI_dif, iI_add]
          rfl
        · rw [if_neg (nI_ne0 (by omega) (by omega)), if_neg q, B_X5_wage_111, nI_1]) (o + 1) (Nat.le_refl _)).1
      generalize hz : itr (wa1 s (foS P s) p o) (o + 1) ((0, 0) : Int × Nat) = z at w1 w2 w3 w4 L
      have cls : XC (d + 20) jX5_wage [vR 5 0 0, vI (nI p), vI y] M = if 0 ≤ y ∧ y ≤ 1 then some (some (vL (frV z.1 z.2 y)), M1) else some (some (vL (-9223372036854775808)), M1) := by
        have ef := frac_cls (d + 17) M1 (up := z.1) (n := z.2) (by omega) (by omega) (w4 (by omega)) (by omega) y
        rw [E_X5_wage, X5_isSinger (d + 18) hC, bindI_some, if_pos a, ne_10, B_X5_wage_12, ob_no (by omega) (by omega), cl_no (by omega), hC.a8 hp6, if_neg c0, B_X5_wage_32, e1, bindV_some]
        try dsimp only
        rw [X1_singing (d + 18) 0 M1 hs hC1, bindI_some, wo_p hS.1 hp6, ho, shl_p hp6]
        refine Eq.trans L ?_
        try dsimp only
        rw [B_X5_wage_65, if_pos (nI_lt (by omega) (by omega)), B_X5_wage_117, ef]
        by_cases b : 0 ≤ y ∧ y ≤ 1
        · rw [if_pos b, bindL_some]
        · rw [if_neg b, bindL_some]
      rw [cls]
      by_cases b : 0 ≤ y ∧ y ≤ 1
      · rw [if_pos b]
        refine ⟨_, M1, rfl, D1.mono scr_SCR, fun N hN => ?_⟩
        obtain ⟨N', e, D, F⟩ := X6_looksForForces (d + 15) N (by omega) hs hN hR
        have hA' := D.s2.trans hN
        refine ⟨N', ?_, D.sc⟩
        have LR := (loop_itr (fun i (z : Int × Nat) => X (d + 19) jX6_wage 60 [some (vR 6 0 0), some (vI (nI p)), some (vI y), some (vI (nI o)), some (vL (iL z.1)), none, some (vL (iL z.2)), none, some (vI (nI i))] [] N') (wa1 s (foS P s) p o) (fun _ _ => True) (o + 1) ((0, 0) : Int × Nat) trivial (fun i z hi _ => by
          refine ⟨?_, trivial⟩
          have hi6 : i < 64 := by omega
          have hl := nsb_lt (o := o) hi6
          have l1 := alS_le (s := s) (f := foS P s) (i ||| 2 ^ p) h6 hF
          have l2 := alS_le (s := s) (f := foS P s) i h6 hF
          try dsimp only
          rw [B_X6_wage_60, if_neg (nI_nlt (by omega) (by omega)), nsb_p hi6 ho4]
          unfold wa1
          by_cases q : nsb i o = 0
          · have q1 : nI (nsb i o) = 0 := by rw [q]; rfl
            have e1 : iL (z.2 : Int) + 1 = iL ((z.2 + 1 : Nat) : Int) := iL_add z.2 1
            rw [if_pos q1, if_pos q, shl_p hp6, or_p hi6 hp6, X6_allBy (d + 14) N' hs hA' F (or_lt hi6 hp6), bindI_some, X6_allBy (d + 14) N' hs hA' F hi6, bindI_some]
            try dsimp only
            rw [B_X6_wage_104, nI_1, e1, nI_dif, iI_iL (by omega) (by omega), iL_add]
            rfl
          · rw [if_neg (nI_ne0 (by omega) (by omega)), if_neg q, B_X6_wage_104, nI_1]) (o + 1) (Nat.le_refl _)).1
        rw [hz] at LR
        have ef := frac_ref (d + 18) N' (up := z.1) (n := z.2) (by omega) (by omega) (w4 (by omega)) (by omega) y
        try dsimp only
        rw [rYes b N hN, B_X6_wage_21, X6_doesSing _ _ hN hp6, bindI_some, if_pos hsg, ne_10, B_X6_wage_36, e, bindV_some, X6_singing (d + 17) N' hs hA', bindI_some, wo_p hS.1 hp6, ho]
        try dsimp only
        refine Eq.trans LR ?_
        try dsimp only
        rw [B_X6_wage_60, if_pos (nI_lt (by omega) (by omega)), B_X6_wage_110, ef, bindL_some]
      · rw [if_neg b]
        exact ⟨_, M1, rfl, D1.mono scr_SCR, fun N hN => ⟨N, rNo b N hN, RQ.rf⟩⟩
  · refine Ans.pure (vL (-9223372036854775808)) ?_ (fun N hN => ?_)
    · rw [E_X5_wage, X5_isSinger (d + 18) hC, bindI_some, if_neg a, eq_00]
    · rw [E_X6_wage, X6_isSinger (d + 17) hs hN, bindI_some, if_neg a, eq_00, B_X6_wage_17]
