/-! count, trace, as -/
theorem c_count (d : Nat) (x : Int32) {B : Nat} {M : Mem} (I : Inv B M) : Call B M (fun M => XC (d + 20) jX5_count [vR 5 0 0, vI x] M) (fun N => XC (d + 20) jX6_count [vR 6 0 0, vI x] N) := by
  obtain ⟨_, _, hac, Ps, hG, _, _⟩ := id I
  obtain ⟨s, hs0⟩ : ∃ s, rA M 2 = s := ⟨_, rfl⟩
  rw [hs0] at hG
  obtain ⟨hs, hr, hf, hC, hS, _, _⟩ := hG
  obtain ⟨k, k1, k2, k3, k4⟩ := hac
  have ref : ∀ w : Nat, w ≤ 6 → XC (d + 20) jX6_count [vR 6 0 0, vI (nI w)] M = some (some (vI (s (19 + w))), M) := fun w hw => by
    have n7 : ¬ nI w = 7 := nI_ne (b := 7) (by omega) (by omega) (by omega)
    have i6 : 0 ≤ nI w ∧ nI w ≤ 6 := ⟨nI_le (a := 0) (by omega) (by omega), nI_le (b := 6) hw (by omega)⟩
    have e19 : (19 : Int32) + nI w = nI (19 + w) := nI_add 19 w
    rw [E_X6_count, if_neg n7, B_X6_count_13, X6_in, bindI_some, if_pos i6, ne_10, e19, ob_no (by omega) (by omega), cl_no (by omega), hs0, B_X6_count_36]
  by_cases a : 0 ≤ x ∧ x ≤ 7
  · rcases in7 a with rfl | rfl | rfl | rfl | rfl | rfl | rfl | rfl
    · exact Call.same I (vI (s 19)) (by simp only [E_X5_count, B_X5_count_48, B_X5_count_56, B_X5_count_64, B_X5_count_72, B_X5_count_80, B_X5_count_88, B_X5_count_96, B_X5_count_104, B_X5_count_112, nn01, nn02, nn03, nn04, nn05, nn06, nn07, nn10, nn12, nn13, nn14, nn15, nn16, nn17, nn20, nn21, nn23, nn24, nn25, nn26, nn27, nn30, nn31, nn32, nn34, nn35, nn36, nn37, nn40, nn41, nn42, nn43, nn45, nn46, nn47, nn50, nn51, nn52, nn53, nn54, nn56, nn57, nn60, nn61, nn62, nn63, nn64, nn65, nn67, nn70, nn71, nn72, nn73, nn74, nn75, nn76, ge_no, ob_no, ob_n2, cl_no, nI_1, le_self, zo_0, zo_1, bindI_some, bindV_some, bindL_some, ite_true, ite_false, if_true, if_false, or_true, true_or, hC.c0]) (ref 0 (by omega))
    · exact Call.same I (vI (s 20)) (by simp only [E_X5_count, B_X5_count_48, B_X5_count_56, B_X5_count_64, B_X5_count_72, B_X5_count_80, B_X5_count_88, B_X5_count_96, B_X5_count_104, B_X5_count_112, nn01, nn02, nn03, nn04, nn05, nn06, nn07, nn10, nn12, nn13, nn14, nn15, nn16, nn17, nn20, nn21, nn23, nn24, nn25, nn26, nn27, nn30, nn31, nn32, nn34, nn35, nn36, nn37, nn40, nn41, nn42, nn43, nn45, nn46, nn47, nn50, nn51, nn52, nn53, nn54, nn56, nn57, nn60, nn61, nn62, nn63, nn64, nn65, nn67, nn70, nn71, nn72, nn73, nn74, nn75, nn76, ge_no, ob_no, ob_n2, cl_no, nI_1, le_self, zo_0, zo_1, bindI_some, bindV_some, bindL_some, ite_true, ite_false, if_true, if_false, or_true, true_or, hC.c1]) (ref 1 (by omega))
    · exact Call.same I (vI (s 21)) (by simp only [E_X5_count, B_X5_count_48, B_X5_count_56, B_X5_count_64, B_X5_count_72, B_X5_count_80, B_X5_count_88, B_X5_count_96, B_X5_count_104, B_X5_count_112, nn01, nn02, nn03, nn04, nn05, nn06, nn07, nn10, nn12, nn13, nn14, nn15, nn16, nn17, nn20, nn21, nn23, nn24, nn25, nn26, nn27, nn30, nn31, nn32, nn34, nn35, nn36, nn37, nn40, nn41, nn42, nn43, nn45, nn46, nn47, nn50, nn51, nn52, nn53, nn54, nn56, nn57, nn60, nn61, nn62, nn63, nn64, nn65, nn67, nn70, nn71, nn72, nn73, nn74, nn75, nn76, ge_no, ob_no, ob_n2, cl_no, nI_1, le_self, zo_0, zo_1, bindI_some, bindV_some, bindL_some, ite_true, ite_false, if_true, if_false, or_true, true_or, hS.1.2.1]) (ref 2 (by omega))
    · exact Call.same I (vI (s 22)) (by simp only [E_X5_count, B_X5_count_48, B_X5_count_56, B_X5_count_64, B_X5_count_72, B_X5_count_80, B_X5_count_88, B_X5_count_96, B_X5_count_104, B_X5_count_112, nn01, nn02, nn03, nn04, nn05, nn06, nn07, nn10, nn12, nn13, nn14, nn15, nn16, nn17, nn20, nn21, nn23, nn24, nn25, nn26, nn27, nn30, nn31, nn32, nn34, nn35, nn36, nn37, nn40, nn41, nn42, nn43, nn45, nn46, nn47, nn50, nn51, nn52, nn53, nn54, nn56, nn57, nn60, nn61, nn62, nn63, nn64, nn65, nn67, nn70, nn71, nn72, nn73, nn74, nn75, nn76, ge_no, ob_no, ob_n2, cl_no, nI_1, le_self, zo_0, zo_1, bindI_some, bindV_some, bindL_some, ite_true, ite_false, if_true, if_false, or_true, true_or, hS.1.2.2.1]) (ref 3 (by omega))
    · exact Call.same I (vI (s 23)) (by simp only [E_X5_count, B_X5_count_48, B_X5_count_56, B_X5_count_64, B_X5_count_72, B_X5_count_80, B_X5_count_88, B_X5_count_96, B_X5_count_104, B_X5_count_112, nn01, nn02, nn03, nn04, nn05, nn06, nn07, nn10, nn12, nn13, nn14, nn15, nn16, nn17, nn20, nn21, nn23, nn24, nn25, nn26, nn27, nn30, nn31, nn32, nn34, nn35, nn36, nn37, nn40, nn41, nn42, nn43, nn45, nn46, nn47, nn50, nn51, nn52, nn53, nn54, nn56, nn57, nn60, nn61, nn62, nn63, nn64, nn65, nn67, nn70, nn71, nn72, nn73, nn74, nn75, nn76, ge_no, ob_no, ob_n2, cl_no, nI_1, le_self, zo_0, zo_1, bindI_some, bindV_some, bindL_some, ite_true, ite_false, if_true, if_false, or_true, true_or, hS.1.2.2.2.1]) (ref 4 (by omega))
    · exact Call.same I (vI (s 24)) (by simp only [E_X5_count, B_X5_count_48, B_X5_count_56, B_X5_count_64, B_X5_count_72, B_X5_count_80, B_X5_count_88, B_X5_count_96, B_X5_count_104, B_X5_count_112, nn01, nn02, nn03, nn04, nn05, nn06, nn07, nn10, nn12, nn13, nn14, nn15, nn16, nn17, nn20, nn21, nn23, nn24, nn25, nn26, nn27, nn30, nn31, nn32, nn34, nn35, nn36, nn37, nn40, nn41, nn42, nn43, nn45, nn46, nn47, nn50, nn51, nn52, nn53, nn54, nn56, nn57, nn60, nn61, nn62, nn63, nn64, nn65, nn67, nn70, nn71, nn72, nn73, nn74, nn75, nn76, ge_no, ob_no, ob_n2, cl_no, nI_1, le_self, zo_0, zo_1, bindI_some, bindV_some, bindL_some, ite_true, ite_false, if_true, if_false, or_true, true_or, hS.1.2.2.2.2]) (ref 5 (by omega))
    · exact Call.same I (vI (s 25)) (by simp only [E_X5_count, B_X5_count_48, B_X5_count_56, B_X5_count_64, B_X5_count_72, B_X5_count_80, B_X5_count_88, B_X5_count_96, B_X5_count_104, B_X5_count_112, nn01, nn02, nn03, nn04, nn05, nn06, nn07, nn10, nn12, nn13, nn14, nn15, nn16, nn17, nn20, nn21, nn23, nn24, nn25, nn26, nn27, nn30, nn31, nn32, nn34, nn35, nn36, nn37, nn40, nn41, nn42, nn43, nn45, nn46, nn47, nn50, nn51, nn52, nn53, nn54, nn56, nn57, nn60, nn61, nn62, nn63, nn64, nn65, nn67, nn70, nn71, nn72, nn73, nn74, nn75, nn76, ge_no, ob_no, ob_n2, cl_no, nI_1, le_self, zo_0, zo_1, bindI_some, bindV_some, bindL_some, ite_true, ite_false, if_true, if_false, or_true, true_or, hS.1.1]) (ref 6 (by omega))
    · exact Call.same I (vI (nI k)) (by simp only [E_X5_count, B_X5_count_48, B_X5_count_56, B_X5_count_64, B_X5_count_72, B_X5_count_80, B_X5_count_88, B_X5_count_96, B_X5_count_104, B_X5_count_112, nn01, nn02, nn03, nn04, nn05, nn06, nn07, nn10, nn12, nn13, nn14, nn15, nn16, nn17, nn20, nn21, nn23, nn24, nn25, nn26, nn27, nn30, nn31, nn32, nn34, nn35, nn36, nn37, nn40, nn41, nn42, nn43, nn45, nn46, nn47, nn50, nn51, nn52, nn53, nn54, nn56, nn57, nn60, nn61, nn62, nn63, nn64, nn65, nn67, nn70, nn71, nn72, nn73, nn74, nn75, nn76, ge_no, ob_no, ob_n2, cl_no, nI_1, le_self, zo_0, zo_1, bindI_some, bindV_some, bindL_some, ite_true, ite_false, if_true, if_false, or_true, true_or, k2]) (by simp only [E_X6_count, B_X6_count_13, B_X6_count_35, B_X6_count_36, ge_no, ob_no, ob_n2, cl_no, nI_1, le_self, zo_0, zo_1, bindI_some, bindV_some, bindL_some, ite_true, ite_false, if_true, if_false, or_true, true_or, k3])
  · have ny : ∀ k : Int32, 0 ≤ k → k ≤ 7 → ¬ x = k := fun k h1 h2 q => a (q ▸ ⟨h1, h2⟩)
    have n6 : ¬ (0 ≤ x ∧ x ≤ 6) := fun q => a ⟨q.1, Int32.le_trans q.2 (by decide)⟩
    refine Call.same I (vI (-1)) ?_ ?_
    · try dsimp only
      rw [E_X5_count, if_neg (ny 0 (by decide) (by decide)), if_neg (ny 1 (by decide) (by decide)), if_neg (ny 2 (by decide) (by decide)), if_neg (ny 3 (by decide) (by decide)), if_neg (ny 4 (by decide) (by decide)), if_neg (ny 5 (by decide) (by decide)), if_neg (ny 6 (by decide) (by decide)), if_neg (ny 7 (by decide) (by decide)), B_X5_count_112]
    · try dsimp only
      rw [E_X6_count, if_neg (ny 7 (by decide) (by decide)), B_X6_count_13, X6_in, bindI_some, if_neg n6, eq_00, B_X6_count_35, B_X6_count_36]
theorem c_trace (d : Nat) (x : Int32) {B : Nat} {M : Mem} (I : Inv B M) : Call B M (fun M => XC (d + 20) jX5_trace [vR 5 0 0, vI x] M) (fun N => XC (d + 20) jX6_trace [vR 6 0 0, vI x] N) := by
  obtain ⟨k, k1, k2, k3, k4⟩ := id I.2.2.1
  have pre : ∃ m, m = min k 20 ∧ XC (d + 20) jX6_trace [vR 6 0 0, vI x] M = X (d + 19) jX6_trace 20 [some (vR 6 0 0), some (vI x)] [vI (nI m), vI 0, vI x] M := by
    by_cases c : 20 ≤ k
    · have c2 : (20 : Int32) ≤ nI k := nI_le (a := 20) c (by omega)
      refine ⟨20, by omega, ?_⟩
      rw [E_X6_trace, k3, if_pos c2, B_X6_trace_18]
      rfl
    · have c2 : ¬ (20 : Int32) ≤ nI k := nI_ge (b := 20) (by omega) (by omega)
      refine ⟨k, by omega, ?_⟩
      rw [E_X6_trace, k3, if_neg c2]
  obtain ⟨m, hm, e⟩ := pre
  have ein : nI m - 1 = iI ((m : Int) - 1) := nI_dif m 1
  by_cases a : 0 ≤ x ∧ x < nI m
  · obtain ⟨i, hi, rfl⟩ := in_num (by omega) rfl a
    have l1 : ¬ nI k ≤ nI i := nI_ge (by omega) (by omega)
    have l2 : nI i < 20 := nI_lt (b := 20) (by omega) (by omega)
    have b : 0 ≤ nI i ∧ nI i ≤ nI m - 1 := ⟨a.1, by rw [ein, ← iI_n]; exact (iI_le (by omega) (by omega) (by omega) (by omega)).mpr (by omega)⟩
    refine Call.same I (vI (cA M 0 0 5 i)) ?_ ?_
    · try dsimp only
      rw [E_X5_trace, if_neg (nI_pos (by omega)), k2, if_neg l1, if_pos l2, B_X5_trace_23, ob_no (by omega) (by omega), cl_no (by omega)]
    · try dsimp only
      rw [e, B_X6_trace_20, X6_in, bindI_some, if_pos b, ne_10, ob_no (by omega) (by omega), cl_no (by omega), B_X6_trace_38, k4 i (by omega)]
  · have b : ¬ (0 ≤ x ∧ x ≤ nI m - 1) := fun q => by
      obtain ⟨i, i1, rfl⟩ := nI_of (x := x) (fun w => absurd (Int32.lt_of_le_of_lt q.1 w) (by decide))
      refine a ⟨q.1, ?_⟩
      have q2 := q.2
      rw [ein, ← iI_n, iI_le (by omega) (by omega) (by omega) (by omega)] at q2
      exact nI_lt (by omega) (by omega)
    refine Call.same I (vI (-1)) ?_ ?_
    · try dsimp only
      rw [E_X5_trace, k2, B_X5_trace_21]
      by_cases c1 : x < 0
      · rw [if_pos c1]
      · obtain ⟨i, i1, rfl⟩ := nI_of c1
        rw [if_neg c1]
        by_cases c2 : nI k ≤ nI i
        · rw [if_pos c2]
        · have c3 : ¬ nI i < 20 := fun w => by
            have w1 := (nI_ltI (b := 20) i1 (by omega)).mp w
            have w2 : ¬ k ≤ i := fun z => c2 (nI_le z (by omega))
            exact a ⟨Int32.not_lt.mp c1, nI_lt (by omega) (by omega)⟩
          rw [if_neg c2, if_neg c3]
    · try dsimp only
      rw [e, B_X6_trace_20, X6_in, bindI_some, if_neg b, eq_00, B_X6_trace_37, B_X6_trace_38]
/-- the kind above -/
def upK (j : Nat) : Option Nat := if j = 0 then none else if j ≤ 3 then some 0 else some (j - 3)
def upV (o : Option Nat) : Int32 := match o with
  | none => -1
  | some j => nI j
theorem upK_sta : ∀ j, j < 7 → staB 1 j = upV (upK j) := by decide +kernel
theorem upK_lt {j i : Nat} (h : j < 7) (e : upK j = some i) : i < 7 := by
  unfold upK at e
  split at e
  · cases e
  · split at e
    · injection e with e; omega
    · injection e with e; omega
def asW : Nat → Nat → Nat → Bool
  | 0, _, _ => false
  | n + 1, j, k => if j = k then true else match upK j with
    | none => false
    | some i => asW n i k
def asB (K k : Nat) : Bool := decide (k = 0 ∨ k = K ∨ (0 < k ∧ k < 4 ∧ K = k + 3))
theorem asW_7 : ∀ K, K < 7 → ∀ k, k < 7 → asW 7 K k = asB K k := by decide +kernel
theorem as_walk (d : Nat) {M : Mem} {s : St} (hC : Ch M 0 s) {p k : Nat} (hp : p < 6) (hk : k < 7) : ∀ n j, n ≤ 7 → j < 7 → X d jX5_as 33 [some (vR 5 0 0), some (vI (nI p)), some (vI (nI k)), some (vI (nI j)), some (vI (nI (7 - n)))] [] M = some (some (vI (if asW n j k = true then s (33 + p) else -6)), M)
  | 0, j, _, _ => by
    rw [B_X5_as_33, if_pos (by decide), B_X5_as_77]
    rfl
  | n + 1, j, hn, hj => by
    have g7 : ¬ (7 : Int32) ≤ nI (7 - (n + 1)) := nI_ge (b := 7) (by omega) (by omega)
    have j7 : ¬ (7 : Int32) ≤ nI j := nI_ge (b := 7) (by omega) (by omega)
    rw [B_X5_as_33, if_neg g7, if_neg (nI_pos (by omega)), if_neg j7]
    by_cases c : j = k
    · have e : asW (n + 1) j k = true := if_pos c
      rw [if_pos (by rw [c]), ob_no (by omega) (by omega), cl_no (by omega), hC.a6 hp, e, if_pos rfl]
    · have e : asW (n + 1) j k = (match upK j with
        | none => false
        | some i => asW n i k) := if_neg c
      rw [if_neg (nI_ne (by omega) (by omega) c), B_X5_as_65, ob_no (by omega) (by omega), cl_no (by omega), upK_sta j hj, e, nI_1]
      try dsimp only
      match hu : upK j with
      | none =>
        rw [show upV none = -1 from rfl, B_X5_as_33]
        by_cases g : (7 : Int32) ≤ nI (7 - (n + 1) + 1)
        · rw [if_pos g, B_X5_as_77]; rfl
        · rw [if_neg g, if_pos (by decide), B_X5_as_77]; rfl
      | some i =>
        have hi := upK_lt hj hu
        rw [show 7 - (n + 1) + 1 = 7 - n by omega]
        exact as_walk d hC hp hk n i (by omega) hi
theorem X6_isUnder (d : Nat) (N : Mem) {K k : Nat} (hK : K < 7) (hk : k < 7) : XC (d + 1) jX6_isUnder [vI (nI K), vI (nI k)] N = some (some (vI (if asB K k = true then 1 else 0)), N) := by
  have i30 : ∀ s0, (s0 = 0 ∨ s0 = 1) → X d jX6_isUnder 30 [none, none] [vI s0] N = some (some (vI s0), N) := fun s0 h => by rw [B_X6_isUnder_30, if_pos h]
  rw [E_X6_isUnder, B_X6_isUnder_25, B_X6_isUnder_29, i30 1 (Or.inr rfl), i30 0 (Or.inl rfl)]
  have e3 : nI k + 3 = nI (k + 3) := nI_add k 3
  rw [e3]
  by_cases c0 : k = 0
  · subst c0
    have e : asB K 0 = true := decide_eq_true (Or.inl rfl)
    rw [if_pos (show nI 0 = 0 from rfl), e, if_pos rfl]
  · rw [if_neg (nI_ne0 (by omega) (by omega))]
    by_cases c1 : k = K
    · subst c1
      have e : asB k k = true := decide_eq_true (Or.inr (Or.inl rfl))
      rw [if_pos rfl, e, if_pos rfl]
    · rw [if_neg (nI_ne (by omega) (by omega) c1), if_neg (nI_nle (by omega) (by omega))]
      by_cases c4 : k < 4
      · have g4 : ¬ (4 : Int32) ≤ nI k := nI_ge (b := 4) c4 (by omega)
        rw [if_neg g4]
        by_cases c5 : K = k + 3
        · have e : asB K k = true := decide_eq_true (Or.inr (Or.inr ⟨by omega, c4, c5⟩))
          rw [if_pos (by rw [c5]), e, if_pos rfl]
        · have e : asB K k = false := decide_eq_false (fun q => by omega)
          rw [if_neg (nI_ne (by omega) (by omega) c5), e, if_neg (by decide)]
      · have g4 : (4 : Int32) ≤ nI k := nI_le (a := 4) (by omega) (by omega)
        have e : asB K k = false := decide_eq_false (fun q => by omega)
        rw [if_pos g4, e, if_neg (by decide)]
theorem c_as (d : Nat) (x y : Int32) {B : Nat} {M : Mem} (I : Inv B M) : Call B M (fun M => XC (d + 20) jX5_as [vR 5 0 0, vI x, vI y] M) (fun N => XC (d + 20) jX6_as [vR 6 0 0, vI x, vI y] N) := by
  obtain ⟨_, _, _, Ps, hG, _, _⟩ := id I
  obtain ⟨s, hs0⟩ : ∃ s, rA M 2 = s := ⟨_, rfl⟩
  rw [hs0] at hG
  obtain ⟨hs, hr, hf, hC, hS, _, _⟩ := hG
  obtain ⟨hn, h6⟩ := hs.ns
  have l7 : ∀ {α : Type} (A C : α), (if y < 0 then A else (if y < 7 then C else A)) = if 0 ≤ y ∧ y ≤ 6 then C else A := fun A C => by
    rw [← rng]
    by_cases q : y < 7
    · rw [if_pos q, if_pos ((ltL (b := 6) (by decide)).mp q)]
    · rw [if_neg q, if_neg (fun w => q ((ltL (b := 6) (by decide)).mpr w))]
  by_cases a : isSg s x
  · obtain ⟨p, hp, rfl⟩ := a.num hs
    have hp6 : p < 6 := by omega
    by_cases b : 0 ≤ y ∧ y ≤ 6
    · obtain ⟨k, hk, rfl⟩ := in_le (n := 6) (by omega) rfl b
      obtain ⟨K, hK, eK⟩ := hs.2.2.1 p hp6
      refine Call.same I (vI (if asB K k = true then s (33 + p) else -6)) ?_ ?_
      · have w := as_walk (d + 19) hC hp6 (k := k) (by omega) 7 K (Nat.le_refl _) (by omega)
        rw [asW_7 K (by omega) k (by omega)] at w
        have w' : X (d + 19) jX5_as 33 [some (vR 5 0 0), some (vI (nI p)), some (vI (nI k)), some (vI (nI K)), some (vI 0)] [] M = _ := w
        try dsimp only
        rw [E_X5_as, X5_isSinger (d + 18) hC, bindI_some, if_pos a, ne_10, l7, if_pos b, B_X5_as_20, ob_no (by omega) (by omega), cl_no (by omega), hC.a5 hp6, eK]
        exact w'
      · try dsimp only
        rw [E_X6_as, X6_isSinger (d + 17) hs hs0, bindI_some, if_pos a, ne_10, X6_in, bindI_some, if_pos b, ne_10, B_X6_as_20, la27, ob_no (by omega) (by omega), cl_no (by omega), hs0, eK, X6_isUnder (d + 18) M (by omega) (by omega), bindI_some]
        by_cases c : asB K k = true
        · rw [if_pos c, if_pos c, ne_10, la33, ob_no (by omega) (by omega), cl_no (by omega), hs0, B_X6_as_50]
        · rw [if_neg c, if_neg c, eq_00, B_X6_as_48, B_X6_as_50]
    · refine Call.same I (vI (-1)) ?_ ?_
      · try dsimp only
        rw [E_X5_as, X5_isSinger (d + 18) hC, bindI_some, if_pos a, ne_10, l7, if_neg b, B_X5_as_18]
      · try dsimp only
        rw [E_X6_as, X6_isSinger (d + 17) hs hs0, bindI_some, if_pos a, ne_10, X6_in, bindI_some, if_neg b, eq_00, B_X6_as_18]
  · refine Call.same I (vI (-1)) ?_ ?_
    · try dsimp only
      rw [E_X5_as, X5_isSinger (d + 18) hC, bindI_some, if_neg a, eq_00, B_X5_as_18]
    · try dsimp only
      rw [E_X6_as, X6_isSinger (d + 17) hs hs0, bindI_some, if_neg a, eq_00, B_X6_as_18]
