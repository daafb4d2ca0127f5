/-! the class's acts, one upon the other -/
theorem ps_cls (d : Nat) {M0 M : Mem} {K : Nat} {num v : Int32} {t : At} (h : AC M0 K num v t M) (ht : t.1 < 800) (x : Int32) {dp j : Nat} (hdp : dp ≤ 15) (hj : j < 7) (hb : boB j 0 = 1) : ∃ M', XC (d + 2) jX0_callFrom [vR 0 0 0, vI (nI j), vI 0, vI x, vI (nI dp)] M = some (some (vI (psA num x t).1), M') ∧ AC M0 K num v (psA num x t).2 M' := by
  have e : XC (d + 2) jX0_callFrom [vR 0 0 0, vI (nI j), vI 0, vI x, vI (nI dp)] M = _ := callFrom_cls d M x dp hj (a := 0) (by decide)
  obtain ⟨M', e2, h2⟩ := body_cls d h (by omega) (boB j 0) x (dp := dp + 1) (by omega)
  rw [hb] at e e2 h2
  have q1 : nI 1 = 1 := rfl
  refine ⟨M', ?_, h2⟩
  rw [e, e2, if_pos q1, B_X0_runBody_120, bindI_some, h2.2.2.2.2.1]
  rfl
theorem si_cls (d : Nat) {M0 M : Mem} {K : Nat} (hK : K < 7) {num v : Int32} {t : At} (h : AC M0 K num v t M) (ht : t.1 < 700) (x : Int32) {dp : Nat} (hdp : dp ≤ 14) : ∃ M', XC (d + 4) jX0_callFrom [vR 0 0 0, vI (nI K), vI 0, vI x, vI (nI dp)] M = some (some (vI (siA K num x t).1), M') ∧ AC M0 K num v (siA K num x t).2 M' := by
  have e : XC (d + 4) jX0_callFrom [vR 0 0 0, vI (nI K), vI 0, vI x, vI (nI dp)] M = _ := callFrom_cls (d + 2) M x dp hK (a := 0) (by decide)
  have t1 : ∀ b, (rb b t).1 = t.1 + 1 := fun _ => rfl
  by_cases c : K = 1 ∨ K = 4
  · have hb : boB K 0 = 11 := by unfold boB; rw [if_pos rfl, if_pos c]
    obtain ⟨M1, e1, h1⟩ := body_cls (d + 2) h (by omega) (boB K 0) x (dp := dp + 1) (by omega)
    rw [hb] at e e1 h1
    obtain ⟨M2, e2, h2⟩ := ps_cls d h1 (by rw [t1]; omega) (x * 3) (dp := dp + 1) (by omega) (j := 0) (by decide) (by decide)
    have e2' : XC (d + 2) jX0_callFrom [vR 0 0 0, vI 0, vI 0, vI (x * 3), vI (nI (dp + 1))] M1 = _ := e2
    have es : siA K num x t = psA num (x * 3) (rb 11 t) := if_pos c
    have q1 : ¬ nI 11 = 1 := by decide +kernel
    have q2 : ¬ nI 11 = 2 := by decide +kernel
    have q3 : ¬ nI 11 = 3 := by decide +kernel
    have q4 : nI 11 = 11 := rfl
    rw [es]
    refine ⟨M2, ?_, h2⟩
    rw [e, e1, if_neg q1, if_neg q2, if_neg q3, if_pos q4, B_X0_runBody_158, e2', bindI_some, bindI_some]
  · by_cases c5 : K = 5
    · have hb : boB K 0 = 51 := by unfold boB; rw [if_pos rfl, if_neg c, if_pos c5]
      obtain ⟨M1, e1, h1⟩ := body_cls (d + 2) h (by omega) (boB K 0) x (dp := dp + 1) (by omega)
      rw [hb] at e e1 h1
      obtain ⟨M2, e2, h2⟩ := ps_cls d h1 (by rw [t1]; omega) x (dp := dp + 1) (by omega) (j := 2) (by decide) (by decide)
      have e2' : XC (d + 2) jX0_callFrom [vR 0 0 0, vI 2, vI 0, vI x, vI (nI (dp + 1))] M1 = _ := e2
      have es : siA K num x t = ((psA num x (rb 51 t)).1 ^^^ num, (psA num x (rb 51 t)).2) := (if_neg c).trans (if_pos c5)
      have q1 : ¬ nI 51 = 1 := by decide +kernel
      have q2 : ¬ nI 51 = 2 := by decide +kernel
      have q3 : ¬ nI 51 = 3 := by decide +kernel
      have q4 : ¬ nI 51 = 11 := by decide +kernel
      have q5 : ¬ nI 51 = 21 := by decide +kernel
      have q6 : ¬ nI 51 = 31 := by decide +kernel
      have q7 : ¬ nI 51 = 41 := by decide +kernel
      have q8 : nI 51 = 51 := rfl
      rw [es]
      refine ⟨M2, ?_, h2⟩
      rw [e, e1, if_neg q1, if_neg q2, if_neg q3, if_neg q4, if_neg q5, if_neg q6, if_neg q7, if_pos q8, B_X0_runBody_214, e2', bindI_some, bindI_some, h2.2.2.2.2.1]
    · have hb : boB K 0 = 1 := by unfold boB; rw [if_pos rfl, if_neg c, if_neg c5]
      have es : siA K num x t = psA num x t := (if_neg c).trans (if_neg c5)
      rw [es]
      exact ps_cls (d + 2) h (by omega) x (by omega) hK hb
theorem pb_cls (d : Nat) {M0 M : Mem} {K : Nat} (hK : K < 7) {num v : Int32} {t : At} (h : AC M0 K num v t M) (ht : t.1 < 600) (x : Int32) {dp j : Nat} (hdp : dp ≤ 13) (hj : j < 7) (hb : boB j 1 = 2) : ∃ M', XC (d + 6) jX0_callFrom [vR 0 0 0, vI (nI j), vI 1, vI x, vI (nI dp)] M = some (some (vI (pbA K num v x t).1), M') ∧ AC M0 K num v (pbA K num v x t).2 M' := by
  have e : XC (d + 6) jX0_callFrom [vR 0 0 0, vI (nI j), vI 1, vI x, vI (nI dp)] M = _ := callFrom_cls (d + 4) M x dp hj (a := 1) (by decide)
  obtain ⟨M1, e1, h1⟩ := body_cls (d + 4) h (by omega) (boB j 1) x (dp := dp + 1) (by omega)
  rw [hb] at e e1 h1
  obtain ⟨M2, e2, h2⟩ := si_cls d hK h1 (by show t.1 + 1 < 700; omega) x (dp := dp + 1) (by omega)
  have q1 : ¬ nI 2 = 1 := by decide +kernel
  have q2 : nI 2 = 2 := rfl
  refine ⟨M2, ?_, h2⟩
  rw [e, e1, if_neg q1, if_pos q2, B_X0_runBody_127, h1.2.2.2.1, e2, bindI_some, bindI_some, h2.2.2.2.2.2]
  rfl
theorem be_cls (d : Nat) {M0 M : Mem} {K : Nat} (hK : K < 7) {num v : Int32} {t : At} (h : AC M0 K num v t M) (ht : t.1 < 500) (x : Int32) {dp : Nat} (hdp : dp ≤ 12) : ∃ M', XC (d + 8) jX0_callFrom [vR 0 0 0, vI (nI K), vI 1, vI x, vI (nI dp)] M = some (some (vI (beA K num v x t).1), M') ∧ AC M0 K num v (beA K num v x t).2 M' := by
  have e : XC (d + 8) jX0_callFrom [vR 0 0 0, vI (nI K), vI 1, vI x, vI (nI dp)] M = _ := callFrom_cls (d + 6) M x dp hK (a := 1) (by decide)
  have t1 : ∀ b, (rb b t).1 = t.1 + 1 := fun _ => rfl
  by_cases c : K = 2 ∨ K = 5
  · have hb : boB K 1 = 21 := by unfold boB; rw [if_neg (by decide), if_pos rfl, if_pos c]
    obtain ⟨M1, e1, h1⟩ := body_cls (d + 6) h (by omega) (boB K 1) x (dp := dp + 1) (by omega)
    rw [hb] at e e1 h1
    obtain ⟨M2, e2, h2⟩ := pb_cls d hK h1 (by rw [t1]; omega) x (dp := dp + 1) (by omega) (j := 0) (by decide) (by decide)
    have e2' : XC (d + 6) jX0_callFrom [vR 0 0 0, vI 0, vI 1, vI x, vI (nI (dp + 1))] M1 = _ := e2
    have es : beA K num v x t = (-(pbA K num v x (rb 21 t)).1, (pbA K num v x (rb 21 t)).2) := if_pos c
    have q1 : ¬ nI 21 = 1 := by decide +kernel
    have q2 : ¬ nI 21 = 2 := by decide +kernel
    have q3 : ¬ nI 21 = 3 := by decide +kernel
    have q4 : ¬ nI 21 = 11 := by decide +kernel
    have q5 : nI 21 = 21 := rfl
    rw [es]
    refine ⟨M2, ?_, h2⟩
    rw [e, e1, if_neg q1, if_neg q2, if_neg q3, if_neg q4, if_pos q5, B_X0_runBody_169, e2', bindI_some, bindI_some]
  · by_cases c5 : K = 6
    · have hb : boB K 1 = 61 := by unfold boB; rw [if_neg (by decide), if_pos rfl, if_neg c, if_pos c5]
      obtain ⟨M1, e1, h1⟩ := body_cls (d + 6) h (by omega) (boB K 1) x (dp := dp + 1) (by omega)
      rw [hb] at e e1 h1
      obtain ⟨M2, e2, h2⟩ := pb_cls d hK h1 (by rw [t1]; omega) x (dp := dp + 1) (by omega) (j := 3) (by decide) (by decide)
      have e2' : XC (d + 6) jX0_callFrom [vR 0 0 0, vI 3, vI 1, vI x, vI (nI (dp + 1))] M1 = _ := e2
      have es : beA K num v x t = ((pbA K num v x (rb 61 t)).1 + v, (pbA K num v x (rb 61 t)).2) := (if_neg c).trans (if_pos c5)
      have q1 : ¬ nI 61 = 1 := by decide +kernel
      have q2 : ¬ nI 61 = 2 := by decide +kernel
      have q3 : ¬ nI 61 = 3 := by decide +kernel
      have q4 : ¬ nI 61 = 11 := by decide +kernel
      have q5 : ¬ nI 61 = 21 := by decide +kernel
      have q6 : ¬ nI 61 = 31 := by decide +kernel
      have q7 : ¬ nI 61 = 41 := by decide +kernel
      have q8 : ¬ nI 61 = 51 := by decide +kernel
      have q9 : nI 61 = 61 := rfl
      rw [es]
      refine ⟨M2, ?_, h2⟩
      rw [e, e1, if_neg q1, if_neg q2, if_neg q3, if_neg q4, if_neg q5, if_neg q6, if_neg q7, if_neg q8, if_pos q9, B_X0_runBody_228, e2', bindI_some, bindI_some, h2.2.2.2.2.2]
    · have hb : boB K 1 = 2 := by unfold boB; rw [if_neg (by decide), if_pos rfl, if_neg c, if_neg c5]
      have es : beA K num v x t = pbA K num v x t := (if_neg c).trans (if_neg c5)
      rw [es]
      exact pb_cls (d + 2) hK h (by omega) x (by omega) hK hb
theorem pt_cls (d : Nat) {M0 M : Mem} {K : Nat} (hK : K < 7) {num v : Int32} {t : At} (h : AC M0 K num v t M) (ht : t.1 < 400) (x : Int32) {dp j : Nat} (hdp : dp ≤ 11) (hj : j < 7) (hb : boB j 2 = 3) : ∃ M', XC (d + 10) jX0_callFrom [vR 0 0 0, vI (nI j), vI 2, vI x, vI (nI dp)] M = some (some (vI (ptA K num v x t).1), M') ∧ AC M0 K num v (ptA K num v x t).2 M' := by
  have e : XC (d + 10) jX0_callFrom [vR 0 0 0, vI (nI j), vI 2, vI x, vI (nI dp)] M = _ := callFrom_cls (d + 8) M x dp hj (a := 2) (by decide)
  obtain ⟨M1, e1, h1⟩ := body_cls (d + 8) h (by omega) (boB j 2) x (dp := dp + 1) (by omega)
  rw [hb] at e e1 h1
  obtain ⟨M2, e2, h2⟩ := be_cls d hK h1 (by show t.1 + 1 < 500; omega) x (dp := dp + 1) (by omega)
  have q1 : ¬ nI 3 = 1 := by decide +kernel
  have q2 : ¬ nI 3 = 2 := by decide +kernel
  have q3 : nI 3 = 3 := rfl
  refine ⟨M2, ?_, h2⟩
  rw [e, e1, if_neg q1, if_neg q2, if_pos q3, B_X0_runBody_144, h1.2.2.2.1, e2, bindI_some, bindI_some]
  rfl
theorem te_cls (d : Nat) {M0 M : Mem} {K : Nat} (hK : K < 7) {num v : Int32} {t : At} (h : AC M0 K num v t M) (ht : t.1 < 300) (x : Int32) {dp : Nat} (hdp : dp ≤ 10) : ∃ M', XC (d + 12) jX0_callFrom [vR 0 0 0, vI (nI K), vI 2, vI x, vI (nI dp)] M = some (some (vI (teA K num v x t).1), M') ∧ AC M0 K num v (teA K num v x t).2 M' := by
  have e : XC (d + 12) jX0_callFrom [vR 0 0 0, vI (nI K), vI 2, vI x, vI (nI dp)] M = _ := callFrom_cls (d + 10) M x dp hK (a := 2) (by decide)
  have t1 : ∀ b, (rb b t).1 = t.1 + 1 := fun _ => rfl
  by_cases c : K = 3 ∨ K = 6
  · have hb : boB K 2 = 31 := by unfold boB; rw [if_neg (by decide), if_neg (by decide), if_pos c]
    obtain ⟨M1, e1, h1⟩ := body_cls (d + 10) h (by omega) (boB K 2) x (dp := dp + 1) (by omega)
    rw [hb] at e e1 h1
    obtain ⟨M2, e2, h2⟩ := pt_cls d hK h1 (by rw [t1]; omega) x (dp := dp + 1) (by omega) (j := 0) (by decide) (by decide)
    have e2' : XC (d + 10) jX0_callFrom [vR 0 0 0, vI 0, vI 2, vI x, vI (nI (dp + 1))] M1 = _ := e2
    have es : teA K num v x t = ((ptA K num v x (rb 31 t)).1 ^^^ 7, (ptA K num v x (rb 31 t)).2) := if_pos c
    have q1 : ¬ nI 31 = 1 := by decide +kernel
    have q2 : ¬ nI 31 = 2 := by decide +kernel
    have q3 : ¬ nI 31 = 3 := by decide +kernel
    have q4 : ¬ nI 31 = 11 := by decide +kernel
    have q5 : ¬ nI 31 = 21 := by decide +kernel
    have q6 : nI 31 = 31 := rfl
    rw [es]
    refine ⟨M2, ?_, h2⟩
    rw [e, e1, if_neg q1, if_neg q2, if_neg q3, if_neg q4, if_neg q5, if_pos q6, B_X0_runBody_179, e2', bindI_some, bindI_some]
  · by_cases c5 : K = 4
    · have hb : boB K 2 = 41 := by unfold boB; rw [if_neg (by decide), if_neg (by decide), if_neg c, if_pos c5]
      obtain ⟨M1, e1, h1⟩ := body_cls (d + 10) h (by omega) (boB K 2) x (dp := dp + 1) (by omega)
      rw [hb] at e e1 h1
      obtain ⟨M2, e2, h2⟩ := pt_cls d hK h1 (by rw [t1]; omega) (x - 1) (dp := dp + 1) (by omega) (j := 1) (by decide) (by decide)
      have l2 := ptA_le K num v (x - 1) (rb 41 t)
      rw [t1] at l2
      obtain ⟨M3, e3, h3⟩ := si_cls (d + 6) hK h2 (by omega) 2 (dp := dp + 1) (by omega)
      have e2' : XC (d + 10) jX0_callFrom [vR 0 0 0, vI 1, vI 2, vI (x - 1), vI (nI (dp + 1))] M1 = _ := e2
      have es : teA K num v x t = ((ptA K num v (x - 1) (rb 41 t)).1 + (siA K num 2 (ptA K num v (x - 1) (rb 41 t)).2).1, (siA K num 2 (ptA K num v (x - 1) (rb 41 t)).2).2) := (if_neg c).trans (if_pos c5)
      have q1 : ¬ nI 41 = 1 := by decide +kernel
      have q2 : ¬ nI 41 = 2 := by decide +kernel
      have q3 : ¬ nI 41 = 3 := by decide +kernel
      have q4 : ¬ nI 41 = 11 := by decide +kernel
      have q5 : ¬ nI 41 = 21 := by decide +kernel
      have q6 : ¬ nI 41 = 31 := by decide +kernel
      have q7 : nI 41 = 41 := rfl
      rw [es]
      refine ⟨M3, ?_, h3⟩
      rw [e, e1, if_neg q1, if_neg q2, if_neg q3, if_neg q4, if_neg q5, if_neg q6, if_pos q7, B_X0_runBody_191, e2', bindI_some, h2.2.2.2.1, e3, bindI_some, bindI_some]
    · have hb : boB K 2 = 3 := by unfold boB; rw [if_neg (by decide), if_neg (by decide), if_neg c, if_neg c5]
      have es : teA K num v x t = ptA K num v x t := (if_neg c).trans (if_neg c5)
      rw [es]
      exact pt_cls (d + 2) hK h (by omega) x (by omega) hK hb
theorem Inv.acts {B : Nat} {M M' N' : Mem} (I : Inv B M) (D : Df (fun t c m k => c = 0) M M') (R : Rf (fun t k => (t = 0 ∧ 19 ≤ k) ∨ (t = 1 ∧ k = 19)) M' N') (hac : Ac N') (hB1 : B + 1 < 2 ^ 20) : Inv (B + 1) N' := by
  obtain ⟨hB, hhi, _, Ps, hG, hP, hI⟩ := I
  have e2 := D.2.2.2
  have c1 := R.1
  have a2 : rA N' 2 = rA M 2 := by rw [R.2.2.2 2 (fun q => by omega), m2A e2]
  have a3 : rA N' 3 = rA M 3 := by rw [R.2.2.2 3 (fun q => by omega), m2A e2]
  have i4 : rI N' 4 = rI M 4 := by rw [R.2.2.1 4 (fun q => by omega), m2I e2]
  refine ⟨hB1, ?_, hac, Ps, ?_, ?_, ?_⟩
  · rw [a2, a3]; exact hhi
  · rw [a2]
    exact ((hG.mono (Nat.le_succ B)).df D (fun t k hk q => absurd q (by decide)) (fun t k q => absurd q (by decide))).m1 c1
  · rw [a2]
    exact (hP.df D (fun t j k hj q => absurd q (by decide))).m1 c1
  · unfold Im
    rw [m1I c1, D.1 5 0 10 (fun q => absurd q (by decide)), i4, a2, a3]
    rcases hI with hI | ⟨j1, j2, j3, j4⟩
    · exact Or.inl hI
    · exact Or.inr ⟨j1, j2, ((j3.mono (Nat.le_succ B)).df D (fun t k hk q => absurd q (by decide)) (fun t k q => absurd q (by decide))).m1 c1, j4⟩
theorem c_act (d : Nat) (x a z : Int32) {B : Nat} {M : Mem} (I : Inv B M) : Call B M (fun M => XC (d + 20) jX5_act [vR 5 0 0, vI x, vI a, vI z] M) (fun N => XC (d + 20) jX6_act [vR 6 0 0, vI x, vI a, vI z] N) := by
  obtain ⟨_, _, hac, Ps, hG, _, _⟩ := id I
  obtain ⟨s, hs0⟩ : ∃ s, rA M 2 = s := ⟨_, rfl⟩
  rw [hs0] at hG
  obtain ⟨hs, hr, hf, hC, hS, _, _⟩ := hG
  obtain ⟨hn, h6⟩ := hs.ns
  obtain ⟨k, k1, k2, k3, k4⟩ := hac
  have l3 : ∀ {α : Type} (A C : α), (if a < 0 then A else (if a < 3 then C else A)) = if 0 ≤ a ∧ a ≤ 2 then C else A := fun A C => by
    rw [← rng]
    by_cases q : a < 3
    · rw [if_pos q, if_pos ((ltL (b := 2) (by decide)).mp q)]
    · rw [if_neg q, if_neg (fun w => q ((ltL (b := 2) (by decide)).mpr w))]
  have D1 : Df (fun t c m k => c = 0) M (csI M 0 0 3 0) := Df.csI rfl
  have C1 : Ch (csI M 0 0 3 0) 0 s := hC.df D1 (fun t k hk q => absurd q (by decide))
  -- refused
  have no : (¬ isSg s x ∨ (isSg s x ∧ ¬ (0 ≤ a ∧ a ≤ 2))) → Call B M (fun M => XC (d + 20) jX5_act [vR 5 0 0, vI x, vI a, vI z] M) (fun N => XC (d + 20) jX6_act [vR 6 0 0, vI x, vI a, vI z] N) := fun w => by
    refine ⟨vI 0, csI M 0 0 3 0, rsI (csI M 0 0 3 0) 19 0, ?_, ?_, fun h => I.acts D1 (Rf.I (Or.inl ⟨rfl, Nat.le_refl _⟩)) ⟨0, by decide, cI_same _ _ _ _ _, (by rw [rI_rsI, if_pos rfl]; rfl), fun i hi => k4 i hi⟩ h, rfl⟩
    · try dsimp only
      rw [E_X5_act]
      try dsimp only
      rw [X5_isSinger (d + 18) C1, bindI_some]
      rcases w with w | ⟨w, w2⟩
      · rw [if_neg w, eq_00, B_X5_act_25]
      · rw [if_pos w, ne_10, l3, if_neg w2, B_X5_act_25]
    · have hA' : rA (rsI (csI M 0 0 3 0) 19 0) 2 = s := hs0
      try dsimp only
      rw [E_X6_act]
      try dsimp only
      rw [X6_isSinger (d + 17) hs hA', bindI_some]
      rcases w with w | ⟨w, w2⟩
      · rw [if_neg w, eq_00, B_X6_act_22]
      · rw [if_pos w, ne_10, X6_in, bindI_some, if_neg w2, eq_00, B_X6_act_22]
  by_cases w : isSg s x
  · by_cases w2 : 0 ≤ a ∧ a ≤ 2
    · obtain ⟨p, hp, rfl⟩ := w.num hs
      have hp6 : p < 6 := by omega
      obtain ⟨K, hK, eK⟩ := hs.2.2.1 p hp6
      obtain ⟨v, ev⟩ : ∃ v, s (33 + p) = v := ⟨_, rfl⟩
      -- the class, begun
      obtain ⟨Mc, hMc⟩ : ∃ Mc, csI (csI (csI (csI M 0 0 3 0) 0 0 0 (nI p)) 0 0 1 (nI K)) 0 0 2 v = Mc := ⟨_, rfl⟩
      have Dc : Df (fun t c m k => c = 0) M Mc := by rw [← hMc]; exact ((D1.tr (Df.csI rfl)).tr (Df.csI rfl)).tr (Df.csI rfl)
      have t0 : AC Mc K (nI p) v (0, cA M 0 0 5) Mc := by
        refine ⟨Df.rf, ?_, ?_, ?_, ?_, ?_⟩ <;> rw [← hMc]
        · exact cI_same M 0 0 3 0
        · exact fun i hi => rfl
        · exact cI_same (csI (csI M 0 0 3 0) 0 0 0 (nI p)) 0 0 1 (nI K)
        · exact cI_same (csI M 0 0 3 0) 0 0 0 (nI p)
        · exact cI_same _ 0 0 2 v
      have ec : XC (d + 20) jX5_act [vR 5 0 0, vI (nI p), vI a, vI z] M = (bindI (XC (d + 18) jX0_callFrom [vR 0 0 0, vI (nI K), vI a, vI z, vI 0] Mc) fun r M4 => some (some (vI r), M4)) := by
        have C2 : cA (csI (csI M 0 0 3 0) 0 0 0 (nI p)) 1 0 5 p = nI K := (hC.a5 hp6).trans eK
        have C3 : cA (csI (csI (csI M 0 0 3 0) 0 0 0 (nI p)) 0 0 1 (nI K)) 1 0 6 p = v := (hC.a6 hp6).trans ev
        rw [E_X5_act]
        try dsimp only
        rw [X5_isSinger (d + 18) C1, bindI_some, if_pos w, ne_10, l3, if_pos w2, B_X5_act_27]
        try dsimp only
        rw [ob_no (by omega) (by omega), ob_no (by omega) (by omega), cl_no (by omega), C2, C3, hMc, E_X0_perform, t0.2.2.2.1]
        cases XC (d + 18) jX0_callFrom [vR 0 0 0, vI (nI K), vI a, vI z, vI 0] Mc with
        | none => rfl
        | some y =>
          obtain ⟨o, M9⟩ := y
          cases o with
          | none => rfl
          | some q =>
            cases q with
            | inl i => rfl
            | inr j => rfl
      -- the reference, begun, on what the class left
      have ref : ∀ M', rA M' 2 = s → rA M' 19 = rA M 19 → ∃ N0, AR N0 K (nI p) v (0, rA M 19) N0 ∧ Rf (fun t k => (t = 0 ∧ 19 ≤ k) ∨ (t = 1 ∧ k = 19)) M' N0 ∧ XC (d + 20) jX6_act [vR 6 0 0, vI (nI p), vI a, vI z] M' = (if a = 0 then (bindI (XC (d + 19) jX6_singsActs [vR 6 0 0, vI z] N0) fun r4 M4 => some (some (vI r4), M4)) else if a = 1 then (bindI (XC (d + 19) jX6_bearsActs [vR 6 0 0, vI z] N0) fun r1 M1 => some (some (vI r1), M1)) else (bindI (XC (d + 19) jX6_tellsActs [vR 6 0 0, vI z] N0) fun r1 M1 => some (some (vI r1), M1))) := fun M' hA hk => by
        refine ⟨rsI (rsI (rsI (rsI M' 19 0) 20 (nI K)) 21 (nI p)) 22 v, ⟨Rf.rf, rfl, fun i hi => congrFun hk i, rfl, rfl, rfl⟩, ((Rf.I (Or.inl ⟨rfl, by decide⟩)).tr (Rf.I (Or.inl ⟨rfl, by decide⟩))).tr ((Rf.I (Or.inl ⟨rfl, by decide⟩)).tr (Rf.I (Or.inl ⟨rfl, by decide⟩))), ?_⟩
        have hA1 : rA (rsI M' 19 0) 2 = s := hA
        rw [E_X6_act]
        try dsimp only
        rw [X6_isSinger (d + 17) hs hA1, bindI_some, if_pos w, ne_10, X6_in, bindI_some, if_pos w2, ne_10, B_X6_act_24]
        try dsimp only
        rw [la27, la33, ob_no (by omega) (by omega), ob_no (by omega) (by omega), cl_no (by omega), cl_no (by omega)]
        simp only [rA_rsI, hA, eK, ev]
        by_cases c0 : a = 0
        · rw [if_pos c0, if_pos c0]
          simp only [B_X6_act_85]
        · rw [if_neg c0, if_neg c0, B_X6_act_67]
          by_cases c1 : a = 1
          · rw [if_pos c1, if_pos c1]
            simp only [B_X6_act_85]
          · rw [if_neg c1, if_neg c1, B_X6_act_80]
            simp only [B_X6_act_85]
      -- both ended
      have fin : ∀ (r : Int32) (t : At) (Mx Ny N0 : Mem) (u : At), AC Mc K (nI p) v t Mx → AR N0 K (nI p) v u Ny → t.1 = u.1 → t.1 < 1000 → (∀ i, i < 20 → t.2 i = u.2 i) → XC (d + 20) jX5_act [vR 5 0 0, vI (nI p), vI a, vI z] M = some (some (vI r), Mx) → XC (d + 20) jX6_act [vR 6 0 0, vI (nI p), vI a, vI z] Mx = some (some (vI r), Ny) → Rf (fun t k => (t = 0 ∧ 19 ≤ k) ∨ (t = 1 ∧ k = 19)) Mx N0 → Call B M (fun M => XC (d + 20) jX5_act [vR 5 0 0, vI (nI p), vI a, vI z] M) (fun N => XC (d + 20) jX6_act [vR 6 0 0, vI (nI p), vI a, vI z] N) := fun r t Mx Ny N0 u hx hy e1 e2 e3 g1 g2 g3 => by
        have Dx : Df (fun t c m k => c = 0) M Mx := Dc.tr (hx.1.mono (fun t c m k q => q.1))
        have Ry : Rf (fun t k => (t = 0 ∧ 19 ≤ k) ∨ (t = 1 ∧ k = 19)) Mx Ny := g3.tr (hy.1.mono (fun t k q => by unfold actR at q; omega))
        refine ⟨vI r, Mx, Ny, g1, g2, fun h => I.acts Dx Ry ⟨t.1, e2, ?_, ?_, fun i hi => ?_⟩ h, ?_⟩
        · rw [m1I Ry.1]; exact hx.2.1
        · rw [e1]; exact hy.2.1
        · rw [m1A Ry.1, hx.2.2.1 i hi, e3 i hi, hy.2.2.1 i hi]
        · rw [Ry.2.1, Dx.2.2.2]
      have hAx : ∀ {t : At} {Mx : Mem}, AC Mc K (nI p) v t Mx → rA Mx 2 = s ∧ rA Mx 19 = rA M 19 := fun {t Mx} hx => by
        have e := (Dc.tr (hx.1.mono (fun t c m k q => q.1) : Df (fun t c m k => c = 0) Mc Mx)).2.2.2
        exact ⟨by rw [m2A e, hs0], by rw [m2A e]⟩
      have cgr : ∀ b (t u : At), t.1 = u.1 → (∀ i, i < 20 → t.2 i = u.2 i) → (rb b t).1 = (rb b u).1 ∧ ∀ i, i < 20 → (rb b t).2 i = (rb b u).2 i := fun b t u e1 e2 => by
        refine ⟨by show t.1 + 1 = u.1 + 1; omega, fun i hi => ?_⟩
        show (if t.1 < 20 then upd t.2 t.1 (nI b) else t.2) i = (if u.1 < 20 then upd u.2 u.1 (nI b) else u.2) i
        rw [e1]
        by_cases c : u.1 < 20
        · rw [if_pos c, if_pos c]
          by_cases q : i = u.1
          · subst q; rw [upd_same, upd_same]
          · rw [upd_ne q, upd_ne q]; exact e2 i hi
        · rw [if_neg c, if_neg c]; exact e2 i hi
      have cgs : ∀ x (t u : At), t.1 = u.1 → (∀ i, i < 20 → t.2 i = u.2 i) → (siA K (nI p) x t).1 = (siA K (nI p) x u).1 ∧ (siA K (nI p) x t).2.1 = (siA K (nI p) x u).2.1 ∧ ∀ i, i < 20 → (siA K (nI p) x t).2.2 i = (siA K (nI p) x u).2.2 i := fun x t u e1 e2 => by
        unfold siA
        split
        · obtain ⟨a1, a2⟩ := cgr 11 t u e1 e2
          obtain ⟨b1, b2⟩ := cgr 1 _ _ a1 a2
          exact ⟨rfl, b1, b2⟩
        · split
          · obtain ⟨a1, a2⟩ := cgr 51 t u e1 e2
            obtain ⟨b1, b2⟩ := cgr 1 _ _ a1 a2
            exact ⟨rfl, b1, b2⟩
          · obtain ⟨b1, b2⟩ := cgr 1 _ _ e1 e2
            exact ⟨rfl, b1, b2⟩
      have cgpb : ∀ x (t u : At), t.1 = u.1 → (∀ i, i < 20 → t.2 i = u.2 i) → (pbA K (nI p) v x t).1 = (pbA K (nI p) v x u).1 ∧ (pbA K (nI p) v x t).2.1 = (pbA K (nI p) v x u).2.1 ∧ ∀ i, i < 20 → (pbA K (nI p) v x t).2.2 i = (pbA K (nI p) v x u).2.2 i := fun x t u e1 e2 => by
        obtain ⟨a1, a2⟩ := cgr 2 t u e1 e2
        obtain ⟨b1, b2, b3⟩ := cgs x _ _ a1 a2
        exact ⟨congrArg (· - v) b1, b2, b3⟩
      have cgb : ∀ x (t u : At), t.1 = u.1 → (∀ i, i < 20 → t.2 i = u.2 i) → (beA K (nI p) v x t).1 = (beA K (nI p) v x u).1 ∧ (beA K (nI p) v x t).2.1 = (beA K (nI p) v x u).2.1 ∧ ∀ i, i < 20 → (beA K (nI p) v x t).2.2 i = (beA K (nI p) v x u).2.2 i := fun x t u e1 e2 => by
        unfold beA
        split
        · obtain ⟨a1, a2⟩ := cgr 21 t u e1 e2
          obtain ⟨b1, b2, b3⟩ := cgpb x _ _ a1 a2
          exact ⟨congrArg (fun y => -y) b1, b2, b3⟩
        · split
          · obtain ⟨a1, a2⟩ := cgr 61 t u e1 e2
            obtain ⟨b1, b2, b3⟩ := cgpb x _ _ a1 a2
            exact ⟨congrArg (· + v) b1, b2, b3⟩
          · exact cgpb x t u e1 e2
      have cgt : ∀ x (t u : At), t.1 = u.1 → (∀ i, i < 20 → t.2 i = u.2 i) → (ptA K (nI p) v x t).1 = (ptA K (nI p) v x u).1 ∧ (ptA K (nI p) v x t).2.1 = (ptA K (nI p) v x u).2.1 ∧ ∀ i, i < 20 → (ptA K (nI p) v x t).2.2 i = (ptA K (nI p) v x u).2.2 i := fun x t u e1 e2 => by
        obtain ⟨a1, a2⟩ := cgr 3 t u e1 e2
        obtain ⟨b1, b2, b3⟩ := cgb x _ _ a1 a2
        exact ⟨congrArg (· * 2) b1, b2, b3⟩
      have cgte : ∀ x (t u : At), t.1 = u.1 → (∀ i, i < 20 → t.2 i = u.2 i) → (teA K (nI p) v x t).1 = (teA K (nI p) v x u).1 ∧ (teA K (nI p) v x t).2.1 = (teA K (nI p) v x u).2.1 ∧ ∀ i, i < 20 → (teA K (nI p) v x t).2.2 i = (teA K (nI p) v x u).2.2 i := fun x t u e1 e2 => by
        unfold teA
        split
        · obtain ⟨a1, a2⟩ := cgr 31 t u e1 e2
          obtain ⟨b1, b2, b3⟩ := cgt x _ _ a1 a2
          exact ⟨congrArg (· ^^^ 7) b1, b2, b3⟩
        · split
          · obtain ⟨a1, a2⟩ := cgr 41 t u e1 e2
            obtain ⟨b1, b2, b3⟩ := cgt (x - 1) _ _ a1 a2
            obtain ⟨c1, c2, c3⟩ := cgs 2 _ _ b2 b3
            refine ⟨?_, c2, c3⟩
            simp only
            rw [b1, c1]
          · exact cgt x t u e1 e2
      rcases in2 w2 with rfl | rfl | rfl
      · obtain ⟨Mx, ex, hx⟩ := si_cls (d + 14) (by omega) t0 (by show 0 < 700; omega) z (dp := 0) (by omega)
        have ex' : XC (d + 18) jX0_callFrom [vR 0 0 0, vI (nI K), vI 0, vI z, vI 0] Mc = _ := ex
        obtain ⟨N0, hN0, R0, er⟩ := ref Mx (hAx hx).1 (hAx hx).2
        obtain ⟨Ny, ey, hy⟩ := singsActs_ref (d + 16) (by omega) hN0 (by show 0 < 700; omega) z
        obtain ⟨g1, g2, g3⟩ := cgs z (0, cA M 0 0 5) (0, rA M 19) rfl k4
        have l := siA_le K (nI p) z (0, cA M 0 0 5)
        refine fin (siA K (nI p) z (0, cA M 0 0 5)).1 _ Mx Ny N0 _ hx hy g2 (by have : (0, cA M 0 0 5).1 = 0 := rfl; omega) g3 ?_ ?_ R0
        · rw [ec, ex', bindI_some]
        · rw [er, if_pos rfl, ey, bindI_some, g1]
      · obtain ⟨Mx, ex, hx⟩ := be_cls (d + 10) (by omega) t0 (by show 0 < 500; omega) z (dp := 0) (by omega)
        have ex' : XC (d + 18) jX0_callFrom [vR 0 0 0, vI (nI K), vI 1, vI z, vI 0] Mc = _ := ex
        obtain ⟨N0, hN0, R0, er⟩ := ref Mx (hAx hx).1 (hAx hx).2
        obtain ⟨Ny, ey, hy⟩ := bearsActs_ref (d + 14) (by omega) hN0 (by show 0 < 500; omega) z
        obtain ⟨g1, g2, g3⟩ := cgb z (0, cA M 0 0 5) (0, rA M 19) rfl k4
        have l := beA_le K (nI p) v z (0, cA M 0 0 5)
        refine fin (beA K (nI p) v z (0, cA M 0 0 5)).1 _ Mx Ny N0 _ hx hy g2 (by have : (0, cA M 0 0 5).1 = 0 := rfl; omega) g3 ?_ ?_ R0
        · rw [ec, ex', bindI_some]
        · rw [er, if_neg (by decide), if_pos rfl, ey, bindI_some, g1]
      · obtain ⟨Mx, ex, hx⟩ := te_cls (d + 6) (by omega) t0 (by show 0 < 300; omega) z (dp := 0) (by omega)
        have ex' : XC (d + 18) jX0_callFrom [vR 0 0 0, vI (nI K), vI 2, vI z, vI 0] Mc = _ := ex
        obtain ⟨N0, hN0, R0, er⟩ := ref Mx (hAx hx).1 (hAx hx).2
        obtain ⟨Ny, ey, hy⟩ := tellsActs_ref (d + 12) (by omega) hN0 (by show 0 < 300; omega) z
        obtain ⟨g1, g2, g3⟩ := cgte z (0, cA M 0 0 5) (0, rA M 19) rfl k4
        have l := teA_le K (nI p) v z (0, cA M 0 0 5)
        refine fin (teA K (nI p) v z (0, cA M 0 0 5)).1 _ Mx Ny N0 _ hx hy g2 (by have : (0, cA M 0 0 5).1 = 0 := rfl; omega) g3 ?_ ?_ R0
        · rw [ec, ex', bindI_some]
        · rw [er, if_neg (by decide), if_neg (by decide), ey, bindI_some, g1]
    · exact no (Or.inr ⟨w, w2⟩)
  · exact no (Or.inl w)
