/-! image, undo -/
theorem X4_become (d n n1 : Nat) (hnn : ¬ n1 = n) (M : Mem) {s : St} (h : Sh M n1 s) : ∃ M', XC (d + 1) jX4_become [vR 4 n 0, vR 4 n1 0] M = some (none, M') ∧ Df (fun t c m k => t ≤ 1 ∧ c = 4 ∧ m = n) M M' ∧ Sh M' n s := by
  obtain ⟨⟨h1, h2, h3, h4, h5⟩, g1, g2, g3, g4, g5, g6, g7⟩ := h
  rw [E_X4_become]
  simp (disch := first | assumption | omega) only [cI_nn, cI_ne, cI_csA, cA_csI, cA_nn, cA_ne, cA_same]
  refine ⟨_, rfl, ?_, ?_⟩
  · exact Df.tr (Df.tr (Df.tr (Df.tr (Df.tr (Df.tr (Df.tr (Df.tr (Df.tr (Df.tr (Df.tr (Df.csI ⟨by decide, rfl, rfl⟩) (Df.csI ⟨by decide, rfl, rfl⟩)) (Df.csI ⟨by decide, rfl, rfl⟩)) (Df.csI ⟨by decide, rfl, rfl⟩)) (Df.csI ⟨by decide, rfl, rfl⟩)) (Df.csA ⟨by decide, rfl, rfl⟩)) (Df.csA ⟨by decide, rfl, rfl⟩)) (Df.csA ⟨by decide, rfl, rfl⟩)) (Df.csA ⟨by decide, rfl, rfl⟩)) (Df.csA ⟨by decide, rfl, rfl⟩)) (Df.csA ⟨by decide, rfl, rfl⟩)) (Df.csA ⟨by decide, rfl, rfl⟩)
  · refine ⟨⟨?_, ?_, ?_, ?_, ?_⟩, ?_, ?_, ?_, ?_, ?_, ?_, ?_⟩
    · simp (disch := first | assumption | omega) only [cI_csA, cI_ne, cI_same, cI_nn]; exact h1
    · simp (disch := first | assumption | omega) only [cI_csA, cI_ne, cI_same, cI_nn]; exact h2
    · simp (disch := first | assumption | omega) only [cI_csA, cI_ne, cI_same, cI_nn]; exact h3
    · simp (disch := first | assumption | omega) only [cI_csA, cI_ne, cI_same, cI_nn]; exact h4
    · simp (disch := first | assumption | omega) only [cI_csA, cI_ne, cI_same, cI_nn]; exact h5
    all_goals
      intro i hi
      simp (disch := first | assumption | omega) only [cA_csI, cA_nn, cA_ne, cA_same, cpy_at]
    · exact g1 i hi
    · exact g2 i hi
    · exact g3 i hi
    · exact g4 i hi
    · exact g5 i hi
    · exact g6 i hi
    · exact g7 i hi
theorem mix_all {f g : Nat → Int32} {n : Nat} (h : ∀ k, n ≤ k → f k = g k) : mixF f g n = f := by
  funext k
  unfold mixF
  by_cases c : k < n
  · rw [if_pos c]
  · rw [if_neg c, h k (by omega)]
theorem c_image (d : Nat) {B : Nat} {M : Mem} (I : Inv B M) : Call B M (fun M => XC (d + 20) jX5_image [vR 5 0 0] M) (fun N => XC (d + 20) jX6_image [vR 6 0 0] N) := by
  obtain ⟨hB, hhi, hac, Ps, hG, hP, hI⟩ := I
  obtain ⟨P, p1, p2⟩ := hG.held hP (Nat.le_refl _)
  have hGo := hG
  obtain ⟨hs, hr, hf, hC, hS, hL, hRep⟩ := hG
  obtain ⟨M1, e1, D1, C1, H1, k1⟩ := X1_become (d + 18) 2 0 (by decide) M hC p1
  have S0 := hS.df D1 (fun t k q => absurd q.1 (by decide))
  obtain ⟨M2, e2, D2, S2⟩ := X4_become (d + 18) 1 0 (by decide) M1 S0
  have D3 : Df (fun t c m k => t = 0 ∧ c = 5 ∧ k = 10) M2 (csI M2 5 0 10 1) := Df.csI ⟨rfl, rfl, rfl⟩
  -- all that the class wrote
  have D : Df (fun t c m k => (c = 1 ∧ m = 2) ∨ (t ≤ 1 ∧ c = 4 ∧ m = 1) ∨ (t = 0 ∧ c = 5 ∧ k = 10)) M (csI M2 5 0 10 1) := ((D1.mono (fun t c m k q => Or.inl q)).tr (D2.mono (fun t c m k q => Or.inr (Or.inl q)))).tr (D3.mono (fun t c m k q => Or.inr (Or.inr q)))
  have C2 : Ch (csI M2 5 0 10 1) 2 (rA M 2) := (C1.df D2 (fun t k hk q => absurd q.2.1 (by decide))).df D3 (fun t k hk q => absurd q.2.1 (by decide))
  have S3 : Sh (csI M2 5 0 10 1) 1 (rA M 2) := S2.df D3 (fun t k q => absurd q.2.1 (by decide))
  have kk : cR (csI M2 5 0 10 1) 1 2 3 = cR M 1 0 3 := by
    rw [D3.2.2.1 1 2 3 (fun q => absurd q.1 (by decide)), D2.2.2.1 1 2 3 (fun q => absurd q.2.1 (by decide)), k1]
  obtain ⟨M', hM'⟩ : ∃ M', csI M2 5 0 10 1 = M' := ⟨_, rfl⟩
  have i10 : cI M' 5 0 10 = 1 := by rw [← hM']; exact cI_same _ _ _ _ _
  rw [hM'] at D C2 S3 kk
  have e2' := D.2.2.2
  have a2 : rA M' = rA M := m2A e2'
  have c0 : Ch M' 0 (rA M 2) := hC.df D (fun t k hk q => by omega)
  have R : XC (d + 20) jX6_image [vR 6 0 0] M' = some (some (vI (rA M 2 19)), rsI (rsA M' 3 (rA M 2)) 4 1) := by
    rw [E_X6_image]
    have L := chain (fun k => X (d + 19) jX6_image 2 [some (vR 6 0 0), some (vI (nI k))] [] (rsA M' 3 (mixF (rA M' 2) (rA M' 3) k))) 940 (fun k hk => by
      have g : ¬ (940 : Int32) ≤ nI k := nI_ge (b := 940) hk (by omega)
      try dsimp only
      rw [B_X6_image_2, if_neg g, ob_no (by omega) (by omega), ob_no (by omega) (by omega), cl_no (by omega), rA_same, rA_ne _ _ (by decide), rsA_rsA, nI_1]
      try dsimp only
      rw [mixF_up rfl])
    have m0 : rsA M' 3 (mixF (rA M' 2) (rA M' 3) 0) = M' := by rw [mixF_0, rsA_self]
    have m9 : mixF (rA M' 2) (rA M' 3) 940 = rA M 2 := by rw [a2]; exact mix_all (fun k hk => (hhi k hk).symm)
    try dsimp only at L
    rw [m0, m9] at L
    refine Eq.trans L ?_
    rw [B_X6_image_2, if_pos (by decide), B_X6_image_27]
    try dsimp only
    rw [rA_rsI, rA_ne _ _ (by decide), a2]
  refine ⟨vI (rA M 2 19), M', rsI (rsA M' 3 (rA M 2)) 4 1, ?_, R, fun h => ?_, ?_⟩
  · try dsimp only
    rw [E_X5_image, e1, bindV_some, e2, bindV_some, hM']
    try dsimp only
    rw [c0.c0]
  · have n2 : rA (rsI (rsA M' 3 (rA M 2)) 4 1) 2 = rA M 2 := by rw [rA_rsI, rA_ne _ _ (by decide), a2]
    have n3 : rA (rsI (rsA M' 3 (rA M 2)) 4 1) 3 = rA M 2 := by rw [rA_rsI, rA_same]
    refine ⟨h, ?_, ?_, Ps, ?_, ?_, ?_⟩
    · rw [n2, n3]; exact fun _ _ => rfl
    · obtain ⟨k, k1, k2, k3, k4⟩ := hac
      refine ⟨k, k1, ?_, ?_, fun i hi => ?_⟩
      · exact (D.1 0 0 3 (fun q => by omega)).trans k2
      · rw [rI_rsI, if_neg (by decide), rI_rsA, m2I e2']; exact k3
      · rw [rA_rsI, rA_ne _ _ (by decide), a2]
        exact (congrFun (D.2.1 0 0 5 (fun q => by omega)) i).trans (k4 i hi)
    · rw [n2]
      exact ((hGo.mono (Nat.le_succ B)).df D (fun t k hk q => by omega) (fun t k q => by omega)).m1 rfl
    · rw [n2]
      exact (hP.df D (fun t j k hj q => by omega)).m1 rfl
    · refine Or.inr ⟨i10, ?_, ?_, ?_⟩
      · rw [rI_rsI, if_pos rfl]
      · rw [n3]
        exact Gd.m1 ⟨hs.mono (Nat.le_succ B), hr, hf, C2, S3, by rw [kk]; exact hL, hRep⟩ rfl
      · rw [n2, n3]; exact Nat.le_refl _
  · show M'.2.2 = M.2.2
    rw [e2']
theorem c_undo (d : Nat) {B : Nat} {M : Mem} (I : Inv B M) : Call B M (fun M => XC (d + 20) jX5_undo [vR 5 0 0] M) (fun N => XC (d + 20) jX6_undo [vR 6 0 0] N) := by
  obtain ⟨hB, hhi, hac, Ps, hG, hP, hI⟩ := id I
  rcases hI with ⟨j1, j2⟩ | ⟨j1, j2, j3, j4⟩
  · refine Call.same I (vI (-3)) ?_ ?_
    · try dsimp only
      rw [E_X5_undo, j1, if_pos rfl]
    · try dsimp only
      rw [E_X6_undo, j2, if_pos rfl]
  · obtain ⟨P, p1, p2⟩ := j3.held hP j4
    have hGo := j3
    obtain ⟨hs, hr, hf, hC, hS, hL, hRep⟩ := j3
    obtain ⟨M1, e1, D1, C1, H1, k1⟩ := X1_become (d + 18) 0 2 (by decide) M hC p1
    have S0 := hS.df D1 (fun t k q => absurd q.1 (by decide))
    obtain ⟨M', e2, D2, S2⟩ := X4_become (d + 18) 0 1 (by decide) M1 S0
    have D : Df (fun t c m k => (c = 1 ∧ m = 0) ∨ (t ≤ 1 ∧ c = 4 ∧ m = 0)) M M' := (D1.mono (fun t c m k q => Or.inl q)).tr (D2.mono (fun t c m k q => Or.inr q))
    have C2 : Ch M' 0 (rA M 3) := C1.df D2 (fun t k hk q => absurd q.2.1 (by decide))
    have kk : cR M' 1 0 3 = cR M 1 2 3 := by rw [D2.2.2.1 1 0 3 (fun q => absurd q.2.1 (by decide)), k1]
    have e2' := D.2.2.2
    have a2 : rA M' = rA M := m2A e2'
    have R : XC (d + 20) jX6_undo [vR 6 0 0] M' = some (some (vI (rA M 3 19)), rsA M' 2 (rA M 3)) := by
      have n4 : ¬ rI M' 4 = 0 := by rw [m2I e2', j2]; decide
      rw [E_X6_undo, if_neg n4, B_X6_undo_10]
      have L := chain (fun k => X (d + 19) jX6_undo 12 [some (vR 6 0 0), some (vI (nI k))] [] (rsA M' 2 (mixF (rA M' 3) (rA M' 2) k))) 940 (fun k hk => by
        have g : ¬ (940 : Int32) ≤ nI k := nI_ge (b := 940) hk (by omega)
        try dsimp only
        rw [B_X6_undo_12, if_neg g, ob_no (by omega) (by omega), ob_no (by omega) (by omega), cl_no (by omega), rA_same, rA_ne _ _ (by decide), rsA_rsA, nI_1]
        try dsimp only
        rw [mixF_up rfl])
      have m0 : rsA M' 2 (mixF (rA M' 3) (rA M' 2) 0) = M' := by rw [mixF_0, rsA_self]
      have m9 : mixF (rA M' 3) (rA M' 2) 940 = rA M 3 := by rw [a2]; exact mix_all hhi
      try dsimp only at L
      rw [m0, m9] at L
      refine Eq.trans L ?_
      rw [B_X6_undo_12, if_pos (by decide), B_X6_undo_37, rA_same]
    refine ⟨vI (rA M 3 19), M', rsA M' 2 (rA M 3), ?_, R, fun h => ?_, ?_⟩
    · have n10 : ¬ cI M 5 0 10 = 0 := by rw [j1]; decide
      try dsimp only
      rw [E_X5_undo, if_neg n10, B_X5_undo_10, e1, bindV_some, e2, bindV_some, C2.c0]
    · have n2 : rA (rsA M' 2 (rA M 3)) 2 = rA M 3 := rA_same _ _ _
      have n3 : rA (rsA M' 2 (rA M 3)) 3 = rA M 3 := by rw [rA_ne _ _ (by decide), a2]
      refine ⟨h, ?_, ?_, Ps, ?_, ?_, ?_⟩
      · rw [n2, n3]; exact fun _ _ => rfl
      · obtain ⟨k, k1, k2, k3, k4⟩ := hac
        refine ⟨k, k1, ?_, ?_, fun i hi => ?_⟩
        · exact (D.1 0 0 3 (fun q => by omega)).trans k2
        · rw [rI_rsA, m2I e2']; exact k3
        · rw [rA_ne _ _ (by decide), a2]
          exact (congrFun (D.2.1 0 0 5 (fun q => by omega)) i).trans (k4 i hi)
      · rw [n2]
        exact Gd.m1 ⟨hs.mono (Nat.le_succ B), hr, hf, C2, S2, by rw [kk]; exact hL, hRep⟩ rfl
      · rw [n2]
        have hP2 : PsOk (seS (rA M 3)) Ps M := ⟨hP.1, fun i hi => hP.2 i (by omega)⟩
        exact (hP2.df D (fun t j k hj q => by omega)).m1 rfl
      · refine Or.inr ⟨?_, ?_, ?_, ?_⟩
        · exact (D.1 5 0 10 (fun q => by omega)).trans j1
        · rw [rI_rsA, m2I e2']; exact j2
        · rw [n3]
          exact ((hGo.mono (Nat.le_succ B)).df D (fun t k hk q => by omega) (fun t k q => by omega)).m1 rfl
        · rw [n2, n3]; exact Nat.le_refl _
    · show M'.2.2 = M.2.2
      rw [e2']
