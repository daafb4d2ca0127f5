/-! feed, dust, plan, book -/
theorem Df.sh {S : SetC} {M M' : Mem} (h : Df S M M') : Df S M M' := h
theorem c_feed (d : Nat) (x : Int32) {B : Nat} {M : Mem} (I : Inv B M) : Call B M (fun M => XC (d + 20) jX5_feed [vR 5 0 0, vI x] M) (fun N => XC (d + 20) jX6_feed [vR 6 0 0, vI x] N) := by
  obtain ⟨_, _, _, Ps, hG, _, _⟩ := id I
  obtain ⟨s, hs0⟩ : ∃ s, rA M 2 = s := ⟨_, rfl⟩
  rw [hs0] at hG
  obtain ⟨hs, hr, hf, hC, hS, _, _⟩ := hG
  obtain ⟨ht, ht1⟩ := hr.tp
  by_cases a : 0 ≤ x ∧ x ≤ 127
  · obtain ⟨k, hk, rfl⟩ := in_le (n := 127) (by omega) rfl a
    by_cases g : tpS s < 100
    · have l : nI (tpS s) < 100 := nI_lt (b := 100) g (by omega)
      have n : ¬ nI (tpS s) = 100 := nI_ne (b := 100) (by omega) (by omega) (by omega)
      have c0 := hS.1.1
      have hS1 := (hS.w6 g (nI k)).v0 (nI (tpS s + 1))
      refine ⟨vI (nI (tpS s + 1)), csI (csA M 4 0 6 (upd (cA M 4 0 6) (tpS s) (nI k))) 4 0 0 (nI (tpS s + 1)), rsA (csI (csA M 4 0 6 (upd (cA M 4 0 6) (tpS s) (nI k))) 4 0 0 (nI (tpS s + 1))) 2 (upd (upd s (125 + tpS s) (nI k)) 25 (nI (tpS s + 1))), ?_, ?_, fun h => ?_, rfl⟩
      · try dsimp only
        rw [E_X5_feed, rng, if_pos a, B_X5_feed_13, c0, ht, if_pos l, B_X5_feed_28, c0, ht, ob_no (by omega) (by omega), cl_no (by omega)]
        simp only [cI_csA, cI_same, c0, ht, nI_1]
      · have hA' : rA (csI (csA M 4 0 6 (upd (cA M 4 0 6) (tpS s) (nI k))) 4 0 0 (nI (tpS s + 1))) 2 = s := hs0
        have u1 : upd s (125 + tpS s) (nI k) 25 = nI (tpS s) := by rw [upd_ne (by omega), ht]
        try dsimp only
        rw [E_X6_feed, X6_in, bindI_some, if_pos a, ne_10, B_X6_feed_13, hA', ht, if_neg n, B_X6_feed_28, hA', ht, la125, ob_no (by omega) (by omega), cl_no (by omega)]
        simp only [rA_same, rsA_rsA, u1, nI_1, upd_same]
      · obtain ⟨r1, r2, r3, r4, r5, r6, r7⟩ := hr
        have ens : nsS (upd (upd s (125 + tpS s) (nI k)) 25 (nI (tpS s + 1))) = nsS s := by unfold nsS; rw [upd_ne (by omega), upd_ne (by omega)]
        have epl : plS (upd (upd s (125 + tpS s) (nI k)) 25 (nI (tpS s + 1))) = plS s := by unfold plS; rw [upd_ne (by omega), upd_ne (by omega)]
        have ebk : bkS (upd (upd s (125 + tpS s) (nI k)) 25 (nI (tpS s + 1))) = bkS s := by unfold bkS; rw [upd_ne (by omega), upd_ne (by omega)]
        refine I.sheet (Df.tr (Df.csA ⟨by decide, rfl, rfl⟩) (Df.csI ⟨by decide, rfl, rfl⟩)) Rf.now (rA_same _ _ _) ⟨(r1.up (by omega)).up (Or.inr (Or.inr ⟨tpS s + 1, by omega, rfl⟩)), (r2.up (by omega)).up (by omega), (r3.up (by omega)).up (by omega), (r4.up (by omega)).up (by omega), (r5.up (Or.inr (Or.inr ⟨k, hk, rfl⟩))).up (by omega), fun i hi => ?_, fun i hi => ?_⟩ hS1 (fun k hk => by rw [hs0, upd_ne (by omega), upd_ne (by omega)]) h
        · rw [ens, epl, upd_ne (by omega), upd_ne (by omega)]; exact r6 i hi
        · rw [ens, ebk, upd_ne (by omega), upd_ne (by omega)]; exact r7 i hi
    · have e : tpS s = 100 := by omega
      have l : ¬ nI (tpS s) < 100 := by rw [e]; decide
      have n : nI (tpS s) = 100 := by rw [e]; rfl
      refine Call.same I (vI (-4)) ?_ ?_
      · try dsimp only
        rw [E_X5_feed, rng, if_pos a, B_X5_feed_13, hS.1.1, ht, if_neg l]
      · try dsimp only
        rw [E_X6_feed, X6_in, bindI_some, if_pos a, ne_10, B_X6_feed_13, hs0, ht, if_pos n]
  · refine Call.same I (vI (-2)) ?_ ?_
    · try dsimp only
      rw [E_X5_feed, rng, if_neg a, B_X5_feed_10]
    · try dsimp only
      rw [E_X6_feed, X6_in, bindI_some, if_neg a, eq_00]
theorem c_dust (d : Nat) (x y : Int32) {B : Nat} {M : Mem} (I : Inv B M) : Call B M (fun M => XC (d + 20) jX5_dust [vR 5 0 0, vI x, vI y] M) (fun N => XC (d + 20) jX6_dust [vR 6 0 0, vI x, vI y] N) := by
  obtain ⟨_, _, _, Ps, hG, _, _⟩ := id I
  obtain ⟨s, hs0⟩ : ∃ s, rA M 2 = s := ⟨_, rfl⟩
  rw [hs0] at hG
  obtain ⟨hs, hr, hf, hC, hS, _, _⟩ := hG
  obtain ⟨ht, ht1⟩ := hr.du
  by_cases c : x = -1
  · subst c
    refine ⟨vI 0, csI M 4 0 2 0, rsA (csI M 4 0 2 0) 2 (upd s 22 0), ?_, ?_, fun h => ?_, rfl⟩
    · try dsimp only
      rw [E_X5_dust, if_pos rfl]
    · have hA' : rA (csI M 4 0 2 0) 2 = s := hs0
      try dsimp only
      rw [E_X6_dust, if_pos rfl, hA']
    · obtain ⟨r1, r2, r3, r4, r5, r6, r7⟩ := hr
      have ens : nsS (upd s 22 0) = nsS s := by unfold nsS; rw [upd_ne (by omega)]
      have epl : plS (upd s 22 0) = plS s := by unfold plS; rw [upd_ne (by omega)]
      have ebk : bkS (upd s 22 0) = bkS s := by unfold bkS; rw [upd_ne (by omega)]
      refine I.sheet (Df.csI ⟨by decide, rfl, rfl⟩) Rf.now (rA_same _ _ _) ⟨r1.up (by omega), r2.up (by omega), r3.up (Or.inr (Or.inr ⟨0, by omega, rfl⟩)), r4.up (by omega), r5.up (by omega), fun i hi => ?_, fun i hi => ?_⟩ (hS.v2 0) (fun k hk => by rw [hs0, upd_ne (by omega)]) h
      · rw [ens, epl, upd_ne (by omega)]; exact r6 i hi
      · rw [ens, ebk, upd_ne (by omega)]; exact r7 i hi
  · by_cases a : (0 ≤ x ∧ x ≤ 40) ∧ (0 ≤ y ∧ y ≤ 6)
    · by_cases g : duS s < 6
      · have l : nI (duS s) < 6 := nI_lt (b := 6) g (by omega)
        have n : ¬ nI (duS s) = 6 := nI_ne (b := 6) (by omega) (by omega) (by omega)
        have c0 := hS.1.2.2.1
        have hS1 := ((hS.w7 g x).w8 g y).v2 (nI (duS s + 1))
        obtain ⟨M', hM'⟩ : ∃ M', csI (csA (csA M 4 0 7 (upd (cA M 4 0 7) (duS s) x)) 4 0 8 (upd (cA (csA M 4 0 7 (upd (cA M 4 0 7) (duS s) x)) 4 0 8) (duS s) y)) 4 0 2 (nI (duS s + 1)) = M' := ⟨_, rfl⟩
        rw [hM'] at hS1
        have D : Df shC M M' := by rw [← hM']; exact Df.tr (Df.tr (Df.csA ⟨by decide, rfl, rfl⟩) (Df.csA ⟨by decide, rfl, rfl⟩)) (Df.csI ⟨by decide, rfl, rfl⟩)
        have hA' : rA M' 2 = s := by rw [m2A D.2.2.2, hs0]
        refine ⟨vI (nI (duS s + 1)), M', rsA M' 2 (upd (upd (upd s (81 + duS s) x) (87 + duS s) y) 22 (nI (duS s + 1))), ?_, ?_, fun h => ?_, ?_⟩
        · try dsimp only
          rw [E_X5_dust, if_neg c, B_X5_dust_15, rng2, if_pos a.1, rng, if_pos a.2, B_X5_dust_38, c0, ht, if_pos l, B_X5_dust_53, c0, ht, ob_no (by omega) (by omega), cl_no (by omega)]
          simp only [cI_csA, cI_same, c0, ht, nI_1]
          rw [ob_no (by omega) (by omega), cl_no (by omega), hM']
        · have u1 : upd s (81 + duS s) x 22 = nI (duS s) := by rw [upd_ne (by omega), ht]
          have u2 : upd (upd s (81 + duS s) x) (87 + duS s) y 22 = nI (duS s) := by rw [upd_ne (by omega), upd_ne (by omega), ht]
          try dsimp only
          rw [E_X6_dust, if_neg c, B_X6_dust_15, X6_in, bindI_some, if_pos a.1, ne_10, X6_in, bindI_some, if_pos a.2, ne_10, B_X6_dust_38, hA', ht, if_neg n, B_X6_dust_53, hA', ht, la81, ob_no (by omega) (by omega), cl_no (by omega)]
          simp only [rA_same, rsA_rsA, u1, la87]
          rw [ob_no (by omega) (by omega), cl_no (by omega)]
          simp only [rA_same, rsA_rsA, u2, nI_1, upd_same]
        · obtain ⟨r1, r2, r3, r4, r5, r6, r7⟩ := hr
          have ens : nsS (upd (upd (upd s (81 + duS s) x) (87 + duS s) y) 22 (nI (duS s + 1))) = nsS s := by unfold nsS; rw [upd_ne (by omega), upd_ne (by omega), upd_ne (by omega)]
          have epl : plS (upd (upd (upd s (81 + duS s) x) (87 + duS s) y) 22 (nI (duS s + 1))) = plS s := by unfold plS; rw [upd_ne (by omega), upd_ne (by omega), upd_ne (by omega)]
          have ebk : bkS (upd (upd (upd s (81 + duS s) x) (87 + duS s) y) 22 (nI (duS s + 1))) = bkS s := by unfold bkS; rw [upd_ne (by omega), upd_ne (by omega), upd_ne (by omega)]
          refine I.sheet D Rf.now (rA_same _ _ _) ⟨((r1.up (by omega)).up (by omega)).up (by omega), ((r2.up (by omega)).up (by omega)).up (by omega), ((r3.up (by omega)).up (by omega)).up (Or.inr (Or.inr ⟨duS s + 1, by omega, rfl⟩)), ((r4.up (by omega)).up (by omega)).up (by omega), ((r5.up (by omega)).up (by omega)).up (by omega), fun i hi => ?_, fun i hi => ?_⟩ hS1 (fun k hk => by rw [hs0, upd_ne (by omega), upd_ne (by omega), upd_ne (by omega)]) h
          · rw [ens, epl, upd_ne (by omega), upd_ne (by omega), upd_ne (by omega)]; exact r6 i hi
          · rw [ens, ebk, upd_ne (by omega), upd_ne (by omega), upd_ne (by omega)]; exact r7 i hi
        · show M'.2.2 = M.2.2
          rw [D.2.2.2]
      · have e : duS s = 6 := by omega
        have l : ¬ nI (duS s) < 6 := by rw [e]; decide
        have n : nI (duS s) = 6 := by rw [e]; rfl
        refine Call.same I (vI (-4)) ?_ ?_
        · try dsimp only
          rw [E_X5_dust, if_neg c, B_X5_dust_15, rng2, if_pos a.1, rng, if_pos a.2, B_X5_dust_38, hS.1.2.2.1, ht, if_neg l]
        · try dsimp only
          rw [E_X6_dust, if_neg c, B_X6_dust_15, X6_in, bindI_some, if_pos a.1, ne_10, X6_in, bindI_some, if_pos a.2, ne_10, B_X6_dust_38, hs0, ht, if_pos n]
    · refine Call.same I (vI (-2)) ?_ ?_
      · try dsimp only
        rw [E_X5_dust, if_neg c, B_X5_dust_15, rng2, rng, B_X5_dust_35]
        by_cases g : 0 ≤ x ∧ x ≤ 40
        · rw [if_pos g, if_neg (fun w => a ⟨g, w⟩)]
        · rw [if_neg g]
      · try dsimp only
        rw [E_X6_dust, if_neg c, B_X6_dust_15, X6_in, bindI_some]
        by_cases g : 0 ≤ x ∧ x ≤ 40
        · rw [if_pos g, ne_10, X6_in, bindI_some, if_neg (show ¬ (0 ≤ y ∧ y ≤ 6) from fun w => a ⟨g, w⟩), eq_00, B_X6_dust_35]
        · rw [if_neg g, eq_00, B_X6_dust_35]
theorem c_plan (d : Nat) (x y : Int32) {B : Nat} {M : Mem} (I : Inv B M) : Call B M (fun M => XC (d + 20) jX5_plan [vR 5 0 0, vI x, vI y] M) (fun N => XC (d + 20) jX6_plan [vR 6 0 0, vI x, vI y] N) := by
  obtain ⟨_, _, _, Ps, hG, _, _⟩ := id I
  obtain ⟨s, hs0⟩ : ∃ s, rA M 2 = s := ⟨_, rfl⟩
  rw [hs0] at hG
  obtain ⟨hs, hr, hf, hC, hS, _, _⟩ := hG
  obtain ⟨ht, ht1⟩ := hr.pl
  have h6 := hs.ns.2
  by_cases c : x = -1
  · subst c
    refine ⟨vI 0, csI M 4 0 3 0, rsA (csI M 4 0 3 0) 2 (upd s 23 0), ?_, ?_, fun h => ?_, rfl⟩
    · try dsimp only
      rw [E_X5_plan, if_pos rfl]
    · have hA' : rA (csI M 4 0 3 0) 2 = s := hs0
      try dsimp only
      rw [E_X6_plan, if_pos rfl, hA']
    · obtain ⟨r1, r2, r3, r4, r5, r6, r7⟩ := hr
      have ens : nsS (upd s 23 0) = nsS s := by unfold nsS; rw [upd_ne (by omega)]
      have eot : bkS (upd s 23 0) = bkS s := by unfold bkS; rw [upd_ne (by omega)]
      have eow : plS (upd s 23 0) = 0 := by unfold plS; rw [upd_same]; rfl
      refine I.sheet (Df.csI ⟨by decide, rfl, rfl⟩) Rf.now (rA_same _ _ _) ⟨r1.up (by omega), r2.up (by omega), r3.up (by omega), r4.up (Or.inr (Or.inr ⟨0, by omega, rfl⟩)), r5.up (by omega), fun i hi => ?_, fun i hi => ?_⟩ (hS.v3 0) (fun k hk => by rw [hs0, upd_ne (by omega)]) h
      · rw [ens, eow, upd_ne (by omega)]
        obtain ⟨k, k1, k2, k3⟩ := r6 i hi
        exact ⟨k, k1, k2, fun w => absurd w (Nat.not_lt_zero _)⟩
      · rw [ens, eot, upd_ne (by omega)]
        exact r7 i hi
  · by_cases sgx : isSg s x
    · obtain ⟨p, hp, rfl⟩ := sgx.num hs
      by_cases a : -1 ≤ y ∧ y ≤ 23
      · by_cases g : plS s < 8
        · have l : nI (plS s) < 8 := nI_lt (b := 8) g (by omega)
          have n : ¬ nI (plS s) = 8 := nI_ne (b := 8) (by omega) (by omega) (by omega)
          have c0 := hS.1.2.2.2.1
          have hS1 := ((hS.w9 g (nI p)).w10 g y).v3 (nI (plS s + 1))
          obtain ⟨M', hM'⟩ : ∃ M', csI (csA (csA M 4 0 9 (upd (cA M 4 0 9) (plS s) (nI p))) 4 0 10 (upd (cA (csA M 4 0 9 (upd (cA M 4 0 9) (plS s) (nI p))) 4 0 10) (plS s) y)) 4 0 3 (nI (plS s + 1)) = M' := ⟨_, rfl⟩
          rw [hM'] at hS1
          have D : Df shC M M' := by rw [← hM']; exact Df.tr (Df.tr (Df.csA ⟨by decide, rfl, rfl⟩) (Df.csA ⟨by decide, rfl, rfl⟩)) (Df.csI ⟨by decide, rfl, rfl⟩)
          have hA' : rA M' 2 = s := by rw [m2A D.2.2.2, hs0]
          refine ⟨vI (nI (plS s + 1)), M', rsA M' 2 (upd (upd (upd s (93 + plS s) (nI p)) (101 + plS s) y) 23 (nI (plS s + 1))), ?_, ?_, fun h => ?_, ?_⟩
          · try dsimp only
            rw [E_X5_plan, if_neg c, B_X5_plan_15, X5_isSinger (d + 18) hC, bindI_some, if_pos sgx, ne_10, B_X5_plan_25, rng, if_pos a, B_X5_plan_39, c0, ht, if_pos l, B_X5_plan_54, c0, ht, ob_no (by omega) (by omega), cl_no (by omega)]
            simp only [cI_csA, cI_same, c0, ht, nI_1]
            rw [ob_no (by omega) (by omega), cl_no (by omega), hM']
          · have u1 : upd s (93 + plS s) (nI p) 23 = nI (plS s) := by rw [upd_ne (by omega), ht]
            have u2 : upd (upd s (93 + plS s) (nI p)) (101 + plS s) y 23 = nI (plS s) := by rw [upd_ne (by omega), upd_ne (by omega), ht]
            try dsimp only
            rw [E_X6_plan, if_neg c, B_X6_plan_15, X6_isSinger (d + 17) hs hA', bindI_some, if_pos sgx, ne_10, B_X6_plan_25, X6_in, bindI_some, if_pos a, ne_10, B_X6_plan_38, hA', ht, if_neg n, B_X6_plan_53, hA', ht, la93, ob_no (by omega) (by omega), cl_no (by omega)]
            simp only [rA_same, rsA_rsA, u1, la101]
            rw [ob_no (by omega) (by omega), cl_no (by omega)]
            simp only [rA_same, rsA_rsA, u2, nI_1, upd_same]
          · obtain ⟨r1, r2, r3, r4, r5, r6, r7⟩ := hr
            have ens : nsS (upd (upd (upd s (93 + plS s) (nI p)) (101 + plS s) y) 23 (nI (plS s + 1))) = nsS s := by unfold nsS; rw [upd_ne (by omega), upd_ne (by omega), upd_ne (by omega)]
            have eot : bkS (upd (upd (upd s (93 + plS s) (nI p)) (101 + plS s) y) 23 (nI (plS s + 1))) = bkS s := by unfold bkS; rw [upd_ne (by omega), upd_ne (by omega), upd_ne (by omega)]
            have eow : plS (upd (upd (upd s (93 + plS s) (nI p)) (101 + plS s) y) 23 (nI (plS s + 1))) = plS s + 1 := by
              show (upd (upd (upd s (93 + plS s) (nI p)) (101 + plS s) y) 23 (nI (plS s + 1)) 23).toNatClampNeg = plS s + 1
              rw [upd_same, cl_no (by omega)]
            refine I.sheet D Rf.now (rA_same _ _ _) ⟨((r1.up (by omega)).up (by omega)).up (by omega), ((r2.up (by omega)).up (by omega)).up (by omega), ((r3.up (by omega)).up (by omega)).up (by omega), ((r4.up (by omega)).up (by omega)).up (Or.inr (Or.inr ⟨plS s + 1, by omega, rfl⟩)), ((r5.up (by omega)).up (by omega)).up (by omega), fun i hi => ?_, fun i hi => ?_⟩ hS1 (fun k hk => by rw [hs0, upd_ne (by omega), upd_ne (by omega), upd_ne (by omega)]) h
            · rw [ens, eow, upd_ne (by omega), upd_ne (by omega)]
              by_cases w : i = plS s
              · subst w
                rw [upd_same]
                exact ⟨p, rfl, by omega, fun _ => hp⟩
              · rw [upd_ne (by omega)]
                obtain ⟨k, k1, k2, k3⟩ := r6 i hi
                exact ⟨k, k1, k2, fun v => k3 (by omega)⟩
            · rw [ens, eot, upd_ne (by omega), upd_ne (by omega)]
              rw [upd_ne (by omega)]
              exact r7 i hi
          · show M'.2.2 = M.2.2
            rw [D.2.2.2]
        · have e : plS s = 8 := by omega
          have l : ¬ nI (plS s) < 8 := by rw [e]; decide
          have n : nI (plS s) = 8 := by rw [e]; rfl
          refine Call.same I (vI (-4)) ?_ ?_
          · try dsimp only
            rw [E_X5_plan, if_neg c, B_X5_plan_15, X5_isSinger (d + 18) hC, bindI_some, if_pos sgx, ne_10, B_X5_plan_25, rng, if_pos a, B_X5_plan_39, hS.1.2.2.2.1, ht, if_neg l]
          · try dsimp only
            rw [E_X6_plan, if_neg c, B_X6_plan_15, X6_isSinger (d + 17) hs hs0, bindI_some, if_pos sgx, ne_10, B_X6_plan_25, X6_in, bindI_some, if_pos a, ne_10, B_X6_plan_38, hs0, ht, if_pos n]
      · refine Call.same I (vI (-2)) ?_ ?_
        · try dsimp only
          rw [E_X5_plan, if_neg c, B_X5_plan_15, X5_isSinger (d + 18) hC, bindI_some, if_pos sgx, ne_10, B_X5_plan_25, rng, if_neg a, B_X5_plan_36]
        · try dsimp only
          rw [E_X6_plan, if_neg c, B_X6_plan_15, X6_isSinger (d + 17) hs hs0, bindI_some, if_pos sgx, ne_10, B_X6_plan_25, X6_in, bindI_some, if_neg a, eq_00]
    · refine Call.same I (vI (-1)) ?_ ?_
      · try dsimp only
        rw [E_X5_plan, if_neg c, B_X5_plan_15, X5_isSinger (d + 18) hC, bindI_some, if_neg sgx, eq_00]
      · try dsimp only
        rw [E_X6_plan, if_neg c, B_X6_plan_15, X6_isSinger (d + 17) hs hs0, bindI_some, if_neg sgx, eq_00]
theorem c_book (d : Nat) (x y : Int32) {B : Nat} {M : Mem} (I : Inv B M) : Call B M (fun M => XC (d + 20) jX5_book [vR 5 0 0, vI x, vI y] M) (fun N => XC (d + 20) jX6_book [vR 6 0 0, vI x, vI y] N) := by
  obtain ⟨_, _, _, Ps, hG, _, _⟩ := id I
  obtain ⟨s, hs0⟩ : ∃ s, rA M 2 = s := ⟨_, rfl⟩
  rw [hs0] at hG
  obtain ⟨hs, hr, hf, hC, hS, _, _⟩ := hG
  obtain ⟨ht, ht1⟩ := hr.bk
  have h6 := hs.ns.2
  by_cases c : x = -1
  · subst c
    refine ⟨vI 0, csI M 4 0 4 0, rsA (csI M 4 0 4 0) 2 (upd s 24 0), ?_, ?_, fun h => ?_, rfl⟩
    · try dsimp only
      rw [E_X5_book, if_pos rfl]
    · have hA' : rA (csI M 4 0 4 0) 2 = s := hs0
      try dsimp only
      rw [E_X6_book, if_pos rfl, hA']
    · obtain ⟨r1, r2, r3, r4, r5, r6, r7⟩ := hr
      have ens : nsS (upd s 24 0) = nsS s := by unfold nsS; rw [upd_ne (by omega)]
      have eot : plS (upd s 24 0) = plS s := by unfold plS; rw [upd_ne (by omega)]
      have eow : bkS (upd s 24 0) = 0 := by unfold bkS; rw [upd_same]; rfl
      refine I.sheet (Df.csI ⟨by decide, rfl, rfl⟩) Rf.now (rA_same _ _ _) ⟨r1.up (by omega), r2.up (by omega), r3.up (by omega), r4.up (Or.inr (Or.inr ⟨0, by omega, rfl⟩)), r5.up (by omega), fun i hi => ?_, fun i hi => ?_⟩ (hS.v4 0) (fun k hk => by rw [hs0, upd_ne (by omega)]) h
      · rw [ens, eot, upd_ne (by omega)]
        exact r6 i hi
      · rw [ens, eow, upd_ne (by omega)]
        obtain ⟨k, k1, k2, k3⟩ := r7 i hi
        exact ⟨k, k1, k2, fun w => absurd w (Nat.not_lt_zero _)⟩
  · by_cases sgx : isSg s x
    · obtain ⟨p, hp, rfl⟩ := sgx.num hs
      by_cases a : 0 ≤ y ∧ y ≤ 999
      · by_cases g : bkS s < 8
        · have l : nI (bkS s) < 8 := nI_lt (b := 8) g (by omega)
          have n : ¬ nI (bkS s) = 8 := nI_ne (b := 8) (by omega) (by omega) (by omega)
          have c0 := hS.1.2.2.2.2
          have hS1 := ((hS.w11 g (nI p)).w12 g y).v4 (nI (bkS s + 1))
          obtain ⟨M', hM'⟩ : ∃ M', csI (csA (csA M 4 0 11 (upd (cA M 4 0 11) (bkS s) (nI p))) 4 0 12 (upd (cA (csA M 4 0 11 (upd (cA M 4 0 11) (bkS s) (nI p))) 4 0 12) (bkS s) y)) 4 0 4 (nI (bkS s + 1)) = M' := ⟨_, rfl⟩
          rw [hM'] at hS1
          have D : Df shC M M' := by rw [← hM']; exact Df.tr (Df.tr (Df.csA ⟨by decide, rfl, rfl⟩) (Df.csA ⟨by decide, rfl, rfl⟩)) (Df.csI ⟨by decide, rfl, rfl⟩)
          have hA' : rA M' 2 = s := by rw [m2A D.2.2.2, hs0]
          refine ⟨vI (nI (bkS s + 1)), M', rsA M' 2 (upd (upd (upd s (109 + bkS s) (nI p)) (117 + bkS s) y) 24 (nI (bkS s + 1))), ?_, ?_, fun h => ?_, ?_⟩
          · try dsimp only
            rw [E_X5_book, if_neg c, B_X5_book_15, X5_isSinger (d + 18) hC, bindI_some, if_pos sgx, ne_10, B_X5_book_25, rng, if_pos a, B_X5_book_39, c0, ht, if_pos l, B_X5_book_54, c0, ht, ob_no (by omega) (by omega), cl_no (by omega)]
            simp only [cI_csA, cI_same, c0, ht, nI_1]
            rw [ob_no (by omega) (by omega), cl_no (by omega), hM']
          · have u1 : upd s (109 + bkS s) (nI p) 24 = nI (bkS s) := by rw [upd_ne (by omega), ht]
            have u2 : upd (upd s (109 + bkS s) (nI p)) (117 + bkS s) y 24 = nI (bkS s) := by rw [upd_ne (by omega), upd_ne (by omega), ht]
            try dsimp only
            rw [E_X6_book, if_neg c, B_X6_book_15, X6_isSinger (d + 17) hs hA', bindI_some, if_pos sgx, ne_10, B_X6_book_25, X6_in, bindI_some, if_pos a, ne_10, B_X6_book_39, hA', ht, if_neg n, B_X6_book_54, hA', ht, la109, ob_no (by omega) (by omega), cl_no (by omega)]
            simp only [rA_same, rsA_rsA, u1, la117]
            rw [ob_no (by omega) (by omega), cl_no (by omega)]
            simp only [rA_same, rsA_rsA, u2, nI_1, upd_same]
          · obtain ⟨r1, r2, r3, r4, r5, r6, r7⟩ := hr
            have ens : nsS (upd (upd (upd s (109 + bkS s) (nI p)) (117 + bkS s) y) 24 (nI (bkS s + 1))) = nsS s := by unfold nsS; rw [upd_ne (by omega), upd_ne (by omega), upd_ne (by omega)]
            have eot : plS (upd (upd (upd s (109 + bkS s) (nI p)) (117 + bkS s) y) 24 (nI (bkS s + 1))) = plS s := by unfold plS; rw [upd_ne (by omega), upd_ne (by omega), upd_ne (by omega)]
            have eow : bkS (upd (upd (upd s (109 + bkS s) (nI p)) (117 + bkS s) y) 24 (nI (bkS s + 1))) = bkS s + 1 := by
              show (upd (upd (upd s (109 + bkS s) (nI p)) (117 + bkS s) y) 24 (nI (bkS s + 1)) 24).toNatClampNeg = bkS s + 1
              rw [upd_same, cl_no (by omega)]
            refine I.sheet D Rf.now (rA_same _ _ _) ⟨((r1.up (by omega)).up (by omega)).up (by omega), ((r2.up (by omega)).up (by omega)).up (by omega), ((r3.up (by omega)).up (by omega)).up (by omega), ((r4.up (by omega)).up (by omega)).up (Or.inr (Or.inr ⟨bkS s + 1, by omega, rfl⟩)), ((r5.up (by omega)).up (by omega)).up (by omega), fun i hi => ?_, fun i hi => ?_⟩ hS1 (fun k hk => by rw [hs0, upd_ne (by omega), upd_ne (by omega), upd_ne (by omega)]) h
            · rw [ens, eot, upd_ne (by omega), upd_ne (by omega)]
              rw [upd_ne (by omega)]
              exact r6 i hi
            · rw [ens, eow, upd_ne (by omega), upd_ne (by omega)]
              by_cases w : i = bkS s
              · subst w
                rw [upd_same]
                exact ⟨p, rfl, by omega, fun _ => hp⟩
              · rw [upd_ne (by omega)]
                obtain ⟨k, k1, k2, k3⟩ := r7 i hi
                exact ⟨k, k1, k2, fun v => k3 (by omega)⟩
          · show M'.2.2 = M.2.2
            rw [D.2.2.2]
        · have e : bkS s = 8 := by omega
          have l : ¬ nI (bkS s) < 8 := by rw [e]; decide
          have n : nI (bkS s) = 8 := by rw [e]; rfl
          refine Call.same I (vI (-4)) ?_ ?_
          · try dsimp only
            rw [E_X5_book, if_neg c, B_X5_book_15, X5_isSinger (d + 18) hC, bindI_some, if_pos sgx, ne_10, B_X5_book_25, rng, if_pos a, B_X5_book_39, hS.1.2.2.2.2, ht, if_neg l]
          · try dsimp only
            rw [E_X6_book, if_neg c, B_X6_book_15, X6_isSinger (d + 17) hs hs0, bindI_some, if_pos sgx, ne_10, B_X6_book_25, X6_in, bindI_some, if_pos a, ne_10, B_X6_book_39, hs0, ht, if_pos n]
      · refine Call.same I (vI (-2)) ?_ ?_
        · try dsimp only
          rw [E_X5_book, if_neg c, B_X5_book_15, X5_isSinger (d + 18) hC, bindI_some, if_pos sgx, ne_10, B_X5_book_25, rng, if_neg a, B_X5_book_36]
        · try dsimp only
          rw [E_X6_book, if_neg c, B_X6_book_15, X6_isSinger (d + 17) hs hs0, bindI_some, if_pos sgx, ne_10, B_X6_book_25, X6_in, bindI_some, if_neg a, eq_00]
    · refine Call.same I (vI (-1)) ?_ ?_
      · try dsimp only
        rw [E_X5_book, if_neg c, B_X5_book_15, X5_isSinger (d + 18) hC, bindI_some, if_neg sgx, eq_00]
      · try dsimp only
        rw [E_X6_book, if_neg c, B_X6_book_15, X6_isSinger (d + 17) hs hs0, bindI_some, if_neg sgx, eq_00]
