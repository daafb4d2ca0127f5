/-! setting -/
def rd4 (a : Nat) : SetC := fun t c m k => (c = 2 ∧ m = 0) ∨ (c = 3 ∧ m = a + 1) ∨ (t = 0 ∧ c = 4 ∧ m = 0 ∧ (k = 0 ∨ k = 1)) ∨ (t = 2 ∧ c = 1 ∧ m = 0 ∧ k = 3)
theorem Df.r4 {a : Nat} {M M' : Mem} (h : Df (rd3 (a + 1)) M M') : Df (rd4 a) M M' := h.mono (fun t c n k q => by unfold rd3 at q; unfold rd4; omega)
theorem RepR.z {s z : St} {i : Nat} {P : List Cl} (h : RepR s i P) (e : ∀ p, (p = 225 + i ∨ p = 230 + i ∨ p = 235 + i ∨ (240 + 140 * i ≤ p ∧ p < 380 + 140 * i)) → z p = s p) : RepR z i P := by
  obtain ⟨h1, h2, h3, h4, h5⟩ := h
  exact ⟨(e _ (by omega)).trans h1, (e _ (by omega)).trans h2, (e _ (by omega)).trans h3, h4, fun k hk => (e _ (by omega)).trans (h5 k hk)⟩
theorem Inv.se {B a b : Nat} {M M' N' : Mem} {Ps Ps' : Nat → List Cl} (hB : B + 1 < 2 ^ 20) (hhi : ∀ k, 940 ≤ k → rA M 3 k = rA M 2 k) (hac : Ac M) (hG : Gd B (rA M 2) 0 0 Ps M) (hP : PsOk (seS (rA M 2)) Ps M) (hI : Im B Ps M) (ha : seS (rA M 2) = a) (ha5 : a < 5) (D : Df (rd4 a) M M') (R : RZ a M' N') (h25 : rA N' 2 25 = 0) (c25 : cI M' 4 0 0 = 0) (h21 : rA N' 2 21 = nI b) (c21 : cI M' 4 0 1 = nI b) (hab : a ≤ b) (hb : b ≤ 5) (hL : Lk (cR M' 1 0 3) (rA N' 2)) (hps : ∀ i, i < b → RepR (rA N' 2) i (Ps' i) ∧ WfP (Ps' i) ∧ RepC M' (i + 1) (Ps' i)) (hPs : ∀ i, i < a → Ps' i = Ps i) : Inv (B + 1) N' := by
  have e2 := D.2.2.2
  have c1 := R.1
  have z2 : ∀ p, ¬ (p = 21 ∨ p = 25 ∨ p = 26 ∨ Z2 a p) → rA N' 2 p = rA M 2 p := fun p hp => (R.2.2.2.2 p hp).trans (by rw [m2A e2])
  have a3 : rA N' 3 = rA M 3 := by rw [R.2.2.2.1 3 (by decide), m2A e2]
  have a19 : rA N' 19 = rA M 19 := by rw [R.2.2.2.1 19 (by decide), m2A e2]
  have i4 : rI N' 4 = rI M 4 := by rw [R.2.2.1 4 (by omega), m2I e2]
  have i19 : rI N' 19 = rI M 19 := by rw [R.2.2.1 19 (by omega), m2I e2]
  have es : seS (rA N' 2) = b := by unfold seS; rw [h21, cl_no (by omega)]
  have ecg : ∀ k, k ≤ 20 ∨ (27 ≤ k ∧ k < 81) → rA N' 2 k = rA M 2 k := fun k hk => z2 k (fun q => by unfold Z2 Z1 at q; omega)
  have ecs : ∀ k, (22 ≤ k ∧ k ≤ 24) ∨ (81 ≤ k ∧ k < 225) → rA N' 2 k = rA M 2 k := fun k hk => z2 k (fun q => by unfold Z2 Z1 at q; omega)
  obtain ⟨g1, g2, g3, g4, g5, g6, g7⟩ := hG
  have D2 : Df (fun t c m k => (c = 2 ∧ m = 0) ∨ (c = 3 ∧ m = a + 1) ∨ (t = 0 ∧ c = 4 ∧ m = 0 ∧ (k = 0 ∨ k = 1))) (csR M 1 0 3 (cR M' 1 0 3)) M' := ⟨fun c n k h => D.1 c n k (fun q => by unfold rd4 at q; omega), fun c n k h => D.2.1 c n k (fun q => by unfold rd4 at q; omega), fun c n k h => by
    rw [cR_csR]
    by_cases e : c = 1 ∧ n = 0 ∧ k = 3
    · obtain ⟨rfl, rfl, rfl⟩ := e
      rw [if_pos ⟨rfl, rfl, rfl⟩]
    · rw [if_neg e]
      exact D.2.2.1 c n k (fun q => by unfold rd4 at q; omega), D.2.2.2⟩
  have g4' : Ch (csR M 1 0 3 (cR M' 1 0 3)) 0 (rA M 2) := g4
  refine ⟨hB, ?_, ?_, Ps', ?_, ?_, ?_⟩
  · intro k hk
    rw [a3, z2 k (fun q => by unfold Z2 Z1 at q; omega)]; exact hhi k hk
  · obtain ⟨k, k1, k2, k3, k4⟩ := hac
    refine ⟨k, k1, ?_, ?_, ?_⟩
    · rw [m1I c1, D.1 0 0 3 (fun q => by unfold rd4 at q; omega)]; exact k2
    · rw [i19]; exact k3
    · intro i hi
      rw [m1A c1, D.2.1 0 0 5 (fun q => by unfold rd4 at q; omega), a19]; exact k4 i hi
  · refine Gd.m1 ⟨(g1.mono (Nat.le_succ B)).cg ecg, ?_, g3.cg ecg, (g4'.df D2 (fun t k hk q => by omega)).cg ecg, ?_, hL, fun i hi => (hps i (Nat.lt_of_lt_of_eq hi es)).1⟩ c1
    · obtain ⟨r1, r2, r3, r4, r5, r6, r7⟩ := g2
      have ens : nsS (rA N' 2) = nsS (rA M 2) := by unfold nsS; rw [ecg 19 (by omega)]
      have ep : plS (rA N' 2) = plS (rA M 2) := by unfold plS; rw [ecs 23 (by omega)]
      have eb : bkS (rA N' 2) = bkS (rA M 2) := by unfold bkS; rw [ecs 24 (by omega)]
      refine ⟨fun i hi => ⟨0, Nat.zero_le _, ?_⟩, fun i hi => ⟨b, hb, ?_⟩, r3.cg (fun k p q => ecs k (by omega)), r4.cg (fun k p q => ecs k (by omega)), r5.cg (fun k p q => ecs k (by omega)), fun i hi => ?_, fun i hi => ?_⟩
      · rw [show 25 + i = 25 by omega]; exact h25
      · rw [show 21 + i = 21 by omega]; exact h21
      · rw [ecs (93 + i) (by omega), ep, ens]; exact r6 i hi
      · rw [ecs (109 + i) (by omega), eb, ens]; exact r7 i hi
    · obtain ⟨⟨s1, s2, s3, s4, s5⟩, t1, t2, t3, t4, t5, t6, t7⟩ := g5
      refine ⟨⟨c25.trans h25.symm, c21.trans h21.symm, ?_, ?_, ?_⟩, fun i hi => ?_, fun i hi => ?_, fun i hi => ?_, fun i hi => ?_, fun i hi => ?_, fun i hi => ?_, fun i hi => ?_⟩
      · rw [D.1 4 0 2 (fun q => by unfold rd4 at q; omega), ecs 22 (by omega)]; exact s3
      · rw [D.1 4 0 3 (fun q => by unfold rd4 at q; omega), ecs 23 (by omega)]; exact s4
      · rw [D.1 4 0 4 (fun q => by unfold rd4 at q; omega), ecs 24 (by omega)]; exact s5
      · rw [D.2.1 4 0 6 (fun q => by unfold rd4 at q; omega), ecs _ (by omega)]; exact t1 i hi
      · rw [D.2.1 4 0 7 (fun q => by unfold rd4 at q; omega), ecs _ (by omega)]; exact t2 i hi
      · rw [D.2.1 4 0 8 (fun q => by unfold rd4 at q; omega), ecs _ (by omega)]; exact t3 i hi
      · rw [D.2.1 4 0 9 (fun q => by unfold rd4 at q; omega), ecs _ (by omega)]; exact t4 i hi
      · rw [D.2.1 4 0 10 (fun q => by unfold rd4 at q; omega), ecs _ (by omega)]; exact t5 i hi
      · rw [D.2.1 4 0 11 (fun q => by unfold rd4 at q; omega), ecs _ (by omega)]; exact t6 i hi
      · rw [D.2.1 4 0 12 (fun q => by unfold rd4 at q; omega), ecs _ (by omega)]; exact t7 i hi
  · rw [es]
    exact ⟨(hP.1.df D (fun t k q => by unfold rd4 at q; omega)).m1 c1, fun i hi => ⟨(hps i hi).2.1, (hps i hi).2.2.m1 c1⟩⟩
  · unfold Im
    rw [m1I c1, D.1 5 0 10 (fun q => by unfold rd4 at q; omega), i4, a3, es]
    rcases hI with hI | ⟨j1, j2, j3, j4⟩
    · exact Or.inl hI
    · obtain ⟨k1, k2, k3, k4, k5, k6, k7⟩ := ((j3.mono (Nat.le_succ B)).df D (fun t k hk q => by unfold rd4 at q; omega) (fun t k q => by unfold rd4 at q; omega)).m1 c1
      exact Or.inr ⟨j1, j2, ⟨k1, k2, k3, k4, k5, k6, fun i hi => by rw [hPs i (by omega)]; exact k7 i hi⟩, by omega⟩
theorem c_setting (d : Nat) {B : Nat} {M : Mem} (I : Inv B M) : Call B M (fun M => XC (d + 40) jX5_setting [vR 5 0 0] M) (fun N => XC (d + 40) jX6_setting [vR 6 0 0] N) := by
  obtain ⟨hB, hhi, hac, Ps, hG, hP, hI⟩ := id I
  obtain ⟨hs, hr, hf, hC, hS, hL, hRep⟩ := id hG
  obtain ⟨ht, ht1⟩ := hr.tp
  obtain ⟨hse, hse5⟩ := hr.se
  obtain ⟨a, ea⟩ : ∃ a, seS (rA M 2) = a := ⟨_, rfl⟩
  obtain ⟨N, eN⟩ : ∃ N, tpS (rA M 2) = N := ⟨_, rfl⟩
  rw [ea] at hse hse5
  rw [eN] at ht ht1
  have c0 := hS.1.1.trans ht
  have c1 := hS.1.2.1.trans hse
  by_cases g5 : a = 5
  · have l5 : ¬ nI a < 5 := by rw [g5]; decide
    have e5 : nI a = 5 := by rw [g5]; rfl
    refine Call.same I (vI (-4)) ?_ ?_
    · try dsimp only
      rw [E_X5_setting, c1, if_neg l5]
    · try dsimp only
      rw [E_X6_setting, hse, if_pos e5]
  · have a5 : a < 5 := by omega
    have l5 : nI a < 5 := nI_lt (b := 5) a5 (by omega)
    have hg : ∀ i, i < N → ∃ c, c ≤ 127 ∧ (fun i => rA M 2 (125 + i)) i = nI c := fun i hi => by
      obtain ⟨c, h1, h2⟩ := hr.2.2.2.2.1 i (by omega)
      exact ⟨c, h1, h2⟩
    have oC := read_cls (d + 11) (M := M) (N := N) (j := a + 1) (g := fun i => rA M 2 (125 + i)) (by omega) ht1 hg hS.2.1
    have Tpk := pkG_Tp hg
    have gS := pSe_go Tpk 9 0 []
    have wS := fun q' P => pSe_wf (pk := pkG (fun i => rA M 2 (125 + i)) N) (N := N) 9 0 [] q' P (Nat.le_refl _) (fun c hc => absurd hc (by simp))
    have st : ∀ {r M1}, XC (d + 39) jX2_read [vR 2 0 0, vR 4 0 6, vI (nI N), vR 3 (a + 1) 0] M = some (some (vI r), M1) → XC (d + 40) jX5_setting [vR 5 0 0] M = (if r < 0 then X (d + 39) jX5_setting 69 [some (vR 5 0 0), some (vR 3 (a + 1) 0), none] [] (csI M1 4 0 0 0) else some (some (vI (-10 - r)), csI M1 4 0 0 0)) := fun {r M1} e => by
      rw [E_X5_setting, c1, if_pos l5, B_X5_setting_14, c1, c0, nI_1, ob_no (show a + 1 < 6 by omega) (by omega), cl_no (by omega), e, bindI_some]
    have other : ∀ i, i < a → ∀ {M' N' : Mem}, Df (rd4 a) M M' → RZ a M' N' → RepR (rA N' 2) i (Ps i) ∧ WfP (Ps i) ∧ RepC M' (i + 1) (Ps i) := fun i hi {M' N'} D R => by
      refine ⟨(hRep i (by omega)).z (fun p hp => ?_), (hP.2 i (by omega)).1, (hP.2 i (by omega)).2.df D (fun t k q => by unfold rd4 at q; omega)⟩
      rw [R.2.2.2.2 p (fun q => by unfold Z2 Z1 at q; omega), m2A D.2.2.2]
    match hp : pSe (pkG (fun i => rA M 2 (125 + i)) N) N 9 0 [], oC with
    | (q', none), oC =>
      obtain ⟨M1, e1, D1⟩ := oC
      rw [hp] at gS
      have hq : q' ≤ N := gS.2 (Nat.zero_le _)
      have D : Df (rd4 a) M (csI M1 4 0 0 0) := D1.r4.tr (Df.csI (Or.inr (Or.inr (Or.inl ⟨rfl, rfl, rfl, Or.inl rfl⟩))))
      have eA : rA (csI M1 4 0 0 0) 2 = rA M 2 := by rw [m2A D.2.2.2]
      have oR := setting_ref (d + 14) (M := csI M1 4 0 0 0) (N := N) (a := a) (g := fun i => rA M 2 (125 + i)) a5 ht1 hg (fun i hi => by rw [eA]) (by rw [eA]; exact hse) (by rw [eA]; exact ht)
      rw [hp] at oR
      obtain ⟨N', e2, R, k25, k21, k26⟩ := oR
      rw [eA] at k21 k26
      refine ⟨_, _, N', ?_, e2, fun h => ?_, ?_⟩
      · try dsimp only
        rw [st e1, if_neg (nI_pos (by omega))]
      · have c1' : cI (csI M1 4 0 0 0) 4 0 1 = nI a := by rw [cI_csI, if_neg (by omega), D1.1 4 0 1 (fun q => by unfold rd3 at q; omega)]; exact c1
        have hL' : Lk (cR (csI M1 4 0 0 0) 1 0 3) (rA N' 2) := by
          rw [cR_csI, D1.2.2.1 1 0 3 (fun q => by unfold rd3 at q; omega)]
          have es : seS (rA N' 2) = seS (rA M 2) := by unfold seS; rw [k21]
          unfold Lk at hL ⊢
          rw [es, k26]; exact hL
        exact Inv.se (Ps' := Ps) h hhi hac hG hP hI ea a5 D R k25 (cI_same _ _ _ _ _) (k21.trans hse) c1' (Nat.le_refl _) hse5 hL' (fun i hi => other i hi D R) (fun i _ => rfl)
      · rw [R.2.1, D.2.2.2]
    | (q', some P), oC =>
      obtain ⟨M1, e1, D1, hRC⟩ := oC
      have hW := wS q' P hp
      have D : Df (rd4 a) M (csI (csR (csI M1 4 0 0 0) 1 0 3 (a + 1)) 4 0 1 (nI (a + 1))) := ((D1.r4.tr (Df.csI (Or.inr (Or.inr (Or.inl ⟨rfl, rfl, rfl, Or.inl rfl⟩))))).tr (Df.csR (Or.inr (Or.inr (Or.inr ⟨rfl, rfl, rfl, rfl⟩))))).tr (Df.csI (Or.inr (Or.inr (Or.inl ⟨rfl, rfl, rfl, Or.inr rfl⟩))))
      obtain ⟨M', hM'⟩ : ∃ M', csI (csR (csI M1 4 0 0 0) 1 0 3 (a + 1)) 4 0 1 (nI (a + 1)) = M' := ⟨_, rfl⟩
      have c1' : cI M' 4 0 1 = nI (a + 1) := by rw [← hM']; exact cI_same _ _ _ _ _
      have c0' : cI M' 4 0 0 = 0 := by rw [← hM', cI_csI, if_neg (by omega), cI_csR]; exact cI_same _ _ _ _ _
      have cr' : cR M' 1 0 3 = a + 1 := by rw [← hM', cR_csI]; exact cR_same _ _ _ _ _
      have rep' : RepC M' (a + 1) P := by
        have D5 : Df (fun t c m k => c = 4 ∨ c = 1) M1 M' := by
          rw [← hM']
          exact ((Df.csI (Or.inl rfl)).tr (Df.csR (Or.inr rfl))).tr (Df.csI (Or.inl rfl))
        exact hRC.df D5 (fun t k q => by omega)
      have v1 : XC (d + 40) jX5_setting [vR 5 0 0] M = some (some (vI (nI a)), M') := by
        have cc : cI (csR (csI M1 4 0 0 0) 1 0 3 (a + 1)) 4 0 1 = nI a := by rw [cI_csR, cI_csI, if_neg (by omega), D1.1 4 0 1 (fun q => by unfold rd3 at q; omega)]; exact c1
        rw [st e1, if_pos (by decide), B_X5_setting_69]
        try dsimp only
        rw [cc, nI_1, cI_same, hM', show nI (a + 1) - 1 = nI a from nI_sub (a := a + 1) (b := 1) (by omega)]
      rw [hM'] at D
      have eA : rA M' 2 = rA M 2 := by rw [m2A D.2.2.2]
      have oR := setting_ref (d + 14) (M := M') (N := N) (a := a) (g := fun i => rA M 2 (125 + i)) a5 ht1 hg (fun i hi => by rw [eA]) (by rw [eA]; exact hse) (by rw [eA]; exact ht)
      rw [hp] at oR
      obtain ⟨N', e2, R, k25, k21, k26, kR⟩ := oR
      refine ⟨_, M', N', v1, e2, fun h => ?_, ?_⟩
      · have es : seS (rA N' 2) = a + 1 := by unfold seS; rw [k21, cl_no (by omega)]
        refine Inv.se (Ps' := fun i => if i = a then P else Ps i) h hhi hac hG hP hI ea a5 D R k25 c0' k21 c1' (Nat.le_succ _) (by omega) (Or.inr ⟨a, by omega, cr', k26⟩) (fun i hi => ?_) (fun i hi => if_neg (by omega))
        by_cases e : i = a
        · subst e
          rw [if_pos rfl]
          exact ⟨kR, hW, rep'⟩
        · rw [if_neg e]
          exact other i (by omega) D R
      · rw [R.2.1, D.2.2.2]
