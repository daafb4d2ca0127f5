/-! the reference's chords -/
theorem TR.A {M0 M : Mem} {B : Nat} {s z : St} {P : List Cl} (h : TR M0 B s z P M) {k : Nat} (hk : k = 13 ∨ k = 16 ∨ k = 17 ∨ k = 18) (f : Nat → Int32) : TR M0 B s z P (rsA M k f) := ⟨h.1.tr (Rf.A (Or.inl ⟨rfl, by omega⟩)), (rA_ne _ _ (by omega)).trans h.2.1, h.2.2⟩
theorem TR.back2 (d : Nat) {N N1 M : Mem} {B : Nat} {s z : St} {P : List Cl} (hk : Kp N N1) (hA : rA N 2 = s) (h : TR N1 B s z P M) : ∃ N', XC (d + 1) jX6_goesBack [vR 6 0 0] M = some (none, N') ∧ RQ N N' ∧ (∀ k, rI N' k = rI M k) ∧ ∀ k, ¬ k = 2 → rA N' k = rA M k := by
  obtain ⟨N', e, R⟩ := h.back d hk hA
  refine ⟨N', e, R, ?_⟩
  have e2 := e.symm.trans (X6_goesBack d M)
  have e3 : N' = rsA M 2 (mixF (rA M 4) (rA M 2) 19) := by
    injection e2 with e2
    injection e2 with _ e2
  rw [e3]
  exact ⟨fun _ => rfl, fun k hk => rA_ne _ _ hk⟩
def chBn (s : St) (n : Nat) (o : Option (Nat × Nat)) (N : Mem) : Prop := match o with
  | none => True
  | some (f, _) => ∀ q, q < n → rA N 17 q = nI (cN s q (dg n f q))
theorem chBn_cg {s : St} {n : Nat} {o : Option (Nat × Nat)} {N N' : Mem} (h : chBn s n o N) (e : rA N' 17 = rA N 17) : chBn s n o N' := by
  match o, h with
  | none, _ => trivial
  | some (f, _), h => exact fun q hq => by rw [e]; exact h q hq
def tabR (P : List Cl) (s : St) (n m : Nat) (N : Mem) : Prop := ∀ q i, q < n → i < 5 → 5 * q + i < m → rA N 16 (5 * q + i) = nI (cF P s q i)
def CI (N0 : Mem) (B : Nat) (s : St) (P : List Cl) (n p c m : Nat) (N : Mem) : Prop := (∃ z, TR N0 B s z P N ∧ agr s z n ∧ ∀ q, q < p → z (1 + q) = nI (cN s q (dg p c q)) ∧ rA N 13 q = nI (cF P s q (dg p c q))) ∧ tabR P s n (5 * n) N ∧ rI N 14 = neL (-1) (chS P s n m) ∧ chBn s n (chS P s n m) N
theorem chordsFrom_ref (d : Nat) {B : Nat} (hB : B < 2 ^ 30) {s : St} {P : List Cl} {N0 : Mem} (hs : Wf B s) (hP : WfP P) {n : Nat} (hnn : nsS s = n) (h5 : n ≤ 5) : ∀ (e p c : Nat) (N : Mem), p + e = n → CI N0 B s P n p c (c * 5 ^ e) N → ∃ N', XC (d + 7 + e) jX6_chordsFrom [vR 6 0 0, vI (nI p)] N = some (none, N') ∧ CI N0 B s P n p c ((c + 1) * 5 ^ e) N'
  | 0, p, c, N, hpe, I => by
    have hpn : p = n := hpe
    subst hpn
    obtain ⟨⟨z, T, A, F⟩, tab, r14, hb⟩ := I
    have hs19 : s 19 = nI p := by rw [hs.ns.1, hnn]
    have hz : z = chR s p c := chR_eq (by omega) A (fun q hq => (F q hq).1)
    have ens : nsS z = p := by
      show (z 19).toNatClampNeg = p
      rw [A 19 (by omega)]
      exact hnn
    have hF : FoR N z (chF P s p c) := fun i hi => by
      rw [ens] at hi
      exact ⟨(F i hi).2, cF_le hB hs hP (by omega) _⟩
    have ev : alS z (chF P s p c) 63 = chV P s p c := by rw [hz]; rfl
    have hv := chV_le hB hs hP hnn.symm h5 c
    have eb : XC (d + 6) jX6_allBy [vR 6 0 0, vI 63] N = some (some (vI (nI (chV P s p c))), N) := by
      have := X6_allBy (d + 1) N T.2.2.2.2 T.2.1 hF (a := 63) (by decide)
      rw [ev] at this
      exact this
    have ok := chS_ok P s p c
    rw [Nat.pow_zero, Nat.mul_one] at r14 hb ⊢
    have es : chS P s p (c + 1) = ch1 P s p c (chS P s p c) := rfl
    have hd : XC (d + 7) jX6_chordsFrom [vR 6 0 0, vI (nI p)] N = if nI (chV P s p c) ≤ neL (-1) (chS P s p c) then some (none, N) else X (d + 6) jX6_chordsFrom 33 [some (vR 6 0 0), some (vI (nI p)), none, some (vI 0)] [] (rsI N 14 (nI (chV P s p c))) := by
      rw [E_X6_chordsFrom, T.2.1, A 19 (by omega), hs19, if_pos rfl, eb, bindI_some, r14]
      try dsimp only
      rw [B_X6_chordsFrom_58]
    have better : ¬ nI (chV P s p c) ≤ neL (-1) (chS P s p c) → ∃ N', XC (d + 7) jX6_chordsFrom [vR 6 0 0, vI (nI p)] N = some (none, N') ∧ CI N0 B s P p p c (c + 1) N' ∨ ∃ N', XC (d + 7) jX6_chordsFrom [vR 6 0 0, vI (nI p)] N = some (none, N') ∧ (∃ z, TR N0 B s z P N' ∧ agr s z p ∧ ∀ q, q < p → z (1 + q) = nI (cN s q (dg p c q)) ∧ rA N' 13 q = nI (cF P s q (dg p c q))) ∧ tabR P s p (5 * p) N' ∧ rI N' 14 = nI (chV P s p c) ∧ ∀ q, q < p → rA N' 17 q = nI (cN s q (dg p c q)) := fun q => by
      refine ⟨N, Or.inr ?_⟩
      obtain ⟨N', e, ⟨T', g13, g16, g14, g17⟩⟩ := loop_ex (fun i (zM : Mem) => X (d + 6) jX6_chordsFrom 33 [some (vR 6 0 0), some (vI (nI p)), none, some (vI (nI i))] [] zM) (fun i zM => TR N0 B s z P zM ∧ rA zM 13 = rA N 13 ∧ rA zM 16 = rA N 16 ∧ rI zM 14 = nI (chV P s p c) ∧ ∀ q, q < i → rA zM 17 q = nI (cN s q (dg p c q))) p (rsI N 14 (nI (chV P s p c))) ⟨T.I (Or.inr rfl) _, rfl, rfl, rfl, fun q hq => absurd hq (by omega)⟩ (fun i zM hi I => by
        obtain ⟨zT, z13, z16, z14, z17⟩ := I
        try dsimp only
        rw [B_X6_chordsFrom_33, ge_no hi (by omega), la1, ob_no (by omega) (by omega), ob_no (by omega) (by omega), cl_no (by omega), cl_no (by omega), nI_1]
        refine ⟨_, rfl, zT.A (by omega) _, ?_, ?_, z14, fun q hq => ?_⟩
        · rw [rA_ne _ _ (by decide)]; exact z13
        · rw [rA_ne _ _ (by decide)]; exact z16
        · rw [rA_same]
          by_cases w : q = i
          · subst w
            rw [upd_same, zT.2.1]
            exact (F q hi).1
          · rw [upd_ne w]
            exact z17 q (by omega))
      refine ⟨N', ?_, ⟨z, T', A, fun q hq => ⟨(F q hq).1, by rw [g13]; exact (F q hq).2⟩⟩, fun q i h1 h2 h3 => by rw [g16]; exact tab q i h1 h2 h3, g14, g17⟩
      rw [hd, if_neg q]
      refine Eq.trans e ?_
      try dsimp only
      rw [B_X6_chordsFrom_33, le_self, B_X6_chordsFrom_58]
    have better2 : ¬ nI (chV P s p c) ≤ neL (-1) (chS P s p c) → ch1 P s p c (chS P s p c) = some (c, chV P s p c) → ∃ N', XC (d + 7 + 0) jX6_chordsFrom [vR 6 0 0, vI (nI p)] N = some (none, N') ∧ ((∃ z, TR N0 B s z P N' ∧ agr s z p ∧ ∀ q, q < p → z (1 + q) = nI (cN s q (dg p c q)) ∧ rA N' 13 q = nI (cF P s q (dg p c q))) ∧ tabR P s p (5 * p) N' ∧ rI N' 14 = neL (-1) (chS P s p (c + 1)) ∧ chBn s p (chS P s p (c + 1)) N') := fun q e9 => by
      obtain ⟨_, h⟩ := better q
      rcases h with ⟨e, I⟩ | ⟨N', e, a, b, g, k⟩
      · exact ⟨_, e, I⟩
      · refine ⟨N', e, a, b, ?_, ?_⟩
        · rw [es, e9]; exact g
        · rw [es, e9]; exact k
    match hm : chS P s p c, ok with
    | none, _ => exact better2 (by rw [hm]; exact nI_gm1 (by omega)) (by rw [hm]; rfl)
    | some (f, v), ok =>
      have hv2 : v ≤ 75600 := by rw [ok.2]; exact chV_le hB hs hP hnn.symm h5 f
      by_cases w : v < chV P s p c
      · exact better2 (by rw [hm]; exact nI_ge w (by omega)) (by rw [hm]; exact ch1_new w)
      · refine ⟨N, ?_, ⟨z, T, A, F⟩, tab, ?_, ?_⟩
        · refine hd.trans (if_pos ?_)
          rw [hm]
          exact nI_le (by omega) (by omega)
        · rw [es, hm, ch1_old w, ← hm]; exact r14
        · rw [es, hm, ch1_old w, ← hm]; exact hb
  | e + 1, p, c, N, hpe, I => by
    have hp6 : p < 6 := by omega
    have hs19 : s 19 = nI n := by rw [hs.ns.1, hnn]
    have e5 : c * 5 ^ (e + 1) = 5 * c * 5 ^ e := by rw [Nat.pow_succ, Nat.mul_comm (5 ^ e) 5, ← Nat.mul_assoc, Nat.mul_comm c 5]
    obtain ⟨N', eN, I'⟩ := loop_ex (fun i (zM : Mem) => X (d + 7 + e) jX6_chordsFrom 61 [some (vR 6 0 0), some (vI (nI p)), some (vI (nI i)), none] [] zM) (fun i zM => CI N0 B s P n p c ((5 * c + i) * 5 ^ e) zM) 5 N (by rw [Nat.add_zero, ← e5]; exact I) (fun i zM hi zI => by
      obtain ⟨⟨z, T, A, F⟩, tab, r14, hb⟩ := zI
      have T2 := T.note hp6 (x := nI (cN s p i)) (Or.inr ⟨_, cN_le s p i, rfl⟩)
      have A2 : agr s (upd z (1 + p) (nI (cN s p i))) n := fun k hk => (upd_ne (by omega)).trans (A k hk)
      have ex : (5 : Int32) * nI p + nI i = nI (5 * p + i) := by rw [show (5 : Int32) = nI 5 from rfl, nI_mul, nI_add]
      generalize hM2 : rsA zM 2 (upd (rA zM 2) (1 + p) (nI (cN s p i))) = M2 at T2
      have m13 : rA M2 13 = rA zM 13 := by rw [← hM2]; exact rA_ne _ _ (by decide)
      have m16 : rA M2 16 = rA zM 16 := by rw [← hM2]; exact rA_ne _ _ (by decide)
      have m17 : rA M2 17 = rA zM 17 := by rw [← hM2]; exact rA_ne _ _ (by decide)
      have m14 : rI M2 14 = rI zM 14 := by rw [← hM2]; rfl
      have T3 := T2.A (k := 13) (by omega) (upd (rA M2 13) p (nI (cF P s p i)))
      have I3 : CI N0 B s P n (p + 1) (5 * c + i) ((5 * c + i) * 5 ^ e) (rsA M2 13 (upd (rA M2 13) p (nI (cF P s p i)))) := by
        refine ⟨⟨_, T3, A2, fun q hq => ?_⟩, fun q j h1 h2 h3 => ?_, ?_, chBn_cg hb ?_⟩
        · rw [rA_same]
          by_cases w : q = p
          · subst w
            rw [upd_same, upd_same, dg_new hi]
            exact ⟨rfl, rfl⟩
          · rw [upd_ne (by omega), upd_ne w, dg_old (by omega) hi, m13]
            exact F q (by omega)
        · rw [rA_ne _ _ (by decide), m16]
          exact tab q j h1 h2 h3
        · rw [rI_rsA, m14]; exact r14
        · rw [rA_ne _ _ (by decide), m17]
      obtain ⟨M4, e4, ⟨z4, T4, A4, F4⟩, tab4, r4, b4⟩ := chordsFrom_ref d hB hs hP hnn h5 e (p + 1) (5 * c + i) _ (by omega) I3
      have g5 : ¬ (5 : Int32) ≤ nI i := nI_ge (b := 5) hi (by omega)
      refine ⟨M4, ?_, ⟨⟨z4, T4, A4, fun q hq => ?_⟩, tab4, r4, b4⟩⟩
      · have en : XC (d + 7 + e) jX6_noteAbove [vR 6 0 0, vI (nI p), vI (nI i)] zM = some (some (vI (nI (cN s p i))), zM) := by
          rw [show d + 7 + e = d + 6 + e + 1 by omega]
          exact X6_noteAbove (d + 6 + e) hs (by rw [T.2.1]; exact A (39 + p) (by omega)) hp6 hi
        try dsimp only
        rw [B_X6_chordsFrom_61, if_neg g5, en, bindI_some, la1, ob_no (by omega) (by omega), cl_no (by omega), hM2]
        try dsimp only
        rw [ex, ob_no (by omega) (by omega), ob_no (by omega) (by omega), cl_no (by omega), cl_no (by omega), m16, tab p i (by omega) hi (by omega), nI_1]
        try dsimp only
        rw [e4, bindV_some, nI_1]
      · have := F4 q (by omega)
        rw [dg_old hq hi] at this
        exact this)
    have e6 : (c + 1) * 5 ^ (e + 1) = (5 * c + 5) * 5 ^ e := by rw [Nat.pow_succ, Nat.mul_comm (5 ^ e) 5, ← Nat.mul_assoc]; congr 1; omega
    refine ⟨N', ?_, by rw [e6]; exact I'⟩
    obtain ⟨⟨z, T, A, F⟩, _⟩ := I
    have ne : ¬ nI p = s 19 := by rw [hs19]; exact nI_ne (by omega) (by omega) (by omega)
    have g5 : (5 : Int32) ≤ nI 5 := by decide
    rw [show d + 7 + (e + 1) = (d + 7 + e) + 1 from rfl, E_X6_chordsFrom, T.2.1, A 19 (by omega), if_neg ne, B_X6_chordsFrom_59]
    refine Eq.trans eN ?_
    try dsimp only
    rw [B_X6_chordsFrom_61, if_pos g5, B_X6_chordsFrom_109]
theorem chords_ref (d : Nat) {B : Nat} (hB : B < 2 ^ 30) {s : St} {P : List Cl} {N : Mem} (hs : Wf B s) (hN : rA N 2 = s) (hR : HdR s P) (h5 : nsS s ≤ 5) {f : Nat} (hf : chS P s (nsS s) (5 ^ nsS s) = some (f, chV P s (nsS s) f)) (x : Int32) : ∃ N', X (d + 19) jX6_chord 25 [some (vR 6 0 0), some (vI x), none, none] [] N = (if x = -1 then some (some (vI (nI (chV P s (nsS s) f))), N') else if s 19 ≤ x then some (some (vI (-5)), N') else if x < 0 ∨ 6 ≤ x.toNatClampNeg then none else some (some (vI (rA N' 17 x.toNatClampNeg)), N')) ∧ RQ N N' ∧ ∀ q, q < nsS s → rA N' 17 q = nI (cN s q (dg (nsS s) f q)) := by
  obtain ⟨hn, h6⟩ := hs.ns
  obtain ⟨N1, g1, K, U1⟩ := TR.keeps (d + 18) hs hN hR
  have inner : ∀ p (zM : Mem), p < nsS s → ((∃ z, TR N1 B s z P zM ∧ agr s z (nsS s)) ∧ tabR P s (nsS s) (5 * p) zM) → ∃ zM', X (d + 19) jX6_chord 44 [some (vR 6 0 0), some (vI x), some (vI (nI p)), some (vI (nI 0))] [] zM = X (d + 19) jX6_chord 31 [some (vR 6 0 0), some (vI x), some (vI (nI (p + 1))), none] [] zM' ∧ (∃ z, TR N1 B s z P zM' ∧ agr s z (nsS s)) ∧ tabR P s (nsS s) (5 * (p + 1)) zM' := fun p zM hp zC => by
    have hp6 : p < 6 := by omega
    obtain ⟨zM', e, I'⟩ := loop_ex (fun i (zM : Mem) => X (d + 19) jX6_chord 44 [some (vR 6 0 0), some (vI x), some (vI (nI p)), some (vI (nI i))] [] zM) (fun i zM => (∃ z, TR N1 B s z P zM ∧ agr s z (nsS s)) ∧ tabR P s (nsS s) (5 * p + i) zM) 5 zM zC (fun i yM hi I => by
      obtain ⟨⟨z, T, A⟩, tab⟩ := I
      have T2 := T.note hp6 (x := nI (cN s p i)) (Or.inr ⟨_, cN_le s p i, rfl⟩)
      have A2 : agr s (upd z (1 + p) (nI (cN s p i))) (nsS s) := fun k hk => (upd_ne (by omega)).trans (A k hk)
      obtain ⟨m3, f3, d3⟩ := X6_forceOf (d + 16) _ hB T2.2.2.2.2 T2.2.1 T2.hd hp6
      have ef : foS P (upd z (1 + p) (nI (cN s p i))) p = cF P s p i := cF_eq P A2 upd_same
      have T3 := T2.sc (d3.mono (fun t k ⟨a, b⟩ => ⟨a, by omega⟩))
      have T4 := T3.A (k := 16) (by omega) (upd (rA m3 16) (5 * p + i) (nI (cF P s p i)))
      have ex : (5 : Int32) * nI p + nI i = nI (5 * p + i) := by rw [show (5 : Int32) = nI 5 from rfl, nI_mul, nI_add]
      have g5 : ¬ (5 : Int32) ≤ nI i := nI_ge (b := 5) hi (by omega)
      have m16 : rA m3 16 = rA yM 16 := (d3.2.2.2 16 (fun w => absurd w.2 (by decide))).trans (rA_ne _ _ (by decide))
      refine ⟨_, ?_, ⟨_, T4, A2⟩, ?_⟩
      · try dsimp only
        rw [B_X6_chord_44, if_neg g5, X6_noteAbove (d + 18) hs (by rw [T.2.1]; exact A (39 + p) (by omega)) hp6 hi, bindI_some, la1, ob_no (by omega) (by omega), cl_no (by omega)]
        try dsimp only
        rw [f3, bindI_some, ex, ob_no (by omega) (by omega), cl_no (by omega), ef]
        try dsimp only
        rw [nI_1]
      · intro q j hq hj hlt
        rw [rA_same]
        by_cases w : 5 * q + j = 5 * p + i
        · have e1 : q = p := by omega
          have e2 : j = i := by omega
          subst e1
          subst e2
          exact upd_same
        · rw [upd_ne w, m16]
          exact tab q j hq hj (by omega))
    refine ⟨zM', ?_, I'⟩
    refine Eq.trans e ?_
    try dsimp only
    have g5 : (5 : Int32) ≤ nI 5 := by decide
    rw [B_X6_chord_44, if_pos g5, B_X6_chord_84, nI_1]
  obtain ⟨M2, e2, ⟨z2, T2, A2⟩, tab2⟩ := loop_ex (fun i (zM : Mem) => X (d + 19) jX6_chord 31 [some (vR 6 0 0), some (vI x), some (vI (nI i)), none] [] zM) (fun i zM => (∃ z, TR N1 B s z P zM ∧ agr s z (nsS s)) ∧ tabR P s (nsS s) (5 * i) zM) (nsS s) N1 ⟨⟨s, U1, fun _ _ => rfl⟩, fun q i _ _ hlt => absurd hlt (by omega)⟩ (fun i zM hi I => by
    obtain ⟨zM', e, I2⟩ := inner i zM hi I
    obtain ⟨⟨z, T, A⟩, tab⟩ := I
    refine ⟨zM', ?_, I2⟩
    try dsimp only
    rw [B_X6_chord_31, T.2.1, A 19 (by omega), hn, ge_no hi (by omega)]
    exact e)
  have I0 : CI N1 B s P (nsS s) 0 0 (0 * 5 ^ nsS s) (rsI M2 14 (-1)) := by
    rw [Nat.zero_mul]
    exact ⟨⟨z2, T2.I (Or.inr rfl) _, A2, fun q hq => absurd hq (by omega)⟩, tab2, rfl, trivial⟩
  obtain ⟨M3, e3, ⟨z3, T3, A3, F3⟩, tab3, r3, b3⟩ := chordsFrom_ref (d + 12 - nsS s) hB hs hR.1 rfl h5 (nsS s) 0 0 _ (by omega) I0
  rw [show d + 12 - nsS s + 7 + nsS s = d + 19 by omega] at e3
  rw [Nat.zero_add, Nat.one_mul, hf] at r3 b3
  obtain ⟨N4, e4, R4, i4, a4⟩ := T3.back2 (d + 18) K hN
  have hA4 := R4.2.trans hN
  refine ⟨N4, ?_, R4, fun q hq => ?_⟩
  · rw [B_X6_chord_25, g1, bindV_some]
    refine Eq.trans e2 ?_
    have e3' : XC (d + 19) jX6_chordsFrom [vR 6 0 0, vI 0] (rsI M2 14 (-1)) = _ := e3
    try dsimp only
    rw [B_X6_chord_31, T2.2.1, A2 19 (by omega), hn, le_self, B_X6_chord_90]
    try dsimp only
    rw [e3', bindV_some, e4, bindV_some]
    by_cases c : x = -1
    · rw [if_pos c, if_pos c, B_X6_chord_138, i4 14, r3]
      rfl
    · rw [if_neg c, if_neg c, B_X6_chord_116, hA4, hn]
      by_cases c2 : nI (nsS s) ≤ x
      · rw [if_pos c2, if_pos c2, B_X6_chord_136, B_X6_chord_138]
      · rw [if_neg c2, if_neg c2]
        by_cases c3 : x < 0 ∨ 6 ≤ x.toNatClampNeg
        · rw [if_pos c3, if_pos c3]
        · rw [if_neg c3, if_neg c3, B_X6_chord_138]
  · rw [a4 17 (by decide)]
    exact b3 q hq
theorem lt5 (x : Int32) : x < 5 ↔ x ≤ 4 := by
  rw [Int32.lt_iff_toInt_lt, Int32.le_iff_toInt_le]
  have h5 : (5 : Int32).toInt = 5 := by decide
  have h4 : (4 : Int32).toInt = 4 := by decide
  omega
theorem q_chord (d : Nat) (x : Int32) {B : Nat} {s : St} {P : List Cl} {M : Mem} (h : QC B s P M) : Ans M s (XC (d + 20) jX5_chord [vR 5 0 0, vI x] M) (fun N => XC (d + 20) jX6_chord [vR 6 0 0, vI x] N) := by
  obtain ⟨hB, hs, hC, hH, hR⟩ := h
  obtain ⟨hn, h6⟩ := hs.ns
  by_cases b : -1 ≤ x ∧ x ≤ 4
  · have hc : XC (d + 20) jX5_chord [vR 5 0 0, vI x] M = X (d + 19) jX5_chord 12 [some (vR 5 0 0), some (vI x), none] [] M := by
      rw [E_X5_chord, if_neg (fun q => absurd (Int32.lt_of_le_of_lt b.1 q) (Int32.lt_irrefl)), if_pos ((lt5 x).mpr b.2)]
    have hr : ∀ N, XC (d + 20) jX6_chord [vR 6 0 0, vI x] N = X (d + 19) jX6_chord 11 [some (vR 6 0 0), some (vI x), none, none] [] N := fun N => by
      rw [E_X6_chord, X6_in, bindI_some, if_pos b, ne_10]
    by_cases h5 : nsS s ≤ 5
    · have l5 : nI (nsS s) ≤ 5 := nI_le (b := 5) h5 (by omega)
      have hp5 := pow5_lt (nsS s) (by omega)
      obtain ⟨f, hf, hf2⟩ := chS_some P s (nsS s) (m := 5 ^ nsS s) (Nat.pow_pos (by decide))
      by_cases c0 : nI (nsS s) ≤ x
      · have nx : ¬ x = -1 := fun q => nI_gm1 (w := nsS s) (by omega) (q ▸ c0)
        refine ⟨vI (-5), M, ?_, Df.rf, fun N hN => ?_⟩
        · rw [hc, B_X5_chord_12, hC.c0, hn, if_pos l5, B_X5_chord_26, hC.c0, hn, if_neg (fun q => absurd (Int32.lt_of_le_of_lt c0 q) (Int32.lt_irrefl))]
        · obtain ⟨N', e, R, _⟩ := chords_ref d (by omega) hs hN hR h5 hf x
          refine ⟨N', ?_, R⟩
          try dsimp only
          rw [hr, B_X6_chord_11, hN, hn, if_pos l5, e, if_neg nx, hn, if_pos c0]
      · have c0' : x < nI (nsS s) := Int32.not_le.mp c0
        obtain ⟨M1, e1, I1⟩ := measureChords_cls (d + 12) (by omega) hs hC hH h5
        obtain ⟨M2, e2, I2⟩ := bestChord_cls (d + 12) (by omega) hs hC hH.2.2 h5 I1 hf
        obtain ⟨M3, e3, ⟨⟨z3, T3, A3⟩, _⟩, C3⟩ := singChord_cls (d + 13) (by omega) hs hC hH.2.2 h5 I2 (c := f) (by omega)
        have cls : XC (d + 20) jX5_chord [vR 5 0 0, vI x] M = if 0 ≤ x then X (d + 19) jX5_chord 61 [some (vR 5 0 0), some (vI x), none] [] M3 else X (d + 19) jX5_chord 70 [none, none, none] [vI (nI (chV P s (nsS s) f))] M3 := by
          rw [hc, B_X5_chord_12, hC.c0, hn, if_pos l5, B_X5_chord_26, hC.c0, hn, if_pos c0', B_X5_chord_40, e1, bindV_some, e2, bindI_some, e3, bindI_some]
        by_cases c1 : 0 ≤ x
        · obtain ⟨k, hk, rfl⟩ := in_num (by omega) rfl ⟨c1, c0'⟩
          refine ⟨vI (nI (cN s k (dg (nsS s) f k))), M3, ?_, T3.1, fun N hN => ?_⟩
          · rw [cls, if_pos c1, B_X5_chord_61, ob_no (by omega) (by omega), cl_no (by omega), B_X5_chord_70, C3.a8 (by omega), chR_at s _ f hk]
          · obtain ⟨N', e, R, g⟩ := chords_ref d (by omega) hs hN hR h5 hf (nI k)
            refine ⟨N', ?_, R⟩
            try dsimp only
            rw [hr, B_X6_chord_11, hN, hn, if_pos l5, e, if_neg (nI_m1 (by omega)), hn, if_neg c0, ob_no (by omega) (by omega), cl_no (by omega), g k hk]
        · have xm : x = -1 := by
            have h1 := Int32.le_iff_toInt_le.mp b.1
            have h2 : ¬ (0 : Int32).toInt ≤ x.toInt := fun q => c1 (Int32.le_iff_toInt_le.mpr q)
            have h3 : (0 : Int32).toInt = 0 := by decide
            have h4 : (-1 : Int32).toInt = -1 := by decide
            apply Int32.toInt_inj.mp
            omega
          refine ⟨vI (nI (chV P s (nsS s) f)), M3, ?_, T3.1, fun N hN => ?_⟩
          · rw [cls, if_neg c1, B_X5_chord_70]
          · obtain ⟨N', e, R, g⟩ := chords_ref d (by omega) hs hN hR h5 hf x
            refine ⟨N', ?_, R⟩
            try dsimp only
            rw [hr, B_X6_chord_11, hN, hn, if_pos l5, e, if_pos xm]
    · have l5 : ¬ nI (nsS s) ≤ 5 := nI_ge (a := 5) (by omega) (by omega)
      refine Ans.pure (vI (-9)) ?_ (fun N hN => ?_)
      · rw [hc, B_X5_chord_12, hC.c0, hn, if_neg l5]
      · rw [hr, B_X6_chord_11, hN, hn, if_neg l5]
  · refine Ans.pure (vI (-1)) ?_ (fun N hN => ?_)
    · rw [E_X5_chord]
      by_cases q : x < -1
      · rw [if_pos q, B_X5_chord_10]
      · rw [if_neg q, if_neg (fun w => b ⟨Int32.not_lt.mp q, (lt5 x).mp w⟩), B_X5_chord_10]
    · rw [E_X6_chord, X6_in, bindI_some, if_neg b, eq_00]
