theorem singChord_cls (d : Nat) {B : Nat} (hB : B < 2 ^ 30) {s : St} {P : List Cl} {M0 M : Mem} (hs : Wf B s) (hC : Ch M0 0 s) (hP : WfP P) (h5 : nsS s ≤ 5) (I : CC M0 B s P (nsS s) (5 * nsS s) M) {c : Nat} (hc : c < 4000) : ∃ M', XC (d + 6) jX5_singChord [vR 5 0 0, vI (nI c)] M = some (some (vI (nI (chV P s (nsS s) c))), M') ∧ CC M0 B s P (nsS s) (5 * nsS s) M' ∧ Ch M' 1 (chR s (nsS s) c) := by
  obtain ⟨hn, h6⟩ := hs.ns
  generalize hnn : nsS s = n at *
  have pw : ∀ k, c / 5 ^ k < 4000 := fun k => Nat.lt_of_le_of_lt (Nat.div_le_self _ _) hc
  have key : ∀ k, k ≤ n → ∃ M', XC (d + 6) jX5_singChord [vR 5 0 0, vI (nI c)] M = X (d + 5) jX5_singChord 12 [some (vR 5 0 0), none, some (vI (nI (c / 5 ^ k))), some (vI (nI (n - k) - 1)), none] [] M' ∧ (∃ z, TC M0 B z P M' ∧ agr s z n ∧ (∀ q, n - k ≤ q → q < n → z (1 + q) = nI (cN s q (dg n c q)) ∧ cA M' 1 1 14 q = nI (cF P s q (dg n c q)))) ∧ tabC P s n (5 * n) M' := by
    intro k
    induction k with
    | zero =>
      intro _
      obtain ⟨⟨z, T, A⟩, tab⟩ := I
      refine ⟨M, ?_, ⟨z, T, A, fun q h1 h2 => absurd h2 (by omega)⟩, tab⟩
      rw [E_X5_singChord, (T.now hC).c0, hn, Nat.pow_zero, Nat.div_one, Nat.sub_zero]
    | succ k ih =>
      intro hk
      obtain ⟨M1, e1, ⟨z, T, A, F⟩, tab⟩ := ih (by omega)
      generalize hi : n - (k + 1) = i
      have ei : n - k = i + 1 := by omega
      have e3 : nI (i + 1) - 1 = nI i := nI_sub (a := i + 1) (b := 1) (by omega)
      have hi6 : i < 6 := by omega
      have hin : i < n := by omega
      have hpk := pw k
      have ed : c / 5 ^ k % 5 = dg n c i := by
        unfold dg
        rw [show n - 1 - i = k by omega]
      have hdl := dg_lt n c i
      have e9 : nI i + (-1) = nI i - 1 := by rw [Int32.sub_eq_add_neg]
      have a5 : (5 : Int32) = nI 5 := rfl
      have em : nI (c / 5 ^ k) - nI (c / 5 ^ k) / 5 * 5 = nI (dg n c i) := by rw [a5, rem_n (by omega) (by omega) (by omega), ed]
      have eq5 : nI (c / 5 ^ k) / 5 = nI (c / 5 ^ (k + 1)) := by rw [a5, nI_div (by omega) (by omega) (by omega), Nat.div_div_eq_div_mul, Nat.pow_succ]
      have ex : nI i * 5 + nI (dg n c i) = nI (5 * i + dg n c i) := by rw [a5, nI_mul, nI_add, Nat.mul_comm]
      have T2 := T.note hi6 (x := nI (cN s i (dg n c i))) (Or.inr ⟨_, cN_le s i _, rfl⟩)
      have A2 : agr s (upd z (1 + i) (nI (cN s i (dg n c i)))) n := fun k hk => (upd_ne (by omega)).trans (A k hk)
      have tb := tab i (dg n c i) hin hdl (by omega)
      generalize hM2 : csA M1 1 1 8 (upd (cA M1 1 1 8) i (nI (cN s i (dg n c i)))) = M2 at T2
      have c9 : cA M2 5 0 9 = cA M1 5 0 9 := by rw [← hM2]; rfl
      have c14 : cA M2 1 1 14 = cA M1 1 1 14 := by rw [← hM2]; exact cA_ne _ _ (by decide)
      have d3 : Df (scr 1) M2 (csA M2 1 1 14 (upd (cA M2 1 1 14) i (nI (cF P s i (dg n c i))))) := Df.csA ⟨rfl, rfl, rfl, Or.inl rfl⟩
      have T3 : TC M0 B (upd z (1 + i) (nI (cN s i (dg n c i)))) P (csA M2 1 1 14 (upd (cA M2 1 1 14) i (nI (cF P s i (dg n c i))))) := ⟨T2.1.tr (d3.mono scr1_SCR), T2.2.1.sc d3, T2.2.2.1.sc d3, T2.2.2.2⟩
      refine ⟨_, ?_, ⟨_, T3, A2, fun q h1 h2 => ?_⟩, ?_⟩
      · rw [e1, ei, e3, B_X5_singChord_12, if_neg (nI_pos (by omega)), em, X5_chordNote (d + 4) hs (T.now hC) hi6 hdl, bindI_some, ob_no (by omega) (by omega), cl_no (by omega), hM2]
        try dsimp only
        rw [ex, ob_no (by omega) (by omega), cl_no (by omega), ob_n2 hi6 (by omega), c9, tb, eq5, e9]
      · rw [cA_same]
        by_cases e : q = i
        · subst e
          exact ⟨upd_same, upd_same⟩
        · rw [upd_ne (by omega), upd_ne e, c14]
          exact F q (by omega) h2
      · intro q j hq hj hlt
        have : cA (csA M2 1 1 14 (upd (cA M2 1 1 14) i (nI (cF P s i (dg n c i))))) 5 0 9 = cA M2 5 0 9 := by rw [cA_csA, if_neg (by decide)]
        rw [this, c9]
        exact tab q j hq hj hlt
  obtain ⟨M', e, ⟨z, T, A, F⟩, tab⟩ := key n (Nat.le_refl _)
  have hz : z = chR s n c := chR_eq h6 A (fun q hq => (F q (by omega) hq).1)
  subst hz
  have ens : nsS (chR s n c) = n := by
    show (chR s n c 19).toNatClampNeg = n
    rw [A 19 (by omega)]
    exact hnn
  refine ⟨M', ?_, ⟨⟨_, T, A⟩, tab⟩, T.2.1⟩
  have hF : Fo M' 1 (chR s n c) (chF P s n c) := fun i hi => by
    rw [ens] at hi
    exact ⟨(F i (by omega) hi).2, cF_le hB hs hP (by omega) _⟩
  have hset : ∀ n, n < 6 → ((1 : Int32) <<< (nI n &&& 31)) - 1 = nI (2 ^ n - 1) := by decide +kernel
  have hb9 : ∀ n, n < 6 → ∀ q, q < 6 → (2 ^ n - 1).testBit q = decide (q < n) := by decide +kernel
  have hbq : ∀ q, q < 6 → (bt (2 ^ n - 1) q ↔ q < n) := fun q hq => by
    unfold bt
    rw [hb9 n (by omega) q hq]
    simp
  have h64 : ∀ n, n < 6 → 2 ^ n - 1 < 64 := by decide
  have hsub : Sub (chR s n c) (2 ^ n - 1) := ⟨h64 n (by omega), fun q hq hb => by
    have := (hbq q hq).mp hb
    have l := cN_le s q (dg n c q)
    unfold sg
    rw [chR_at s n c this]
    exact nI_m1 (by omega)⟩
  have eal : alS (chR s n c) (chF P s n c) (2 ^ n - 1) = chV P s n c := alS_cg (fun q hq _ => by
    rw [ens] at hq
    exact ⟨fun _ => bt_63 (by omega), fun _ => (hbq q (by omega)).mpr hq⟩) (fun _ _ => rfl)
  rw [Nat.sub_self] at e
  rw [e, B_X5_singChord_12, if_pos (by decide), B_X5_singChord_67, (T.now hC).c0, hn, hset n (by omega), X1_allOf (d + 1) 1 M' T.2.2.2 T.2.1 hF hsub, bindI_some, eal]
