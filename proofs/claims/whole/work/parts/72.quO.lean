/-! the class's chords -/
def tabC (P : List Cl) (s : St) (n m : Nat) (M : Mem) : Prop := ∀ q i, q < n → i < 5 → 5 * q + i < m → cA M 5 0 9 (5 * q + i) = nI (cF P s q i)
def CC (M0 : Mem) (B : Nat) (s : St) (P : List Cl) (n m : Nat) (M : Mem) : Prop := (∃ z, TC M0 B z P M ∧ agr s z n) ∧ tabC P s n m M
theorem measureChords_cls (d : Nat) {B : Nat} (hB : B < 2 ^ 30) {s : St} {P : List Cl} {M : Mem} (hs : Wf B s) (hC : Ch M 0 s) (hH : Hd M 0 P) (h5 : nsS s ≤ 5) : ∃ M', XC (d + 7) jX5_measureChords [vR 5 0 0] M = some (none, M') ∧ CC M B s P (nsS s) (5 * nsS s) M' := by
  obtain ⟨hn, h6⟩ := hs.ns
  obtain ⟨M1, e1, T1⟩ := TC.become (d + 5) hs hC hH
  have inner : ∀ p (zM : Mem), p < nsS s → CC M B s P (nsS s) (5 * p) zM → ∃ zM', X (d + 6) jX5_measureChords 26 [some (vR 5 0 0), some (vI (nI p)), some (vI (nI 0))] [] zM = X (d + 6) jX5_measureChords 13 [some (vR 5 0 0), some (vI (nI (p + 1))), none] [] zM' ∧ CC M B s P (nsS s) (5 * (p + 1)) zM' := fun p zM hp zC => by
    have hp6 : p < 6 := by omega
    obtain ⟨zM', e, I'⟩ := loop_ex (fun i (zM : Mem) => X (d + 6) jX5_measureChords 26 [some (vR 5 0 0), some (vI (nI p)), some (vI (nI i))] [] zM) (fun i zM => CC M B s P (nsS s) (5 * p + i) zM) 5 zM zC (fun i yM hi I => by
      obtain ⟨⟨z, T, A⟩, tab⟩ := I
      have T2 := T.note hp6 (x := nI (cN s p i)) (Or.inr ⟨_, cN_le s p i, rfl⟩)
      have A2 : agr s (upd z (1 + p) (nI (cN s p i))) (nsS s) := fun k hk => (upd_ne (by omega)).trans (A k hk)
      have hsg : sg (upd z (1 + p) (nI (cN s p i))) p := by
        have := cN_le s p i
        unfold sg
        rw [upd_same]
        exact nI_m1 (by omega)
      obtain ⟨m3, f3, d3⟩ := X1_forceOf (d + 2) 1 _ hB T2.2.2.2 T2.2.1 T2.2.2.1 hp6 hsg
      have ef : foS P (upd z (1 + p) (nI (cN s p i))) p = cF P s p i := cF_eq P A2 upd_same
      have d3S : Df SCR (csA yM 1 1 8 (upd (cA yM 1 1 8) p (nI (cN s p i)))) m3 := d3.mono (fun t c m k ⟨_, b, e, _⟩ => Or.inl ⟨b, e⟩)
      have T3 : TC M B (upd z (1 + p) (nI (cN s p i))) P m3 := ⟨T2.1.tr d3S, T2.2.1.sc (d3.mono (fun t c m k ⟨a, b, e, f⟩ => ⟨a, b, e, Or.inr f⟩) : Df (scr 1) _ m3), T2.2.2.1.sc (d3.mono (fun t c m k ⟨a, b, e, f⟩ => ⟨a, b, e, Or.inr f⟩) : Df (scr 1) _ m3), T2.2.2.2⟩
      have d4 : Df SCR m3 (csA m3 5 0 9 (upd (cA m3 5 0 9) (5 * p + i) (nI (cF P s p i)))) := Df.csA (Or.inr (Or.inr ⟨rfl, rfl, rfl, Or.inl rfl⟩))
      have d4b : Df (fun t c m k => c = 5) m3 (csA m3 5 0 9 (upd (cA m3 5 0 9) (5 * p + i) (nI (cF P s p i)))) := Df.csA rfl
      have T4 : TC M B (upd z (1 + p) (nI (cN s p i))) P (csA m3 5 0 9 (upd (cA m3 5 0 9) (5 * p + i) (nI (cF P s p i)))) := ⟨T3.1.tr d4, T3.2.1.df d4b (fun t k hk q => absurd q (by decide)), T3.2.2.1.df d4b (fun q => absurd q (by decide)) (fun t j k q => absurd q (by decide)), T3.2.2.2⟩
      have ex : nI p * 5 + nI i = nI (5 * p + i) := by rw [show (5 : Int32) = nI 5 from rfl, nI_mul, nI_add, Nat.mul_comm]
      have g5 : ¬ (5 : Int32) ≤ nI i := nI_ge (b := 5) hi (by omega)
      refine ⟨_, ?_, ⟨_, T4, A2⟩, ?_⟩
      · try dsimp only
        rw [B_X5_measureChords_26, if_neg g5, X5_chordNote (d + 5) hs (T.now hC) hp6 hi, bindI_some, ob_no (by omega) (by omega), cl_no (by omega)]
        try dsimp only
        rw [f3, bindI_some, ex, ob_no (by omega) (by omega), cl_no (by omega), ef]
        try dsimp only
        rw [nI_1]
      · intro q j hq hj hlt
        rw [cA_same]
        by_cases e : 5 * q + j = 5 * p + i
        · have e1 : q = p := by omega
          have e2 : j = i := by omega
          subst e1
          subst e2
          exact upd_same
        · rw [upd_ne e, d3.2.1 5 0 9 (fun w => absurd w.2.1 (by decide))]
          exact tab q j hq hj (by omega))
    refine ⟨zM', ?_, I'⟩
    refine Eq.trans e ?_
    try dsimp only
    have g5 : (5 : Int32) ≤ nI 5 := by decide
    rw [B_X5_measureChords_26, if_pos g5, B_X5_measureChords_70, nI_1]
  obtain ⟨M', e, I'⟩ := loop_ex (fun i (zM : Mem) => X (d + 6) jX5_measureChords 13 [some (vR 5 0 0), some (vI (nI i)), none] [] zM) (fun i zM => CC M B s P (nsS s) (5 * i) zM) (nsS s) M1 ⟨⟨s, T1, fun _ _ => rfl⟩, fun q i _ _ hlt => absurd hlt (by omega)⟩ (fun i zM hi I => by
    obtain ⟨zM', e, I2⟩ := inner i zM hi I
    obtain ⟨⟨z, T, A⟩, tab⟩ := I
    refine ⟨zM', ?_, I2⟩
    try dsimp only
    rw [B_X5_measureChords_13, (T.now hC).c0, hn, ge_no hi (by omega)]
    exact e)
  refine ⟨M', ?_, I'⟩
  rw [E_X5_measureChords, e1, bindV_some]
  refine Eq.trans e ?_
  obtain ⟨⟨z, T, A⟩, tab⟩ := I'
  try dsimp only
  rw [B_X5_measureChords_13, (T.now hC).c0, hn, le_self, B_X5_measureChords_76]
