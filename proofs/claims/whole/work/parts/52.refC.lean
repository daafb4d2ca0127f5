/-! the reference: its memory, the frame kept and brought back -/
theorem rA_same (M : Mem) (k : Nat) (f : Nat → Int32) : rA (rsA M k f) k = f := if_pos rfl
theorem rA_ne (M : Mem) {k k' : Nat} (f : Nat → Int32) (h : ¬ k' = k) : rA (rsA M k f) k' = rA M k' := if_neg h
theorem rsA_rsA (M : Mem) (k : Nat) (f g : Nat → Int32) : rsA (rsA M k f) k g = rsA M k g := by
  unfold rsA
  congr 3
  funext a
  unfold u1
  try dsimp only
  split <;> rfl
theorem rsA_self (M : Mem) (k : Nat) : rsA M k (rA M k) = M := by
  obtain ⟨a, ⟨b, c⟩, e⟩ := M
  unfold rsA rA
  congr 3
  funext j
  unfold u1
  try dsimp only
  split
  · subst_vars; rfl
  · rfl
theorem chain {ρ : Type} (G : Nat → ρ) : ∀ N, (∀ k, k < N → G k = G (k + 1)) → G 0 = G N
  | 0, _ => rfl
  | N + 1, h => (chain G N (fun k hk => h k (by omega))).trans (h N (by omega))
theorem X6_keeps (d : Nat) (M : Mem) : XC (d + 1) jX6_keeps [vR 6 0 0] M = some (none, rsA M 4 (mixF (rA M 2) (rA M 4) 19)) := by
  rw [E_X6_keeps]
  have C := chain (fun k => X d jX6_keeps 2 [some (vR 6 0 0), some (vI (nI k))] [] (rsA M 4 (mixF (rA M 2) (rA M 4) k))) 19 (fun k hk => by
    try dsimp only
    have g : ¬ (19 : Int32) ≤ nI k := nI_ge (a := k) (b := 19) hk (by omega)
    rw [B_X6_keeps_2, if_neg g]
    simp (disch := omega) only [ge_no, ob_no, ob_n2, cl_no, nI_1, le_self, zo_0, zo_1, bindI_some, bindV_some, bindL_some, ite_true, ite_false, if_true, if_false, or_true, true_or, rA_same, rA_ne, rsA_rsA]
    rw [mixF_up rfl])
  have e0 : rsA M 4 (mixF (rA M 2) (rA M 4) 0) = M := by rw [mixF_0, rsA_self]
  try dsimp only at C
  rw [e0] at C
  refine Eq.trans C ?_
  rw [B_X6_keeps_2, if_pos (by decide), B_X6_keeps_26]
theorem X6_goesBack (d : Nat) (M : Mem) : XC (d + 1) jX6_goesBack [vR 6 0 0] M = some (none, rsA M 2 (mixF (rA M 4) (rA M 2) 19)) := by
  rw [E_X6_goesBack]
  have C := chain (fun k => X d jX6_goesBack 2 [some (vR 6 0 0), some (vI (nI k))] [] (rsA M 2 (mixF (rA M 4) (rA M 2) k))) 19 (fun k hk => by
    try dsimp only
    have g : ¬ (19 : Int32) ≤ nI k := nI_ge (a := k) (b := 19) hk (by omega)
    rw [B_X6_goesBack_2, if_neg g]
    simp (disch := omega) only [ge_no, ob_no, ob_n2, cl_no, nI_1, le_self, zo_0, zo_1, bindI_some, bindV_some, bindL_some, ite_true, ite_false, if_true, if_false, or_true, true_or, rA_same, rA_ne, rsA_rsA]
    rw [mixF_up rfl])
  have e0 : rsA M 2 (mixF (rA M 4) (rA M 2) 0) = M := by rw [mixF_0, rsA_self]
  try dsimp only at C
  rw [e0] at C
  refine Eq.trans C ?_
  rw [B_X6_goesBack_2, if_pos (by decide), B_X6_goesBack_26]
