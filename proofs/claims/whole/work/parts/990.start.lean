/-! the memory at the start -/
def cI0 : Nat → Nat → Nat → Int32 := fun c _ k => if c = 3 ∧ k = 2 then 3 else if c = 3 ∧ k = 3 then 1 else 0
def cR0 : Nat → Nat → Nat → Nat := fun c _ _ => if c = 2 then 99 else 0
def rA0 : Nat → Nat → Int32 := fun k => if k = 2 then va_up (fun _ => 0) 26 (-1) else fun _ => 0
def mem0 (x : Nat → Int32) (L : Nat) : Mem := ((cI0, (fun _ _ _ _ => 0), cR0), ((fun _ => 0), rA0), (x, L))
theorem rg_0 {s : St} {lo n K : Nat} (h : ∀ i, i < n → s (lo + i) = 0) : Rg s lo n K := fun i hi => ⟨0, Nat.zero_le _, h i hi⟩
theorem inv_0 (x : Nat → Int32) (L : Nat) : Inv 0 (mem0 x L) := by
  have a2 : ∀ k, ¬ k = 26 → rA (mem0 x L) 2 k = 0 := fun k hk => va_up_ne (fun _ => 0) (-1) hk
  have a26 : rA (mem0 x L) 2 26 = -1 := rfl
  have s0 : seS (rA (mem0 x L) 2) = 0 := by unfold seS; rw [a2 21 (by decide)]; rfl
  have c0 : ∀ n k, cI (mem0 x L) 1 n k = 0 := fun n k => rfl
  have d0 : ∀ n k, cI (mem0 x L) 4 n k = 0 := fun n k => rfl
  have e0 : ∀ c n k i, cA (mem0 x L) c n k i = 0 := fun _ _ _ _ => rfl
  have rep : ∀ j, RepC (mem0 x L) j [] := fun j => ⟨rfl, rfl, rfl, fun c hc => absurd hc (Nat.not_lt_zero c)⟩
  have z26 : ∀ {p}, ¬ p = 26 → (0 : Int32) = rA (mem0 x L) 2 p := fun h => (a2 _ h).symm
  refine ⟨by decide, fun k hk => ?_, ⟨0, by decide, rfl, rfl, fun i hi => rfl⟩, fun _ => [], ⟨?_, ?_, ?_, ?_, ?_, ?_, ?_⟩, ⟨rep 0, fun i hi => ?_⟩, Or.inl ⟨rfl, rfl⟩⟩
  · rw [a2 k (by omega)]
    rfl
  · exact ⟨rg_0 (fun i hi => a2 _ (by omega)), rg_0 (fun i hi => a2 _ (by omega)), rg_0 (fun i hi => a2 _ (by omega)), rg_0 (fun i hi => a2 _ (by omega)), rg_0 (fun i hi => a2 _ (by omega)), fun i hi => Or.inr ⟨0, by decide, a2 _ (by omega)⟩, rg_0 (fun i hi => a2 _ (by omega)), rg_0 (fun i hi => a2 _ (by omega)), rg_0 (fun i hi => a2 _ (by omega)), rg_0 (fun i hi => a2 _ (by omega)), rg_0 (fun i hi => a2 _ (by omega))⟩
  · have p0 : plS (rA (mem0 x L) 2) = 0 := by unfold plS; rw [a2 23 (by decide)]; rfl
    have b0 : bkS (rA (mem0 x L) 2) = 0 := by unfold bkS; rw [a2 24 (by decide)]; rfl
    refine ⟨rg_0 (fun i hi => a2 _ (by omega)), rg_0 (fun i hi => a2 _ (by omega)), rg_0 (fun i hi => a2 _ (by omega)), rg_0 (fun i hi => a2 _ (by omega)), rg_0 (fun i hi => a2 _ (by omega)), fun i hi => ⟨0, a2 _ (by omega), by decide, fun h => absurd (p0 ▸ h) (Nat.not_lt_zero i)⟩, fun i hi => ⟨0, a2 _ (by omega), by decide, fun h => absurd (b0 ▸ h) (Nat.not_lt_zero i)⟩⟩
  · refine ⟨fun p _ hp => ⟨a2 _ (by omega), fun k hk => a2 _ (by omega)⟩, fun q _ hq => ⟨a2 _ (by omega), a2 _ (by omega)⟩⟩
  · refine ⟨z26 (by decide), z26 (by decide), z26 (by decide), ?_, ?_, ?_, ?_, ?_, ?_, ?_, ?_, ?_⟩
    all_goals
      intro i hi
      exact z26 (by omega)
  · refine ⟨⟨z26 (by decide), z26 (by decide), z26 (by decide), z26 (by decide), z26 (by decide)⟩, ?_, ?_, ?_, ?_, ?_, ?_, ?_⟩
    all_goals
      intro i hi
      exact z26 (by omega)
  · exact Or.inl ⟨rfl, a26⟩
  · intro i hi
    rw [s0] at hi
    exact absurd hi (Nat.not_lt_zero i)
  · rw [s0] at hi
    exact absurd hi (Nat.not_lt_zero i)
theorem law_pure (d : Nat) (x : Nat → Int32) {L : Nat} (hL : L ≤ 2048) : ∃ M', X (d + 40) jL_law 18 [some (vR 24 0 0), some (vR 5 0 0), some (vR 6 0 0), some (vI 0)] [] (mem0 x L) = some (some (vI 1), M') := law_loop d hL 2048 0 0 (mem0 x L) (by omega) (Nat.zero_le _) (by decide) (inv_0 x L) rfl
