/-! no step writes the script -/
theorem swT_P {p : Prop} (h : p) (pc : Nat) (x : Int32) : ∀ (offs : List Int) (lo d : Int), swT (fun _ => p) pc x lo offs d
  | [], _, _ => h
  | o :: r, lo, d => by
    unfold swT
    split
    · exact h
    · exact swT_P h pc x r (lo + 1) d
theorem swL_P {p : Prop} (h : p) (pc : Nat) (x : Int32) : ∀ (ps : List (Int × Int)) (d : Int), swL (fun _ => p) pc x ps d
  | [], _ => h
  | (a, o) :: r, d => by
    unfold swL
    split
    · exact h
    · exact swL_P h pc x r d
theorem ssA_sc (M : Mem) (c n k : Nat) (f : Nat → Int32) : (ssA M c n k f).2.2 = M.2.2 := by
  unfold ssA
  cases (c == 6) <;> rfl
theorem ssI_sc (M : Mem) (c n k : Nat) (x : Int32) : (ssI M c n k x).2.2 = M.2.2 := by
  unfold ssI
  cases (c == 6) <;> rfl
set_option maxHeartbeats 4000000 in
theorem stepG_sc (pc a b : Nat) (ins : Instr) (ls : LL) (st : List AV) (M : Mem) : stepG True (fun _ _ m => m.2.2 = M.2.2) (fun _ _ _ m => m.2.2 = M.2.2) (fun _ _ _ _ m => m.2.2 = M.2.2) (fun _ m => m.2.2 = M.2.2) pc a b ins ls st M := by
  cases ins <;> simp only [stepG, cond_eq_ite] <;> first | trivial | rfl | (repeat' split) <;> first | trivial | rfl | exact ssA_sc _ _ _ _ _ | exact ssI_sc _ _ _ _ _ | exact swT_P trivial _ _ _ _ _ | exact swL_P trivial _ _ _ _ | exact swT_P rfl _ _ _ _ _ | exact swL_P rfl _ _ _ _
theorem stepR_sc (pc a b : Nat) (ins : Instr) (ls : LL) (st : List AV) (M : Mem) : ctl True (fun _ _ m => m.2.2 = M.2.2) (fun _ _ _ m => m.2.2 = M.2.2) (fun _ _ _ _ m => m.2.2 = M.2.2) (fun _ m => m.2.2 = M.2.2) (stepR pc a b ins ls st M) := by
  rw [← stepG_ctl]
  exact stepG_sc pc a b ins ls st M
def keepSc (M : Mem) (x : Res) : Prop := ∀ r, x = some r → r.2.2.2 = M.2.2
theorem run_sc {ag : AgT} {cl : ClT} (ha : ∀ t ls st M, keepSc M (ag t ls st M)) (hc : ∀ j as M, keepSc M (cl j as M)) : ∀ (l : List CE) (ls : LL) (st : List AV) (M : Mem), keepSc M (run ag cl l ls st M)
  | [], _, _, _ => fun r h => by cases h
  | (pc, n, ins, a, b, e) :: r, ls, st, M => by
    intro x h
    have hs := stepR_sc pc a b ins ls st M
    simp only [run, stepG_ctl] at h
    generalize stepR pc a b ins ls st M = y at h hs
    match y, h, hs with
    | none, h, _ => cases h
    | some (.inl (l, s, m)), h, hs =>
      simp only [ctl] at h hs
      rw [← hs]
      cases hz : (e == 0) <;> rw [hz] at h
      · exact ha _ _ _ _ x h
      · exact run_sc ha hc r l s m x h
    | some (.inr (.inl (t, l, s, m))), h, hs =>
      simp only [ctl] at h hs
      rw [← hs]
      exact ha t l s m x h
    | some (.inr (.inr (.inl (j, as, l, s, m)))), h, hs =>
      simp only [ctl] at h hs
      rw [← hs]
      obtain ⟨o, M1, h1, h2⟩ := bindR_some h
      have e1 : M1.2.2 = m.2.2 := hc j as m _ h1
      rw [← e1]
      cases hz : (e == 0) <;> rw [hz] at h2
      · exact ha _ _ _ _ x h2
      · exact run_sc ha hc r l _ M1 x h2
    | some (.inr (.inr (.inr (v, m)))), h, hs =>
      simp only [ctl] at h hs
      injection h with h
      rw [← h]
      exact hs
theorem exec_sc : ∀ (n d j pc : Nat) (ls : LL) (st : List AV) (M : Mem), keepSc M (exec n d j pc ls st M)
  | 0, _, _, _, _, _, _ => fun r h => absurd h (by simp [exec])
  | n + 1, d, j, pc, ls, st, M => by
    intro r h
    rw [exec] at h
    refine run_sc (fun t ls st M => exec_sc n d j t ls st M) (fun j as M => ?_) _ _ _ _ r h
    match d with
    | 0 => exact fun r h => by cases h
    | d' + 1 =>
      simp only
      cases Nat.ble (argL as).length (mlO j)
      · exact fun r h => by cases h
      · exact exec_sc n d' j 0 _ [] M
theorem X_sc {d j pc : Nat} {ls : LL} {st : List AV} {M : Mem} {r : Option AV × Mem} (h : X d j pc ls st M = some r) : r.2.2.2 = M.2.2 := by
  obtain ⟨n, hn⟩ := X_some.mp h
  exact exec_sc n d j pc ls st M r hn
theorem XC_sc {d j : Nat} {as : List AV} {M : Mem} {v : Option AV} {M' : Mem} (h : XC d j as M = some (v, M')) : M'.2.2 = M.2.2 := by
  match d, h with
  | 0, h => cases h
  | d' + 1, h =>
    simp only [XC] at h
    cases hb : Nat.ble (argL as).length (mlO j)
    · rw [hb] at h; cases h
    · rw [hb] at h
      exact X_sc h
