/-! props: the heaviest first is best -/
def rkP (s : St) (m q : Nat) : Bool := hB s q && decide (ah s (ntS s) q < m)
def outP (s : St) (S q : Nat) : Bool := hB s q && !S.testBit q
def Rw_ (s : St) (c : Nat) : Nat := smw (rkP s (hct s (ntS s) - c)) (wtS s) (ntS s)
def Ws (s : St) (S : Nat) : Nat := smw (outP s S) (wtS s) (ntS s)
theorem rkP_i {s : St} {m q : Nat} : rkP s m q = true ↔ hg s q ∧ ah s (ntS s) q < m := by
  unfold rkP
  rw [Bool.and_eq_true, hB_i, decide_eq_true_iff]
theorem outP_i {s : St} {S q : Nat} : outP s S q = true ↔ hg s q ∧ ¬ bt S q := by
  unfold outP bt
  rw [Bool.and_eq_true, hB_i]
  cases S.testBit q <;> simp
theorem cnt_mn (p : Nat → Bool) {n : Nat} : ∀ m, n ≤ m → cnt p n ≤ cnt p m
  | 0, h => by
    have : n = 0 := by omega
    subst this
    exact Nat.le_refl _
  | m + 1, h => by
    by_cases e : n = m + 1
    · subst e; exact Nat.le_refl _
    · have := cnt_mn p (n := n) m (by omega)
      show cnt p n ≤ cnt p m + _
      omega
theorem cnt_split (a b : Nat → Bool) : ∀ n, cnt a n = cnt (fun r => a r && b r) n + cnt (fun r => a r && !b r) n
  | 0 => rfl
  | n + 1 => by
    have ih := cnt_split a b n
    unfold cnt
    rw [ih]
    cases a n <;> cases b n <;> simp <;> omega
theorem pop_cnt (a : Nat) : pop a = cnt (fun k => a.testBit k) 6 := by
  have key : ∀ n, itr (fun k z => if bt a k then z + 1 else z) n 0 = cnt (fun k => a.testBit k) n := by
    intro n
    induction n with
    | zero => rfl
    | succ n ih =>
      show (if bt a n then itr (fun k z => if bt a k then z + 1 else z) n 0 + 1 else itr (fun k z => if bt a k then z + 1 else z) n 0) = cnt (fun k => a.testBit k) n + (if a.testBit n = true then 1 else 0)
      rw [ih]
      by_cases c : a.testBit n = true
      · rw [if_pos c, if_pos c]
      · rw [if_neg c, if_neg c]; rfl
  exact key 6
theorem cnt_rk (s : St) : ∀ m, m ≤ hct s (ntS s) → cnt (rkP s m) (ntS s) = m
  | 0, _ => by
    have : cnt (rkP s 0) (ntS s) ≤ cnt (fun _ => false) (ntS s) := cnt_mono _ (fun r _ hr => by have := (rkP_i.mp hr).2; omega)
    have z : ∀ n, cnt (fun _ => false) n = 0 := fun n => by
      induction n with
      | zero => rfl
      | succ n ih => show cnt (fun _ => false) n + _ = 0; rw [ih]; rfl
    rw [z] at this
    omega
  | m + 1, h => by
    obtain ⟨q, q1, q2, q3⟩ := ex_rk s (ntS s) m (by omega)
    have ih := cnt_rk s m (by omega)
    have := cnt_ins (p := rkP s m) (q := rkP s (m + 1)) (r0 := q) (fun h => by have := (rkP_i.mp h).2; omega) (rkP_i.mpr ⟨q2, by omega⟩) (ntS s) (fun r hr hne => by
      unfold rkP
      by_cases c : hg s r
      · have ne : ¬ ah s (ntS s) r = m := fun e => hne (ah_inj hr q1 c q2 (e.trans q3.symm))
        congr 1
        exact decide_eq_decide.mpr (by omega)
      · have : hB s r = false := Bool.eq_false_iff.mpr (fun h => c (hB_i.mp h))
        rw [this, Bool.false_and, Bool.false_and])
    rw [this, ih, if_pos q1]
theorem R_up (s : St) {c : Nat} (hc : c < hct s (ntS s)) : Rw_ s c = Rw_ s (c + 1) + wtS s (rkS s (hct s (ntS s) - 1 - c)) := by
  obtain ⟨q1, q2, q3⟩ := rk_ok (s := s) (j := hct s (ntS s) - 1 - c) (by omega)
  have := smw_ins (w := wtS s) (p := rkP s (hct s (ntS s) - (c + 1))) (q := rkP s (hct s (ntS s) - c)) (r0 := rkS s (hct s (ntS s) - 1 - c)) (fun h => by have := (rkP_i.mp h).2; omega) (rkP_i.mpr ⟨q2, by omega⟩) (ntS s) (fun r hr hne => by
    unfold rkP
    by_cases c2 : hg s r
    · have ne : ¬ ah s (ntS s) r = hct s (ntS s) - 1 - c := fun e => hne (ah_inj hr q1 c2 q2 (e.trans q3.symm))
      congr 1
      exact decide_eq_decide.mpr (by omega)
    · have : hB s r = false := Bool.eq_false_iff.mpr (fun h => c2 (hB_i.mp h))
      rw [this, Bool.false_and, Bool.false_and])
  unfold Rw_
  rw [this, if_pos q1]
theorem R_0 (s : St) : Rw_ s 0 = haS s := by
  have e1 : Rw_ s 0 = smw (hB s) (wtS s) (ntS s) := smw_cg _ (fun r hr => by
    unfold rkP
    by_cases c : hg s r
    · have h1 := ah_h hr c
      rw [decide_eq_true (show ah s (ntS s) r < hct s (ntS s) - 0 by omega), Bool.and_true]
    · have : hB s r = false := Bool.eq_false_iff.mpr (fun h => c (hB_i.mp h))
      rw [this, Bool.false_and])
  rw [e1]
  unfold haS
  generalize ntS s = n
  induction n with
  | zero => rfl
  | succ n ih =>
    show smw (hB s) (wtS s) n + (if hB s n = true then wtS s n else 0) = (if hg s n then itr (fun q z => if hg s q then z + wtS s q else z) n 0 + wtS s n else itr (fun q z => if hg s q then z + wtS s q else z) n 0)
    rw [ih]
    by_cases c : hg s n
    · rw [if_pos c, if_pos (hB_i.mpr c)]
    · rw [if_neg c, if_neg (fun h => c (hB_i.mp h))]; rfl
theorem R_h (s : St) : Rw_ s (hct s (ntS s)) = 0 := by
  have e1 : Rw_ s (hct s (ntS s)) = smw (fun _ => false) (wtS s) (ntS s) := smw_cg _ (fun r hr => by
    unfold rkP
    rw [decide_eq_false (show ¬ ah s (ntS s) r < hct s (ntS s) - hct s (ntS s) by omega), Bool.and_false])
  rw [e1]
  generalize ntS s = n
  induction n with
  | zero => rfl
  | succ n ih => show smw (fun _ => false) (wtS s) n + _ = 0; rw [ih]; rfl
/-- no set of so few leaves less -/
theorem W_ge {B : Nat} {s : St} (hs : Wf B s) {S : Nat} (hc : pop S ≤ hct s (ntS s)) : Rw_ s (pop S) ≤ Ws s S := by
  have h6 := hs.nt.2
  have hcn : cnt (rkP s (hct s (ntS s) - pop S)) (ntS s) ≤ cnt (outP s S) (ntS s) := by
    rw [cnt_rk s _ (by omega)]
    have h1 := cnt_split (hB s) (fun k => S.testBit k) (ntS s)
    have h2 : cnt (fun r => hB s r && S.testBit r) (ntS s) ≤ cnt (fun k => S.testBit k) (ntS s) := cnt_mono _ (fun r _ hr => (Bool.and_eq_true _ _ ▸ hr : _ ∧ _).2)
    have h3 := cnt_mn (fun k => S.testBit k) (n := ntS s) 6 h6
    rw [← pop_cnt] at h3
    have h4 : cnt (hB s) (ntS s) = hct s (ntS s) := rfl
    have h5 : cnt (fun r => hB s r && !S.testBit r) (ntS s) = cnt (outP s S) (ntS s) := rfl
    omega
  by_cases c0 : pop S = 0
  · refine smw_le 60 _ (fun r hr ht => Or.inr (hs.wt (by omega)).2) (fun r hr hu => Or.inl (rkP_i.mpr ⟨(outP_i.mp hu).1, ?_⟩)) hcn
    have := ah_h hr (outP_i.mp hu).1
    omega
  · obtain ⟨q1, q2, q3⟩ := rk_ok (s := s) (j := hct s (ntS s) - pop S) (by omega)
    refine smw_le (wtS s (rkS s (hct s (ntS s) - pop S))) _ (fun r hr ht => Or.inr ?_) (fun r hr hu => ?_) hcn
    · have h2 := rkP_i.mp ht
      rcases Nat.lt_or_ge (wtS s (rkS s (hct s (ntS s) - pop S))) (wtS s r) with h | h
      · have := ah_mono (s := s) (n := ntS s) q1 (bfB_i.mpr ⟨q2, Or.inl h⟩)
        omega
      · exact h
    · have h2 := outP_i.mp hu
      rcases Nat.lt_or_ge (ah s (ntS s) r) (hct s (ntS s) - pop S) with h | h
      · exact Or.inl (rkP_i.mpr ⟨h2.1, h⟩)
      · refine Or.inr ?_
        rcases Nat.lt_or_ge (wtS s r) (wtS s (rkS s (hct s (ntS s) - pop S))) with g | g
        · have := ah_mono (s := s) (n := ntS s) hr (bfB_i.mpr ⟨h2.1, Or.inl g⟩)
          omega
        · exact g
def mkS (p : Nat → Bool) (n : Nat) : Nat := itr (fun q z => if p q = true then z ||| 2 ^ q else z) n 0
theorem mk_bt (p : Nat → Bool) (q : Nat) : ∀ n, bt (mkS p n) q ↔ q < n ∧ p q = true
  | 0 => ⟨fun h => absurd h bt_0, fun h => absurd h.1 (Nat.not_lt_zero _)⟩
  | n + 1 => by
    have ih := mk_bt p q n
    show bt (if p n = true then mkS p n ||| 2 ^ n else mkS p n) q ↔ _
    by_cases c : p n = true
    · rw [if_pos c, bt_or, ih]
      constructor
      · rintro (⟨a, b⟩ | rfl)
        · exact ⟨by omega, b⟩
        · exact ⟨by omega, c⟩
      · rintro ⟨a, b⟩
        by_cases e : q = n
        · exact Or.inr e
        · exact Or.inl ⟨by omega, b⟩
    · rw [if_neg c, ih]
      constructor
      · rintro ⟨a, b⟩; exact ⟨by omega, b⟩
      · rintro ⟨a, b⟩
        refine ⟨?_, b⟩
        by_cases e : q = n
        · subst e; exact absurd b c
        · omega
theorem mk_lt (p : Nat → Bool) : ∀ n, n ≤ 6 → mkS p n < 64
  | 0, _ => (by decide : (0 : Nat) < 64)
  | n + 1, h => by
    have ih := mk_lt p n (by omega)
    show (if p n = true then mkS p n ||| 2 ^ n else mkS p n) < 64
    split
    · exact or_lt ih (by omega)
    · exact ih
/-- the heaviest c as a set -/
theorem R_set {B : Nat} {s : St} (hs : Wf B s) {c : Nat} (hc : c ≤ hct s (ntS s)) : ∃ S, S < 64 ∧ Ws s S = Rw_ s c ∧ pop S = c := by
  have h6 := hs.nt.2
  refine ⟨mkS (fun q => hB s q && !rkP s (hct s (ntS s) - c) q) (ntS s), mk_lt _ _ h6, ?_, ?_⟩
  · refine smw_cg _ (fun r hr => ?_)
    rw [Bool.eq_iff_iff, outP_i, rkP_i, mk_bt]
    constructor
    · rintro ⟨a, b⟩
      refine ⟨a, ?_⟩
      rcases Nat.lt_or_ge (ah s (ntS s) r) (hct s (ntS s) - c) with h | h
      · exact h
      · refine absurd ⟨hr, ?_⟩ b
        have e : rkP s (hct s (ntS s) - c) r = false := Bool.eq_false_iff.mpr (fun w => by have := (rkP_i.mp w).2; omega)
        rw [hB_i.mpr a, e]; rfl
    · rintro ⟨a, b⟩
      refine ⟨a, fun w => ?_⟩
      have e : rkP s (hct s (ntS s) - c) r = true := rkP_i.mpr ⟨a, b⟩
      have w2 := w.2
      rw [e] at w2
      simp at w2
  · rw [pop_cnt]
    have e1 : cnt (fun k => (mkS (fun q => hB s q && !rkP s (hct s (ntS s) - c) q) (ntS s)).testBit k) 6 = cnt (fun q => hB s q && !rkP s (hct s (ntS s) - c) q) (ntS s) := by
      have lo : cnt (fun k => (mkS (fun q => hB s q && !rkP s (hct s (ntS s) - c) q) (ntS s)).testBit k) (ntS s) = cnt (fun q => hB s q && !rkP s (hct s (ntS s) - c) q) (ntS s) := cnt_cg _ (fun r hr => by
        rw [Bool.eq_iff_iff]
        exact (mk_bt _ r _).trans ⟨fun h => h.2, fun h => ⟨hr, h⟩⟩)
      rw [← lo]
      have up : ∀ m, ntS s ≤ m → cnt (fun k => (mkS (fun q => hB s q && !rkP s (hct s (ntS s) - c) q) (ntS s)).testBit k) m = cnt (fun k => (mkS (fun q => hB s q && !rkP s (hct s (ntS s) - c) q) (ntS s)).testBit k) (ntS s) := by
        intro m hm
        induction m with
        | zero => rw [show ntS s = 0 by omega]
        | succ m ih =>
          by_cases e : ntS s = m + 1
          · rw [e]
          · rw [← ih (by omega)]
            show cnt _ m + (if _ then 1 else 0) = _
            rw [if_neg (fun h => by have := ((mk_bt _ m _).mp h).1; omega), Nat.add_zero]
      exact up 6 h6
    rw [e1]
    have h1 := cnt_split (hB s) (rkP s (hct s (ntS s) - c)) (ntS s)
    have h2 : cnt (fun r => hB s r && rkP s (hct s (ntS s) - c) r) (ntS s) = cnt (rkP s (hct s (ntS s) - c)) (ntS s) := cnt_cg _ (fun r hr => by
      unfold rkP
      cases hB s r <;> simp)
    rw [h2, cnt_rk s _ (by omega)] at h1
    have h4 : cnt (hB s) (ntS s) = hct s (ntS s) := rfl
    omega
