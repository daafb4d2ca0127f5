/-! counting: ranks of the stones that hang -/
def cnt (p : Nat → Bool) : Nat → Nat
  | 0 => 0
  | n + 1 => cnt p n + (if p n = true then 1 else 0)
def smw (p : Nat → Bool) (w : Nat → Nat) : Nat → Nat
  | 0 => 0
  | n + 1 => smw p w n + (if p n = true then w n else 0)
theorem cnt_le (p : Nat → Bool) : ∀ n, cnt p n ≤ n
  | 0 => Nat.le_refl _
  | n + 1 => by
    have := cnt_le p n
    unfold cnt
    split <;> omega
theorem cnt_mono {p q : Nat → Bool} : ∀ n, (∀ r, r < n → p r = true → q r = true) → cnt p n ≤ cnt q n
  | 0, _ => Nat.le_refl _
  | n + 1, h => by
    have ih := cnt_mono (p := p) (q := q) n (fun r hr => h r (by omega))
    unfold cnt
    by_cases c : p n = true
    · rw [if_pos c, if_pos (h n (by omega) c)]; omega
    · rw [if_neg c]
      split <;> omega
theorem cnt_lt {p q : Nat → Bool} {r0 : Nat} (hp : ¬ p r0 = true) (hq : q r0 = true) : ∀ n, r0 < n → (∀ r, r < n → p r = true → q r = true) → cnt p n < cnt q n
  | 0, h0, _ => absurd h0 (by omega)
  | n + 1, h0, h => by
    unfold cnt
    by_cases e : r0 = n
    · subst e
      have := cnt_mono (p := p) (q := q) r0 (fun r hr => h r (by omega))
      rw [if_neg hp, if_pos hq]; omega
    · have ih := cnt_lt hp hq n (by omega) (fun r hr => h r (by omega))
      by_cases c : p n = true
      · rw [if_pos c, if_pos (h n (by omega) c)]; omega
      · rw [if_neg c]
        split <;> omega
theorem cnt_cg {p q : Nat → Bool} : ∀ n, (∀ r, r < n → p r = q r) → cnt p n = cnt q n
  | 0, _ => rfl
  | n + 1, h => by
    unfold cnt
    rw [cnt_cg n (fun r hr => h r (by omega)), h n (by omega)]
theorem smw_cg {p q : Nat → Bool} {w : Nat → Nat} : ∀ n, (∀ r, r < n → p r = q r) → smw p w n = smw q w n
  | 0, _ => rfl
  | n + 1, h => by
    unfold smw
    rw [smw_cg n (fun r hr => h r (by omega)), h n (by omega)]
theorem cnt_ins {p q : Nat → Bool} {r0 : Nat} (hp : ¬ p r0 = true) (hq : q r0 = true) : ∀ n, (∀ r, r < n → ¬ r = r0 → p r = q r) → cnt q n = cnt p n + (if r0 < n then 1 else 0)
  | 0, _ => rfl
  | n + 1, h => by
    have ih := cnt_ins hp hq n (fun r hr => h r (by omega))
    unfold cnt
    by_cases e : n = r0
    · subst e
      rw [ih, if_pos hq, if_neg hp, if_neg (Nat.lt_irrefl n), if_pos (Nat.lt_succ_self n)]
    · rw [ih, h n (by omega) e]
      by_cases c : r0 < n
      · rw [if_pos c, if_pos (show r0 < n + 1 by omega)]; omega
      · rw [if_neg c, if_neg (show ¬ r0 < n + 1 by omega)]; omega
theorem smw_ins {p q : Nat → Bool} {w : Nat → Nat} {r0 : Nat} (hp : ¬ p r0 = true) (hq : q r0 = true) : ∀ n, (∀ r, r < n → ¬ r = r0 → p r = q r) → smw q w n = smw p w n + (if r0 < n then w r0 else 0)
  | 0, _ => rfl
  | n + 1, h => by
    have ih := smw_ins (w := w) hp hq n (fun r hr => h r (by omega))
    unfold smw
    by_cases e : n = r0
    · subst e
      rw [ih, if_pos hq, if_neg hp, if_neg (Nat.lt_irrefl n), if_pos (Nat.lt_succ_self n)]
    · rw [ih, h n (by omega) e]
      by_cases c : r0 < n
      · rw [if_pos c, if_pos (show r0 < n + 1 by omega)]; omega
      · rw [if_neg c, if_neg (show ¬ r0 < n + 1 by omega)]; omega
/-- a set of no less stones, none of it lighter than a threshold -/
theorem smw_thr {u t : Nat → Bool} {w : Nat → Nat} (th : Nat) : ∀ n, (∀ r, r < n → t r = true → u r = true ∨ w r ≤ th) → (∀ r, r < n → u r = true → t r = true ∨ th ≤ w r) → smw t w n + th * cnt u n ≤ smw u w n + th * cnt t n
  | 0, _, _ => Nat.le_refl _
  | n + 1, h1, h2 => by
    have ih := smw_thr (u := u) (t := t) (w := w) th n (fun r hr => h1 r (by omega)) (fun r hr => h2 r (by omega))
    have a1 := h1 n (by omega)
    have a2 := h2 n (by omega)
    unfold smw cnt
    rw [Nat.mul_add, Nat.mul_add]
    by_cases c1 : u n = true
    · by_cases c2 : t n = true
      · rw [if_pos c1, if_pos c1, if_pos c2, if_pos c2]; omega
      · have := (a2 c1).resolve_left c2
        rw [if_pos c1, if_pos c1, if_neg c2, if_neg c2]; omega
    · by_cases c2 : t n = true
      · have := (a1 c2).resolve_left c1
        rw [if_neg c1, if_neg c1, if_pos c2, if_pos c2]; omega
      · rw [if_neg c1, if_neg c1, if_neg c2, if_neg c2]; omega
theorem smw_le {u t : Nat → Bool} {w : Nat → Nat} (th n : Nat) (h1 : ∀ r, r < n → t r = true → u r = true ∨ w r ≤ th) (h2 : ∀ r, r < n → u r = true → t r = true ∨ th ≤ w r) (hc : cnt t n ≤ cnt u n) : smw t w n ≤ smw u w n := by
  have h := smw_thr th n h1 h2
  have := Nat.mul_le_mul_left th hc
  omega
/-! ranks -/
def hB (s : St) (r : Nat) : Bool := decide (hg s r)
def bfB (s : St) (q r : Nat) : Bool := decide (hg s r ∧ (wtS s r < wtS s q ∨ (wtS s r = wtS s q ∧ r < q)))
def leB (s : St) (i r : Nat) : Bool := decide (hg s r ∧ wtS s r ≤ wtS s i)
def ah (s : St) (n q : Nat) : Nat := cnt (bfB s q) n
def hct (s : St) (n : Nat) : Nat := cnt (hB s) n
theorem bfB_i {s : St} {q r : Nat} : bfB s q r = true ↔ hg s r ∧ (wtS s r < wtS s q ∨ (wtS s r = wtS s q ∧ r < q)) := decide_eq_true_iff
theorem leB_i {s : St} {q r : Nat} : leB s q r = true ↔ hg s r ∧ wtS s r ≤ wtS s q := decide_eq_true_iff
theorem hB_i {s : St} {r : Nat} : hB s r = true ↔ hg s r := decide_eq_true_iff
theorem bfB_self (s : St) (q : Nat) : ¬ bfB s q q = true := fun h => by
  have := (bfB_i.mp h).2
  omega
theorem pl_ge {s : St} {i q : Nat} (h : wtS s i < wtS s q) : cnt (leB s i) i ≤ ah s i q := cnt_mono i (fun r _ hr => by
  have := leB_i.mp hr
  exact bfB_i.mpr ⟨this.1, Or.inl (by omega)⟩)
theorem pl_lt {s : St} {i q : Nat} (hq : q < i) (hh : hg s q) (h : wtS s q ≤ wtS s i) : ah s i q < cnt (leB s i) i := cnt_lt (bfB_self s q) (leB_i.mpr ⟨hh, h⟩) i hq (fun r _ hr => by
  have := bfB_i.mp hr
  exact leB_i.mpr ⟨this.1, by omega⟩)
theorem ah_up {s : St} {i q : Nat} (hq : q < i) : ah s (i + 1) q = ah s i q + (if hg s i ∧ wtS s i < wtS s q then 1 else 0) := by
  show cnt (bfB s q) i + _ = _
  by_cases c : hg s i ∧ wtS s i < wtS s q
  · rw [if_pos c, if_pos (bfB_i.mpr ⟨c.1, Or.inl c.2⟩)]; rfl
  · rw [if_neg c, if_neg (fun h => by
      have := bfB_i.mp h
      exact c ⟨this.1, by omega⟩)]; rfl
theorem ah_own (s : St) (i : Nat) : ah s (i + 1) i = cnt (leB s i) i := by
  show cnt (bfB s i) i + _ = _
  rw [if_neg (bfB_self s i), Nat.add_zero]
  refine cnt_cg i (fun r hr => ?_)
  unfold bfB leB
  congr 1
  exact propext (and_congr_right (fun _ => by omega))
theorem ah_h {s : St} {n q : Nat} (hq : q < n) (hh : hg s q) : ah s n q < hct s n := cnt_lt (bfB_self s q) (hB_i.mpr hh) n hq (fun r _ hr => hB_i.mpr (bfB_i.mp hr).1)
theorem pl_h (s : St) (i : Nat) : cnt (leB s i) i ≤ hct s i := cnt_mono i (fun r _ hr => hB_i.mpr (leB_i.mp hr).1)
theorem ah_mono {s : St} {n q r : Nat} (hq : q < n) (h : bfB s r q = true) : ah s n q < ah s n r := cnt_lt (bfB_self s q) h n hq (fun k _ hk => by
  have h1 := bfB_i.mp hk
  have h2 := bfB_i.mp h
  exact bfB_i.mpr ⟨h1.1, by omega⟩)
theorem ah_inj {s : St} {n q r : Nat} (hq : q < n) (hr : r < n) (h1 : hg s q) (h2 : hg s r) (h : ah s n q = ah s n r) : q = r := by
  rcases Nat.lt_trichotomy (wtS s q) (wtS s r) with c | c | c
  · have := ah_mono (s := s) (n := n) hq (bfB_i.mpr ⟨h1, Or.inl c⟩)
    omega
  · rcases Nat.lt_trichotomy q r with e | e | e
    · have := ah_mono (s := s) (n := n) hq (bfB_i.mpr ⟨h1, Or.inr ⟨c, e⟩⟩)
      omega
    · exact e
    · have := ah_mono (s := s) (n := n) hr (bfB_i.mpr ⟨h2, Or.inr ⟨c.symm, e⟩⟩)
      omega
  · have := ah_mono (s := s) (n := n) hr (bfB_i.mpr ⟨h2, Or.inl c⟩)
    omega
theorem hct_up (s : St) (i : Nat) : hct s (i + 1) = hct s i + (if hg s i then 1 else 0) := by
  show cnt (hB s) i + _ = _
  by_cases c : hg s i
  · rw [if_pos c, if_pos (hB_i.mpr c)]; rfl
  · rw [if_neg c, if_neg (fun h => c (hB_i.mp h))]; rfl
theorem ex_rk (s : St) : ∀ i j, j < hct s i → ∃ q, q < i ∧ hg s q ∧ ah s i q = j
  | 0, j, hj => absurd hj (Nat.not_lt_zero j)
  | i + 1, j, hj => by
    rw [hct_up] at hj
    by_cases c : hg s i
    · rw [if_pos c] at hj
      have p1 := pl_h s i
      rcases Nat.lt_trichotomy j (cnt (leB s i) i) with e | e | e
      · obtain ⟨q, q1, q2, q3⟩ := ex_rk s i j (by omega)
        refine ⟨q, by omega, q2, ?_⟩
        have hw : ¬ wtS s i < wtS s q := fun h => by
          have := pl_ge h
          omega
        rw [ah_up q1, if_neg (fun z => hw z.2), q3]; rfl
      · exact ⟨i, by omega, c, by rw [ah_own, e]⟩
      · obtain ⟨q, q1, q2, q3⟩ := ex_rk s i (j - 1) (by omega)
        refine ⟨q, by omega, q2, ?_⟩
        have hw : wtS s i < wtS s q := by
          rcases Nat.lt_or_ge (wtS s i) (wtS s q) with h | h
          · exact h
          · have := pl_lt q1 q2 h
            omega
        rw [ah_up q1, if_pos ⟨c, hw⟩, q3]; omega
    · rw [if_neg c] at hj
      obtain ⟨q, q1, q2, q3⟩ := ex_rk s i j (by omega)
      exact ⟨q, by omega, q2, by rw [ah_up q1, if_neg (fun z => c z.1), q3]; rfl⟩
/-! the class's sorting -/
theorem sort_cls (d : Nat) {B : Nat} {s : St} {M : Mem} (hs : Wf B s) (hC : Ch M 0 s) : ∃ M', XC (d + 2) jX5_sortHanging [vR 5 0 0] M = some (some (vI (nI (hct s (ntS s)))), M') ∧ Df SCR M M' ∧ ∀ q, q < ntS s → hg s q → cA M' 5 0 10 (ah s (ntS s) q) = nI q := by
  obtain ⟨hn, h6⟩ := hs.nt
  have dS : ∀ (yM : Mem) (f : Nat → Int32), Df SCR yM (csA yM 5 0 10 f) := fun yM f => Df.csA (Or.inr (Or.inr ⟨rfl, rfl, rfl, Or.inr rfl⟩))
  have wt : ∀ i, i < 6 → s (69 + i) = nI (wtS s i) ∧ wtS s i ≤ 60 := fun i hi => hs.wt hi
  -- the stone i goes to its place
  have ins : ∀ i (yM : Mem), i < ntS s → hg s i → Df SCR M yM → (∀ q, q < i → hg s q → cA yM 5 0 10 (ah s i q) = nI q) → ∃ yM', X (d + 1) jX5_sortHanging 28 [some (vR 5 0 0), some (vI (nI (hct s i))), some (vI (nI i)), some (vI (nI (hct s i)))] [] yM = X (d + 1) jX5_sortHanging 90 [some (vR 5 0 0), some (vI (nI (hct s (i + 1)))), some (vI (nI i)), none] [] yM' ∧ Df SCR M yM' ∧ ∀ q, q < i + 1 → hg s q → cA yM' 5 0 10 (ah s (i + 1) q) = nI q := fun i yM hi hh yD yF => by
    have hi6 : i < 6 := by omega
    have hcl := cnt_le (hB s) i
    have hcl' : hct s i ≤ i := hcl
    have hpl := pl_h s i
    have w1 := (wt i hi6).2
    -- k places moved
    have key : ∀ k, k ≤ hct s i - cnt (leB s i) i → ∃ zM, X (d + 1) jX5_sortHanging 28 [some (vR 5 0 0), some (vI (nI (hct s i))), some (vI (nI i)), some (vI (nI (hct s i)))] [] yM = X (d + 1) jX5_sortHanging 28 [some (vR 5 0 0), some (vI (nI (hct s i))), some (vI (nI i)), some (vI (nI (hct s i - k)))] [] zM ∧ Df SCR M zM ∧ (∀ j, j < hct s i - k → cA zM 5 0 10 j = cA yM 5 0 10 j) ∧ (∀ j, hct s i - k < j → j ≤ hct s i → cA zM 5 0 10 j = cA yM 5 0 10 (j - 1)) := by
      intro k
      induction k with
      | zero => exact fun _ => ⟨yM, rfl, yD, fun _ _ => rfl, fun j h1 h2 => absurd h1 (by omega)⟩
      | succ k ih =>
        intro hk
        obtain ⟨zM, e, zD, z1, z2⟩ := ih (by omega)
        generalize hp : hct s i - (k + 1) = p at *
        have ep : hct s i - k = p + 1 := by omega
        rw [ep] at e z1 z2
        obtain ⟨q, q1, q2, q3⟩ := ex_rk s i p (by omega)
        have hw : wtS s i < wtS s q := by
          rcases Nat.lt_or_ge (wtS s i) (wtS s q) with h | h
          · exact h
          · have := pl_lt q1 q2 h
            omega
        have fq : cA zM 5 0 10 p = nI q := by
          rw [z1 p (by omega), ← q3]
          exact yF q q1 q2
        have w2 := (wt q (by omega)).2
        have e3 : nI (p + 1) - 1 = nI p := nI_sub (a := p + 1) (b := 1) (by omega)
        have e4 : nI (p + 1) + (-1) = nI p := by rw [← Int32.sub_eq_add_neg]; exact e3
        have hC2 := hC.S zD
        refine ⟨csA zM 5 0 10 (upd (cA zM 5 0 10) (p + 1) (nI q)), ?_, zD.tr (dS zM _), fun j hj => ?_, fun j h1 h2 => ?_⟩
        · rw [e, B_X5_sortHanging_28, if_neg (nI_nle (by omega) (by omega)), e3, ob_no (by omega) (by omega), cl_no (by omega), fq, ob_no (by omega) (by omega), ob_no (by omega) (by omega), cl_no (by omega), cl_no (by omega), hC2.a11 (by omega), hC2.a11 (by omega), (wt q (by omega)).1, (wt i hi6).1, if_neg (nI_ge hw (by omega)), ob_n2 (by omega) (by omega), ob_no (by omega) (by omega), cl_no (by omega), e4]
        · rw [cA_same, upd_ne (by omega)]
          exact z1 j (by omega)
        · rw [cA_same]
          by_cases w : j = p + 1
          · subst w
            rw [upd_same, show p + 1 - 1 = p by omega, ← q3]
            exact (yF q q1 q2).symm
          · rw [upd_ne w]
            exact z2 j (by omega) h2
    obtain ⟨zM, e, zD, z1, z2⟩ := key (hct s i - cnt (leB s i) i) (Nat.le_refl _)
    generalize hp : cnt (leB s i) i = p at *
    rw [show hct s i - (hct s i - p) = p by omega] at e z1 z2
    have stop : X (d + 1) jX5_sortHanging 28 [some (vR 5 0 0), some (vI (nI (hct s i))), some (vI (nI i)), some (vI (nI p))] [] zM = X (d + 1) jX5_sortHanging 80 [some (vR 5 0 0), some (vI (nI (hct s i))), some (vI (nI i)), some (vI (nI p))] [] zM := by
      have hC2 := hC.S zD
      rw [B_X5_sortHanging_28]
      by_cases c : p = 0
      · have c2 : nI p ≤ 0 := by rw [c]; decide
        rw [if_pos c2]
      · obtain ⟨q, q1, q2, q3⟩ := ex_rk s i (p - 1) (by omega)
        have hw : wtS s q ≤ wtS s i := by
          rcases Nat.lt_or_ge (wtS s i) (wtS s q) with h | h
          · have := pl_ge h
            rw [hp] at this
            omega
          · exact h
        have fq : cA zM 5 0 10 (p - 1) = nI q := by
          rw [z1 (p - 1) (by omega), ← q3]
          exact yF q q1 q2
        have w2 := (wt q (by omega)).2
        have e3 : nI p - 1 = nI (p - 1) := nI_sub (a := p) (b := 1) (by omega)
        rw [if_neg (nI_nle (by omega) (by omega)), e3, ob_no (by omega) (by omega), cl_no (by omega), fq, ob_no (by omega) (by omega), ob_no (by omega) (by omega), cl_no (by omega), cl_no (by omega), hC2.a11 (by omega), hC2.a11 (by omega), (wt q (by omega)).1, (wt i hi6).1, if_pos (nI_le hw (by omega))]
    refine ⟨csA zM 5 0 10 (upd (cA zM 5 0 10) p (nI i)), ?_, zD.tr (dS zM _), fun q hq hhq => ?_⟩
    · have eh : hct s (i + 1) = hct s i + 1 := by rw [hct_up, if_pos hh]
      rw [e, stop, B_X5_sortHanging_80, ob_no (by omega) (by omega), cl_no (by omega), nI_1, eh]
    · rw [cA_same]
      by_cases w : q = i
      · subst w
        rw [ah_own, hp, upd_same]
      · have hq2 : q < i := by omega
        rw [ah_up hq2]
        have l1 := ah_h hq2 hhq
        by_cases c : wtS s i < wtS s q
        · have g := pl_ge c
          rw [hp] at g
          rw [if_pos ⟨hh, c⟩, upd_ne (by omega), z2 _ (by omega) (by omega), show ah s i q + 1 - 1 = ah s i q by omega]
          exact yF q hq2 hhq
        · have g := pl_lt hq2 hhq (Nat.not_lt.mp c)
          rw [hp] at g
          rw [if_neg (fun z => c z.2), Nat.add_zero, upd_ne (by omega), z1 _ (by omega)]
          exact yF q hq2 hhq
  obtain ⟨M', e, D', F'⟩ := loop_ex (fun i (zM : Mem) => X (d + 1) jX5_sortHanging 4 [some (vR 5 0 0), some (vI (nI (hct s i))), some (vI (nI i)), none] [] zM) (fun i zM => Df SCR M zM ∧ ∀ q, q < i → hg s q → cA zM 5 0 10 (ah s i q) = nI q) (ntS s) M ⟨Df.rf, fun q hq => absurd hq (by omega)⟩ (fun i zM hi I => by
    obtain ⟨zD, zF⟩ := I
    have hC2 := hC.S zD
    try dsimp only
    rw [B_X5_sortHanging_4, hC2.c1, hn, ge_no hi (by omega), X1_hangs d 0 zM hC2 (by omega), bindI_some]
    by_cases c : hg s i
    · obtain ⟨zM', e2, D2, F2⟩ := ins i zM hi c zD zF
      refine ⟨zM', ?_, D2, F2⟩
      rw [if_pos c, ne_10, e2, B_X5_sortHanging_90, nI_1]
    · refine ⟨zM, ?_, zD, fun q hq hhq => ?_⟩
      · have eh : hct s (i + 1) = hct s i := by rw [hct_up, if_neg c]; rfl
        rw [if_neg c, eq_00, B_X5_sortHanging_90, nI_1, eh]
      · have hq2 : q < i := by
          by_cases w : q = i
          · subst w; exact absurd hhq c
          · omega
        rw [ah_up hq2, if_neg (fun z => c z.1), Nat.add_zero]
        exact zF q hq2 hhq)
  refine ⟨M', ?_, D', F'⟩
  rw [E_X5_sortHanging]
  refine Eq.trans e ?_
  try dsimp only
  rw [B_X5_sortHanging_4, (hC.S D').c1, hn, le_self, B_X5_sortHanging_96]
