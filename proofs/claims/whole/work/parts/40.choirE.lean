/-! notes that one can sing, rounds, copies -/
def hiS (s : St) (p : Nat) : Nat := min 23 ((s (39 + p)).toNatClampNeg + 11)
abbrev canS (s : St) (p : Nat) (x : Int32) : Prop := s (39 + p) ≤ x ∧ x ≤ nI (hiS s p)
theorem hi_eq {B : Nat} {s : St} (hs : Wf B s) {p : Nat} (hp : p < 6) : (if s (39 + p) + 11 < 23 then s (39 + p) + 11 else 23) = nI (hiS s p) := by
  obtain ⟨l1, l2⟩ := hs.2.2.2.2.1.val (i := p) hp (by decide)
  unfold hiS
  rw [l1, show (11 : Int32) = nI 11 from rfl, show (23 : Int32) = nI 23 from rfl, nI_add, cl_no (by omega)]
  by_cases l : (s (39 + p)).toNatClampNeg + 11 < 23
  · rw [if_pos (nI_lt l (by omega)), Nat.min_eq_right (by omega)]
  · rw [if_neg (nI_nlt (by omega) (by omega)), Nat.min_eq_left (by omega)]
theorem X1_highOf (d n : Nat) (M : Mem) {B : Nat} {s : St} (hs : Wf B s) (h : Ch M n s) {p : Nat} (hp : p < 6) : XC (d + 1) jX1_highOf [vR 1 n 0, vI (nI p)] M = some (some (vI (nI (hiS s p))), M) := by
  rw [E_X1_highOf, ob_no (by omega) (by omega), cl_no (by omega), h.a7 hp, hi_eq hs hp]
theorem X1_canSing (d n : Nat) (M : Mem) {B : Nat} {s : St} (hs : Wf B s) (h : Ch M n s) {p : Nat} (hp : p < 6) (x : Int32) : XC (d + 2) jX1_canSing [vR 1 n 0, vI (nI p), vI x] M = some (some (vI (if canS s p x then 1 else 0)), M) := by
  rw [E_X1_canSing, ob_no (by omega) (by omega), cl_no (by omega), h.a7 hp]
  by_cases l : x < s (39 + p)
  · have l2 : ¬ canS s p x := fun q => absurd (Int32.lt_of_lt_of_le l q.1) (Int32.lt_irrefl)
    rw [if_pos l, B_X1_canSing_23, B_X1_canSing_24, zo_0, if_neg l2]
  · rw [if_neg l, X1_highOf d n M hs h hp, bindI_some]
    try dsimp only
    by_cases u : nI (hiS s p) < x
    · have l2 : ¬ canS s p x := fun q => absurd (Int32.lt_of_lt_of_le u q.2) (Int32.lt_irrefl)
      rw [if_pos u, B_X1_canSing_23, B_X1_canSing_24, zo_0, if_neg l2]
    · rw [if_neg u, B_X1_canSing_24, zo_1, if_pos ⟨Int32.not_lt.mp l, Int32.not_lt.mp u⟩]
theorem Wf.sung {B : Nat} {s : St} (hs : Wf B s) {p : Nat} (hp : p < 6) {x : Int32} (h : canS s p x) : ∃ k, k ≤ 23 ∧ x = nI k := by
  obtain ⟨l1, l2⟩ := hs.2.2.2.2.1.val (i := p) hp (by decide)
  obtain ⟨h1, h2⟩ := h
  rw [l1] at h1
  have h0 : ¬ x < 0 := fun q => absurd (Int32.lt_of_le_of_lt h1 q) (nI_pos (by omega))
  obtain ⟨j, j1, rfl⟩ := nI_of h0
  have := (nI_leI j1 (by unfold hiS; omega)).mp h2
  exact ⟨j, by unfold hiS at this; omega, rfl⟩
/-- a round: each takes over from the one ahead -/
def rdV (s : St) (p : Nat) : Int32 := if canS s p (s (1 + (p + nsS s - 1) % nsS s)) then s (1 + (p + nsS s - 1) % nsS s) else -1
def rdP (s : St) (i : Nat) : St := fun k => if 1 + i ≤ k ∧ k < 1 + nsS s then rdV s (k - 1) else s k
theorem rdV_ok {B : Nat} {s : St} (hs : Wf B s) {p : Nat} (hp : p < 6) : NtOk (rdV s p) := by
  unfold rdV
  split
  · exact Or.inr (hs.sung hp ‹_›)
  · exact Or.inl rfl
theorem rdP_step (s : St) {i : Nat} (hi : i < nsS s) : rdP s i = upd (rdP s (i + 1)) (1 + i) (rdV s i) := by
  funext k
  unfold rdP
  by_cases e : k = 1 + i
  · subst e
    rw [if_pos ⟨by omega, by omega⟩, upd_same]
    have : 1 + i - 1 = i := by omega
    rw [this]
  · rw [upd_ne e]
    by_cases c : 1 + i ≤ k ∧ k < 1 + nsS s
    · rw [if_pos c, if_pos ⟨by omega, c.2⟩]
    · rw [if_neg c, if_neg (fun q => c ⟨by omega, q.2⟩)]
theorem rdP_top (s : St) : rdP s (nsS s) = s := by
  funext k
  unfold rdP
  exact if_neg (fun q => by omega)
theorem rdP_ok {B : Nat} {s : St} (hs : Wf B s) (i : Nat) : Wf B (rdP s i) ∧ Sm s (rdP s i) := by
  have h6 := hs.ns.2
  have key : ∀ k, k ≤ nsS s → Wf B (rdP s (nsS s - k)) := by
    intro k
    induction k with
    | zero => intro _; rw [Nat.sub_zero, rdP_top]; exact hs
    | succ k ih =>
      intro hk
      have e : nsS s - k = nsS s - (k + 1) + 1 := by omega
      have := ih (by omega)
      rw [e] at this
      rw [rdP_step s (by omega)]
      exact this.u8 (by omega) (rdV_ok hs (by omega))
  refine ⟨?_, if_neg (fun q => by omega), if_neg (fun q => by omega)⟩
  by_cases c : i ≤ nsS s
  · have := key (nsS s - i) (by omega)
    rw [show nsS s - (nsS s - i) = i by omega] at this
    exact this
  · have e : rdP s i = s := by
      funext k
      unfold rdP
      exact if_neg (fun q => by omega)
    rw [e]; exact hs
theorem X1_goRound (d n : Nat) (M : Mem) {B : Nat} {s : St} (hs : Wf B s) (h : Ch M n s) : ∃ M', XC (d + 3) jX1_goRound [vR 1 n 0] M = some (none, M') ∧ Df (chg n) M M' ∧ Ch M' n (rdP s 0) := by
  obtain ⟨hn, h6⟩ := hs.ns
  rw [E_X1_goRound, h.c0, hn]
  by_cases c : nsS s = 0
  · have e : nI (nsS s) = 0 := by rw [c]; rfl
    rw [if_pos e]
    refine ⟨M, rfl, Df.rf, ?_⟩
    have := rdP_top s
    rw [c] at this
    rw [this]; exact h
  · have em : nI (nsS s) - 1 = nI (nsS s - 1) := nI_sub (a := nsS s) (b := 1) (by omega)
    rw [if_neg (nI_ne0 (by omega) (by omega)), B_X1_goRound_8, h.c0, hn, em, ob_no (by omega) (by omega), cl_no (by omega), h.a8 (by omega)]
    try dsimp only
    have key : ∀ k, k ≤ nsS s → ∃ M', X (d + 2) jX1_goRound 27 [some (vR 1 n 0), some (vI (s (1 + (nsS s - 1)))), some (vI (nI (nsS s - 1))), none] [] M = X (d + 2) jX1_goRound 27 [some (vR 1 n 0), some (vI (s (1 + (nsS s - 1)))), some (vI (nI (nsS s - k) - 1)), none] [] M' ∧ Df (chg n) M M' ∧ Ch M' n (rdP s (nsS s - k)) := by
      intro k
      induction k with
      | zero =>
        intro _
        rw [Nat.sub_zero, rdP_top, em]
        exact ⟨M, rfl, Df.rf, h⟩
      | succ k ih =>
        intro hk
        obtain ⟨M1, e1, D1, h1⟩ := ih (by omega)
        rw [e1]
        generalize hi : nsS s - (k + 1) = i
        have e2 : nsS s - k = i + 1 := by omega
        rw [e2] at h1 ⊢
        obtain ⟨w1, m1⟩ := rdP_ok hs (i + 1)
        have e3 : nI (i + 1) - 1 = nI i := nI_sub (a := i + 1) (b := 1) (by omega)
        have hst := rdP_step s (i := i) (by omega)
        have e4 : ∀ j, j ≤ i → rdP s (i + 1) (1 + j) = s (1 + j) := fun j hj => if_neg (fun q => by omega)
        have e5 : ∀ x, canS (rdP s (i + 1)) i x ↔ canS s i x := fun x => by
          have : rdP s (i + 1) (39 + i) = s (39 + i) := if_neg (fun q => by omega)
          unfold canS hiS
          rw [this]
        have e6 : nI i + (-1) = nI i - 1 := by rw [Int32.sub_eq_add_neg]
        have fin : ∀ x, x = s (1 + (i + nsS s - 1) % nsS s) → ∃ M', X (d + 2) jX1_goRound 47 [some (vR 1 n 0), some (vI (s (1 + (nsS s - 1)))), some (vI (nI i)), none] [vI x] M1 = X (d + 2) jX1_goRound 27 [some (vR 1 n 0), some (vI (s (1 + (nsS s - 1)))), some (vI (nI i - 1)), none] [] M' ∧ Df (chg n) M M' ∧ Ch M' n (rdP s i) := by
          intro x hx
          rw [B_X1_goRound_47, X1_canSing d n M1 w1 h1 (by omega) x, bindI_some]
          try dsimp only
          have ev : rdV s i = if canS s i x then x else -1 := by subst hx; rfl
          by_cases l : canS s i x
          · rw [if_pos ((e5 x).mpr l), ne_10, B_X1_goRound_67, ob_no (by omega) (by omega), cl_no (by omega), e6]
            refine ⟨_, rfl, D1.tr (Df.csA ⟨by decide, rfl, rfl⟩), ?_⟩
            rw [hst, ev, if_pos l]
            exact h1.u8 (by omega) x
          · rw [if_neg (fun q => l ((e5 x).mp q)), eq_00, B_X1_goRound_66, B_X1_goRound_67, ob_no (by omega) (by omega), cl_no (by omega), e6]
            refine ⟨_, rfl, D1.tr (Df.csA ⟨by decide, rfl, rfl⟩), ?_⟩
            rw [hst, ev, if_neg l]
            exact h1.u8 (by omega) (-1)
        rw [e3, B_X1_goRound_27, if_neg (nI_pos (by omega))]
        by_cases z : i = 0
        · subst z
          have e0 : nI 0 = 0 := rfl
          rw [if_pos e0]
          refine fin _ ?_
          have : (0 + nsS s - 1) % nsS s = nsS s - 1 := by rw [Nat.zero_add]; exact Nat.mod_eq_of_lt (by omega)
          rw [this]
        · have e7 : nI i - 1 = nI (i - 1) := nI_sub (a := i) (b := 1) (by omega)
          rw [if_neg (nI_ne0 (by omega) (by omega)), B_X1_goRound_39, e7, ob_no (by omega) (by omega), cl_no (by omega), h1.a8 (by omega), e4 _ (by omega), ← e7]
          refine fin _ ?_
          have : (i + nsS s - 1) % nsS s = i - 1 := by
            rw [show i + nsS s - 1 = (i - 1) + nsS s by omega, Nat.add_mod_right]
            exact Nat.mod_eq_of_lt (by omega)
          rw [this]
    obtain ⟨M', e, D, hC⟩ := key (nsS s) (Nat.le_refl _)
    rw [Nat.sub_self] at e hC
    refine ⟨M', ?_, D, hC⟩
    rw [e, B_X1_goRound_27]
    have l : nI 0 - 1 < 0 := by decide
    rw [if_pos l, B_X1_goRound_74]
/-- the notes of a set out of another row, all others rest -/
def kp1 (o : St) (a i : Nat) (z : St) : St := upd z (1 + i) (if bt a i then o (1 + i) else -1)
def kpS (s o : St) (a : Nat) : St := itr (kp1 o a) (nsS s) s
theorem X1_keepNotes (d n n1 : Nat) (hnn : ¬ n1 = n) (M : Mem) {B B1 : Nat} {s o : St} (hs : Wf B s) (ho : Wf B1 o) (h : Ch M n s) (h1 : Ch M n1 o) {a : Nat} (ha : a < 64) : ∃ M', XC (d + 2) jX1_keepNotes [vR 1 n 0, vR 1 n1 0, vI (nI a)] M = some (none, M') ∧ Df (chg n) M M' ∧ Ch M' n (kpS s o a) ∧ Wf B (kpS s o a) ∧ Sm s (kpS s o a) := by
  obtain ⟨hn, h6⟩ := hs.ns
  rw [E_X1_keepNotes]
  obtain ⟨M', e, D, hC, hw, hm⟩ := loop_ex (fun i (zM : Mem) => X (d + 1) jX1_keepNotes 2 [some (vR 1 n 0), some (vR 1 n1 0), some (vI (nI a)), some (vI (nI i))] [] zM) (fun i zM => Df (chg n) M zM ∧ Ch zM n (itr (kp1 o a) i s) ∧ Wf B (itr (kp1 o a) i s) ∧ Sm s (itr (kp1 o a) i s)) (nsS s) M ⟨Df.rf, h, hs, rfl, rfl⟩ (fun i zM hi I => by
    obtain ⟨zD, zh, zw, zm⟩ := I
    have hst : itr (kp1 o a) (i + 1) s = kp1 o a i (itr (kp1 o a) i s) := rfl
    rw [hst]
    generalize itr (kp1 o a) i s = z at zh zw zm
    try dsimp only
    have zm' : Sm s (kp1 o a i z) := ⟨(upd_ne (by omega)).trans zm.1, (upd_ne (by omega)).trans zm.2⟩
    have zw' : Wf B (kp1 o a i z) := zw.u8 (by omega) (by
      split
      · exact ho.note (by omega)
      · exact Or.inl rfl)
    rw [B_X1_keepNotes_2, zh.c0, zm.1, hn, ge_no hi (by omega), X5_hasBit _ _ ha (by omega), bindI_some]
    try dsimp only
    by_cases c : bt a i
    · rw [if_pos c, ne_10, ob_no (by omega) (by omega), cl_no (by omega), (h1.ot zD hnn).a8 (by omega), B_X1_keepNotes_33, ob_no (by omega) (by omega), cl_no (by omega), nI_1]
      refine ⟨_, rfl, zD.tr (Df.csA ⟨by decide, rfl, rfl⟩), ?_, zw', zm'⟩
      unfold kp1
      rw [if_pos c]
      exact zh.u8 (by omega) _
    · rw [if_neg c, eq_00, B_X1_keepNotes_32, B_X1_keepNotes_33, ob_no (by omega) (by omega), cl_no (by omega), nI_1]
      refine ⟨_, rfl, zD.tr (Df.csA ⟨by decide, rfl, rfl⟩), ?_, zw', zm'⟩
      unfold kp1
      rw [if_neg c]
      exact zh.u8 (by omega) _)
  refine ⟨M', ?_, D, hC, hw, hm⟩
  refine Eq.trans e ?_
  try dsimp only
  rw [B_X1_keepNotes_2, hC.c0, hm.1, hn, le_self, B_X1_keepNotes_40]
