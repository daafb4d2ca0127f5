/-! acts -/
abbrev At : Type := Nat × (Nat → Int32)
def rb (b : Nat) (t : At) : At := (t.1 + 1, if t.1 < 20 then upd t.2 t.1 (nI b) else t.2)
def psA (num x : Int32) (t : At) : Int32 × At := (x + num, rb 1 t)
def siA (K : Nat) (num x : Int32) (t : At) : Int32 × At := if K = 1 ∨ K = 4 then psA num (x * 3) (rb 11 t) else if K = 5 then ((psA num x (rb 51 t)).1 ^^^ num, (psA num x (rb 51 t)).2) else psA num x t
def pbA (K : Nat) (num v x : Int32) (t : At) : Int32 × At := ((siA K num x (rb 2 t)).1 - v, (siA K num x (rb 2 t)).2)
def beA (K : Nat) (num v x : Int32) (t : At) : Int32 × At := if K = 2 ∨ K = 5 then (-(pbA K num v x (rb 21 t)).1, (pbA K num v x (rb 21 t)).2) else if K = 6 then ((pbA K num v x (rb 61 t)).1 + v, (pbA K num v x (rb 61 t)).2) else pbA K num v x t
def ptA (K : Nat) (num v x : Int32) (t : At) : Int32 × At := ((beA K num v x (rb 3 t)).1 * 2, (beA K num v x (rb 3 t)).2)
def teA (K : Nat) (num v x : Int32) (t : At) : Int32 × At := if K = 3 ∨ K = 6 then ((ptA K num v x (rb 31 t)).1 ^^^ 7, (ptA K num v x (rb 31 t)).2) else if K = 4 then ((ptA K num v (x - 1) (rb 41 t)).1 + (siA K num 2 (ptA K num v (x - 1) (rb 41 t)).2).1, (siA K num 2 (ptA K num v (x - 1) (rb 41 t)).2).2) else ptA K num v x t
theorem psA_le (num x : Int32) (t : At) : (psA num x t).2.1 ≤ t.1 + 1 := Nat.le_refl _
theorem siA_le (K : Nat) (num x : Int32) (t : At) : (siA K num x t).2.1 ≤ t.1 + 2 := by
  unfold siA
  split
  · exact Nat.le_refl _
  · split
    · exact Nat.le_refl _
    · exact Nat.le_succ _
theorem pbA_le (K : Nat) (num v x : Int32) (t : At) : (pbA K num v x t).2.1 ≤ t.1 + 3 := siA_le K num x (rb 2 t)
theorem beA_le (K : Nat) (num v x : Int32) (t : At) : (beA K num v x t).2.1 ≤ t.1 + 4 := by
  unfold beA
  split
  · exact pbA_le K num v x (rb 21 t)
  · split
    · exact pbA_le K num v x (rb 61 t)
    · exact Nat.le_succ_of_le (pbA_le K num v x t)
theorem ptA_le (K : Nat) (num v x : Int32) (t : At) : (ptA K num v x t).2.1 ≤ t.1 + 5 := beA_le K num v x (rb 3 t)
theorem teA_le (K : Nat) (num v x : Int32) (t : At) : (teA K num v x t).2.1 ≤ t.1 + 8 := by
  unfold teA
  split
  · exact Nat.le_trans (ptA_le K num v x (rb 31 t)) (by show t.1 + 1 + 5 ≤ _; omega)
  · split
    · have h1 := siA_le K num 2 (ptA K num v (x - 1) (rb 41 t)).2
      have h2 := ptA_le K num v (x - 1) (rb 41 t)
      have h3 : (rb 41 t).1 = t.1 + 1 := rfl
      simp only
      omega
    · exact Nat.le_trans (ptA_le K num v x t) (by omega)
/-! the reference's acts -/
def actR : Nat → Nat → Prop := fun t k => (t = 0 ∧ k = 19) ∨ (t = 1 ∧ k = 19)
def AR (N0 : Mem) (K : Nat) (num v : Int32) (t : At) (N : Mem) : Prop := Rf actR N0 N ∧ rI N 19 = nI t.1 ∧ (∀ i, i < 20 → rA N 19 i = t.2 i) ∧ rI N 20 = nI K ∧ rI N 21 = num ∧ rI N 22 = v
theorem ranBody_ref (d : Nat) {N0 N : Mem} {K : Nat} {num v : Int32} {t : At} (h : AR N0 K num v t N) (ht : t.1 < 900) (b : Nat) : ∃ N', XC (d + 1) jX6_ranBody [vR 6 0 0, vI (nI b)] N = some (none, N') ∧ AR N0 K num v (rb b t) N' := by
  obtain ⟨h1, h2, h3, h4, h5, h6⟩ := h
  rw [E_X6_ranBody, h2]
  by_cases c : t.1 < 20
  · have g : ¬ (20 : Int32) ≤ nI t.1 := nI_ge (b := 20) c (by omega)
    rw [if_neg g, ob_no (by omega) (by omega), cl_no (by omega)]
    try dsimp only
    rw [B_X6_ranBody_19]
    refine ⟨_, rfl, (h1.tr (Rf.A (Or.inr ⟨rfl, rfl⟩))).tr (Rf.I (Or.inl ⟨rfl, rfl⟩)), ?_, fun i hi => ?_, h4, h5, h6⟩
    · rw [rI_rsI, if_pos rfl, rI_rsA, h2, nI_1]; rfl
    · rw [rA_rsI, rA_same]
      show _ = (if t.1 < 20 then upd t.2 t.1 (nI b) else t.2) i
      rw [if_pos c]
      by_cases e : i = t.1
      · subst e; rw [upd_same, upd_same]
      · rw [upd_ne e, upd_ne e, h3 i hi]
  · have g : (20 : Int32) ≤ nI t.1 := nI_le (a := 20) (by omega) (by omega)
    rw [if_pos g, B_X6_ranBody_19]
    refine ⟨_, rfl, h1.tr (Rf.I (Or.inl ⟨rfl, rfl⟩)), ?_, fun i hi => ?_, h4, h5, h6⟩
    · rw [rI_rsI, if_pos rfl, h2, nI_1]; rfl
    · rw [rA_rsI]
      show _ = (if t.1 < 20 then upd t.2 t.1 (nI b) else t.2) i
      rw [if_neg c, h3 i hi]
theorem plainSings_ref (d : Nat) {N0 N : Mem} {K : Nat} {num v : Int32} {t : At} (h : AR N0 K num v t N) (ht : t.1 < 800) (x : Int32) : ∃ N', XC (d + 2) jX6_plainSings [vR 6 0 0, vI x] N = some (some (vI (psA num x t).1), N') ∧ AR N0 K num v (psA num x t).2 N' := by
  obtain ⟨N1, e1, h1⟩ := ranBody_ref d h (by omega) 1
  have e1' : XC (d + 1) jX6_ranBody [vR 6 0 0, vI 1] N = some (none, N1) := e1
  refine ⟨N1, ?_, h1⟩
  rw [E_X6_plainSings, e1', bindV_some, h1.2.2.2.2.1]
  rfl
theorem under1 : ∀ K, K < 7 → asB K 1 = decide (K = 1 ∨ K = 4) := by decide +kernel
theorem under2 : ∀ K, K < 7 → asB K 2 = decide (K = 2 ∨ K = 5) := by decide +kernel
theorem under3 : ∀ K, K < 7 → asB K 3 = decide (K = 3 ∨ K = 6) := by decide +kernel
theorem isU (d : Nat) (N : Mem) {K : Nat} (hK : K < 7) (k : Nat) (hk : k < 7) {Q : Prop} [Decidable Q] (e : asB K k = decide Q) : XC (d + 1) jX6_isUnder [vI (nI K), vI (nI k)] N = some (some (vI (if Q then 1 else 0)), N) := by
  rw [X6_isUnder d N hK hk, e]
  by_cases c : Q
  · rw [decide_eq_true c, if_pos rfl, if_pos c]
  · rw [decide_eq_false c, if_neg (by decide), if_neg c]
theorem singsActs_ref (d : Nat) {N0 N : Mem} {K : Nat} (hK : K < 7) {num v : Int32} {t : At} (h : AR N0 K num v t N) (ht : t.1 < 700) (x : Int32) : ∃ N', XC (d + 3) jX6_singsActs [vR 6 0 0, vI x] N = some (some (vI (siA K num x t).1), N') ∧ AR N0 K num v (siA K num x t).2 N' := by
  have eu : XC (d + 2) jX6_isUnder [vI (nI K), vI 1] N = _ := isU (d + 1) N hK 1 (by decide) (under1 K hK)
  have t1 : ∀ b, (rb b t).1 = t.1 + 1 := fun _ => rfl
  rw [E_X6_singsActs, h.2.2.2.1, eu, bindI_some]
  by_cases c : K = 1 ∨ K = 4
  · obtain ⟨N1, e1, h1⟩ := ranBody_ref (d + 1) h (by omega) 11
    obtain ⟨N2, e2, h2⟩ := plainSings_ref d h1 (by rw [t1]; omega) (x * 3)
    have e1' : XC (d + 2) jX6_ranBody [vR 6 0 0, vI 11] N = some (none, N1) := e1
    have es : siA K num x t = psA num (x * 3) (rb 11 t) := if_pos c
    rw [es]
    refine ⟨N2, ?_, h2⟩
    rw [if_pos c, ne_10, e1', bindV_some, e2, bindI_some]
  · rw [if_neg c, eq_00, B_X6_singsActs_25, h.2.2.2.1]
    by_cases c5 : K = 5
    · obtain ⟨N1, e1, h1⟩ := ranBody_ref (d + 1) h (by omega) 51
      obtain ⟨N2, e2, h2⟩ := plainSings_ref d h1 (by rw [t1]; omega) x
      have e1' : XC (d + 2) jX6_ranBody [vR 6 0 0, vI 51] N = some (none, N1) := e1
      have es : siA K num x t = ((psA num x (rb 51 t)).1 ^^^ num, (psA num x (rb 51 t)).2) := (if_neg c).trans (if_pos c5)
      rw [es]
      refine ⟨N2, ?_, h2⟩
      rw [if_pos (show nI K = 5 by rw [c5]; rfl), e1', bindV_some, e2, bindI_some, h2.2.2.2.2.1]
    · obtain ⟨N2, e2, h2⟩ := plainSings_ref d h (by omega) x
      have es : siA K num x t = psA num x t := (if_neg c).trans (if_neg c5)
      rw [es]
      refine ⟨N2, ?_, h2⟩
      rw [if_neg (show ¬ nI K = 5 from nI_ne (b := 5) (by omega) (by omega) c5), B_X6_singsActs_50, e2, bindI_some]
theorem plainBears_ref (d : Nat) {N0 N : Mem} {K : Nat} (hK : K < 7) {num v : Int32} {t : At} (h : AR N0 K num v t N) (ht : t.1 < 600) (x : Int32) : ∃ N', XC (d + 4) jX6_plainBears [vR 6 0 0, vI x] N = some (some (vI (pbA K num v x t).1), N') ∧ AR N0 K num v (pbA K num v x t).2 N' := by
  obtain ⟨N1, e1, h1⟩ := ranBody_ref (d + 2) h (by omega) 2
  obtain ⟨N2, e2, h2⟩ := singsActs_ref d hK h1 (by show t.1 + 1 < 700; omega) x
  have e1' : XC (d + 3) jX6_ranBody [vR 6 0 0, vI 2] N = some (none, N1) := e1
  refine ⟨N2, ?_, h2⟩
  rw [E_X6_plainBears, e1', bindV_some, e2, bindI_some, h2.2.2.2.2.2]
  rfl
theorem bearsActs_ref (d : Nat) {N0 N : Mem} {K : Nat} (hK : K < 7) {num v : Int32} {t : At} (h : AR N0 K num v t N) (ht : t.1 < 500) (x : Int32) : ∃ N', XC (d + 5) jX6_bearsActs [vR 6 0 0, vI x] N = some (some (vI (beA K num v x t).1), N') ∧ AR N0 K num v (beA K num v x t).2 N' := by
  have eu : XC (d + 4) jX6_isUnder [vI (nI K), vI 2] N = _ := isU (d + 3) N hK 2 (by decide) (under2 K hK)
  have t1 : ∀ b, (rb b t).1 = t.1 + 1 := fun _ => rfl
  rw [E_X6_bearsActs, h.2.2.2.1, eu, bindI_some]
  by_cases c : K = 2 ∨ K = 5
  · obtain ⟨N1, e1, h1⟩ := ranBody_ref (d + 3) h (by omega) 21
    obtain ⟨N2, e2, h2⟩ := plainBears_ref d hK h1 (by rw [t1]; omega) x
    have e1' : XC (d + 4) jX6_ranBody [vR 6 0 0, vI 21] N = some (none, N1) := e1
    have es : beA K num v x t = (-(pbA K num v x (rb 21 t)).1, (pbA K num v x (rb 21 t)).2) := if_pos c
    rw [es]
    refine ⟨N2, ?_, h2⟩
    rw [if_pos c, ne_10, e1', bindV_some, e2, bindI_some]
  · rw [if_neg c, eq_00, B_X6_bearsActs_24, h.2.2.2.1]
    by_cases c5 : K = 6
    · obtain ⟨N1, e1, h1⟩ := ranBody_ref (d + 3) h (by omega) 61
      obtain ⟨N2, e2, h2⟩ := plainBears_ref d hK h1 (by rw [t1]; omega) x
      have e1' : XC (d + 4) jX6_ranBody [vR 6 0 0, vI 61] N = some (none, N1) := e1
      have es : beA K num v x t = ((pbA K num v x (rb 61 t)).1 + v, (pbA K num v x (rb 61 t)).2) := (if_neg c).trans (if_pos c5)
      rw [es]
      refine ⟨N2, ?_, h2⟩
      rw [if_pos (show nI K = 6 by rw [c5]; rfl), e1', bindV_some, e2, bindI_some, h2.2.2.2.2.2]
    · obtain ⟨N2, e2, h2⟩ := plainBears_ref d hK h (by omega) x
      have es : beA K num v x t = pbA K num v x t := (if_neg c).trans (if_neg c5)
      rw [es]
      refine ⟨N2, ?_, h2⟩
      rw [if_neg (show ¬ nI K = 6 from nI_ne (b := 6) (by omega) (by omega) c5), B_X6_bearsActs_50, e2, bindI_some]
theorem plainTells_ref (d : Nat) {N0 N : Mem} {K : Nat} (hK : K < 7) {num v : Int32} {t : At} (h : AR N0 K num v t N) (ht : t.1 < 400) (x : Int32) : ∃ N', XC (d + 6) jX6_plainTells [vR 6 0 0, vI x] N = some (some (vI (ptA K num v x t).1), N') ∧ AR N0 K num v (ptA K num v x t).2 N' := by
  obtain ⟨N1, e1, h1⟩ := ranBody_ref (d + 4) h (by omega) 3
  obtain ⟨N2, e2, h2⟩ := bearsActs_ref d hK h1 (by show t.1 + 1 < 500; omega) x
  have e1' : XC (d + 5) jX6_ranBody [vR 6 0 0, vI 3] N = some (none, N1) := e1
  refine ⟨N2, ?_, h2⟩
  rw [E_X6_plainTells, e1', bindV_some, e2, bindI_some]
  rfl
theorem tellsActs_ref (d : Nat) {N0 N : Mem} {K : Nat} (hK : K < 7) {num v : Int32} {t : At} (h : AR N0 K num v t N) (ht : t.1 < 300) (x : Int32) : ∃ N', XC (d + 7) jX6_tellsActs [vR 6 0 0, vI x] N = some (some (vI (teA K num v x t).1), N') ∧ AR N0 K num v (teA K num v x t).2 N' := by
  have eu : XC (d + 6) jX6_isUnder [vI (nI K), vI 3] N = _ := isU (d + 5) N hK 3 (by decide) (under3 K hK)
  have t1 : ∀ b, (rb b t).1 = t.1 + 1 := fun _ => rfl
  rw [E_X6_tellsActs, h.2.2.2.1, eu, bindI_some]
  by_cases c : K = 3 ∨ K = 6
  · obtain ⟨N1, e1, h1⟩ := ranBody_ref (d + 5) h (by omega) 31
    obtain ⟨N2, e2, h2⟩ := plainTells_ref d hK h1 (by rw [t1]; omega) x
    have e1' : XC (d + 6) jX6_ranBody [vR 6 0 0, vI 31] N = some (none, N1) := e1
    have es : teA K num v x t = ((ptA K num v x (rb 31 t)).1 ^^^ 7, (ptA K num v x (rb 31 t)).2) := if_pos c
    rw [es]
    refine ⟨N2, ?_, h2⟩
    rw [if_pos c, ne_10, e1', bindV_some, e2, bindI_some]
  · rw [if_neg c, eq_00, B_X6_tellsActs_26, h.2.2.2.1]
    by_cases c5 : K = 4
    · obtain ⟨N1, e1, h1⟩ := ranBody_ref (d + 5) h (by omega) 41
      obtain ⟨N2, e2, h2⟩ := plainTells_ref d hK h1 (by rw [t1]; omega) (x - 1)
      have l2 := ptA_le K num v (x - 1) (rb 41 t)
      rw [t1] at l2
      obtain ⟨N3, e3, h3⟩ := singsActs_ref (d + 3) hK h2 (by omega) 2
      have e1' : XC (d + 6) jX6_ranBody [vR 6 0 0, vI 41] N = some (none, N1) := e1
      have es : teA K num v x t = ((ptA K num v (x - 1) (rb 41 t)).1 + (siA K num 2 (ptA K num v (x - 1) (rb 41 t)).2).1, (siA K num 2 (ptA K num v (x - 1) (rb 41 t)).2).2) := (if_neg c).trans (if_pos c5)
      rw [es]
      refine ⟨N3, ?_, h3⟩
      rw [if_pos (show nI K = 4 by rw [c5]; rfl), e1', bindV_some, e2, bindI_some, e3, bindI_some]
    · obtain ⟨N2, e2, h2⟩ := plainTells_ref d hK h (by omega) x
      have es : teA K num v x t = ptA K num v x t := (if_neg c).trans (if_neg c5)
      rw [es]
      refine ⟨N2, ?_, h2⟩
      rw [if_neg (show ¬ nI K = 4 from nI_ne (b := 4) (by omega) (by omega) c5), B_X6_tellsActs_56, e2, bindI_some]
/-! the class's acts -/
def actC : SetC := fun t c m k => c = 0 ∧ m = 0 ∧ ((t = 0 ∧ k = 3) ∨ (t = 1 ∧ k = 5))
def AC (M0 : Mem) (K : Nat) (num v : Int32) (t : At) (M : Mem) : Prop := Df actC M0 M ∧ cI M 0 0 3 = nI t.1 ∧ (∀ i, i < 20 → cA M 0 0 5 i = t.2 i) ∧ cI M 0 0 1 = nI K ∧ cI M 0 0 0 = num ∧ cI M 0 0 2 = v
/-- which body is found -/
def boW : Nat → Nat → Nat → Nat
  | 0, _, _ => 0
  | n + 1, j, a => if staB 2 (j * 3 + a) = 0 then (match upK j with
    | none => 0
    | some i => boW n i a) else (staB 2 (j * 3 + a)).toNatClampNeg
def boB (j a : Nat) : Nat := if a = 0 then (if j = 1 ∨ j = 4 then 11 else if j = 5 then 51 else 1) else if a = 1 then (if j = 2 ∨ j = 5 then 21 else if j = 6 then 61 else 2) else (if j = 3 ∨ j = 6 then 31 else if j = 4 then 41 else 3)
theorem boW_7 : ∀ j, j < 7 → ∀ a, a < 3 → boW 7 j a = boB j a := by decide +kernel
theorem bo_nn : ∀ k, k < 21 → staB 2 k = nI (staB 2 k).toNatClampNeg := by decide +kernel
theorem boB_pos (j a : Nat) : 0 < boB j a := by
  unfold boB
  repeat' split
  all_goals decide
theorem find_walk (d : Nat) (M : Mem) (x dp : Int32) {a : Nat} (ha : a < 3) : ∀ n j, n ≤ 7 → j < 7 → 0 < boW n j a → X (d + 1) jX0_callFrom 6 [some (vR 0 0 0), none, some (vI (nI a)), some (vI x), some (vI dp), some (vI (nI j)), some (vI (nI (7 - n))), none] [] M = (bindI (XC (d + 1) jX0_runBody [vR 0 0 0, vI (nI (boW n j a)), vI x, vI (dp + 1)] M) fun r M => some (some (vI r), M))
  | 0, j, _, _, h => absurd h (Nat.lt_irrefl 0)
  | n + 1, j, hn, hj, h => by
    have g7 : ¬ (7 : Int32) ≤ nI (7 - (n + 1)) := nI_ge (b := 7) (by omega) (by omega)
    have j7 : ¬ (7 : Int32) ≤ nI j := nI_ge (b := 7) (by omega) (by omega)
    have ei : nI j * 3 + nI a = nI (j * 3 + a) := by rw [show (3 : Int32) = nI 3 from rfl, nI_mul, nI_add]
    rw [B_X0_callFrom_6, if_neg g7, if_neg (nI_pos (by omega)), if_neg j7, ei, ob_no (by omega) (by omega), cl_no (by omega)]
    try dsimp only
    by_cases c : staB 2 (j * 3 + a) = 0
    · have e : boW (n + 1) j a = (match upK j with
        | none => 0
        | some i => boW n i a) := if_pos c
      rw [if_pos c, B_X0_callFrom_54, ob_no (by omega) (by omega), cl_no (by omega), upK_sta j hj, nI_1]
      rw [e] at h ⊢
      try dsimp only
      match hu : upK j with
      | none => rw [hu] at h; exact absurd h (Nat.lt_irrefl 0)
      | some i =>
        have hi := upK_lt hj hu
        rw [hu] at h
        rw [show 7 - (n + 1) + 1 = 7 - n by omega]
        exact find_walk d M x dp ha n i (by omega) hi h
    · have e : boW (n + 1) j a = (staB 2 (j * 3 + a)).toNatClampNeg := if_neg c
      rw [if_neg c, e, ← bo_nn _ (by omega)]
theorem callFrom_cls (d : Nat) (M : Mem) (x : Int32) (dp : Nat) {j a : Nat} (hj : j < 7) (ha : a < 3) : XC (d + 2) jX0_callFrom [vR 0 0 0, vI (nI j), vI (nI a), vI x, vI (nI dp)] M = (bindI (XC (d + 1) jX0_runBody [vR 0 0 0, vI (nI (boB j a)), vI x, vI (nI (dp + 1))] M) fun r M => some (some (vI r), M)) := by
  have h := find_walk d M x (nI dp) ha 7 j (Nat.le_refl _) hj (by rw [boW_7 j hj a ha]; exact boB_pos j a)
  rw [boW_7 j hj a ha, nI_1] at h
  rw [E_X0_callFrom]
  exact h
/-- a body begins -/
theorem body_cls (d : Nat) {M0 M : Mem} {K : Nat} {num v : Int32} {t : At} (h : AC M0 K num v t M) (ht : t.1 < 900) (b : Nat) (x : Int32) {dp : Nat} (hdp : dp ≤ 16) : ∃ M', XC (d + 1) jX0_runBody [vR 0 0 0, vI (nI b), vI x, vI (nI dp)] M = (if nI b = 1 then X d jX0_runBody 120 [some (vR 0 0 0), none, some (vI x), some (vI (nI dp))] [] M' else if nI b = 2 then X d jX0_runBody 127 [some (vR 0 0 0), none, some (vI x), some (vI (nI dp))] [] M' else if nI b = 3 then X d jX0_runBody 144 [some (vR 0 0 0), none, some (vI x), some (vI (nI dp))] [] M' else if nI b = 11 then X d jX0_runBody 158 [some (vR 0 0 0), none, some (vI x), some (vI (nI dp))] [] M' else if nI b = 21 then X d jX0_runBody 169 [some (vR 0 0 0), none, some (vI x), some (vI (nI dp))] [] M' else if nI b = 31 then X d jX0_runBody 179 [some (vR 0 0 0), none, some (vI x), some (vI (nI dp))] [] M' else if nI b = 41 then X d jX0_runBody 191 [some (vR 0 0 0), none, some (vI x), some (vI (nI dp))] [] M' else if nI b = 51 then X d jX0_runBody 214 [some (vR 0 0 0), none, some (vI x), some (vI (nI dp))] [] M' else if nI b = 61 then X d jX0_runBody 228 [some (vR 0 0 0), none, some (vI x), some (vI (nI dp))] [] M' else X d jX0_runBody 242 [some (vR 0 0 0), none, some (vI x), some (vI (nI dp))] [] M') ∧ AC M0 K num v (rb b t) M' := by
  obtain ⟨h1, h2, h3, h4, h5, h6⟩ := h
  have l16 : nI dp ≤ 16 := nI_le (b := 16) hdp (by omega)
  rw [E_X0_runBody, if_pos l16, B_X0_runBody_8, h2]
  by_cases c : t.1 < 20
  · have g : ¬ (20 : Int32) ≤ nI t.1 := nI_ge (b := 20) c (by omega)
    rw [if_neg g, ob_no (by omega) (by omega), cl_no (by omega)]
    try dsimp only
    rw [B_X0_runBody_27]
    try dsimp only
    refine ⟨_, rfl, (h1.tr (Df.csA ⟨rfl, rfl, Or.inr ⟨rfl, rfl⟩⟩)).tr (Df.csI ⟨rfl, rfl, Or.inl ⟨rfl, rfl⟩⟩), ?_, fun i hi => ?_, ?_, ?_, ?_⟩
    · rw [cI_same, cI_csA, h2, nI_1]; rfl
    · rw [cA_csI, cA_same]
      show _ = (if t.1 < 20 then upd t.2 t.1 (nI b) else t.2) i
      rw [if_pos c]
      by_cases e : i = t.1
      · subst e; rw [upd_same, upd_same]
      · rw [upd_ne e, upd_ne e, h3 i hi]
    · rw [cI_ne _ _ (by decide), cI_csA]; exact h4
    · rw [cI_ne _ _ (by decide), cI_csA]; exact h5
    · rw [cI_ne _ _ (by decide), cI_csA]; exact h6
  · have g : (20 : Int32) ≤ nI t.1 := nI_le (a := 20) (by omega) (by omega)
    rw [if_pos g, B_X0_runBody_27]
    try dsimp only
    refine ⟨_, rfl, h1.tr (Df.csI ⟨rfl, rfl, Or.inl ⟨rfl, rfl⟩⟩), ?_, fun i hi => ?_, ?_, ?_, ?_⟩
    · rw [cI_same, h2, nI_1]; rfl
    · rw [cA_csI]
      show _ = (if t.1 < 20 then upd t.2 t.1 (nI b) else t.2) i
      rw [if_neg c, h3 i hi]
    · rw [cI_ne _ _ (by decide)]; exact h4
    · rw [cI_ne _ _ (by decide)]; exact h5
    · rw [cI_ne _ _ (by decide)]; exact h6
