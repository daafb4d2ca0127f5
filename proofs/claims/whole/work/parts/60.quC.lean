/-! needed, load, told, at, of, critical -/
theorem in_le {x y : Int32} {n : Nat} (hn : n < 2 ^ 31) (e : y = nI n) (h : 0 ≤ x ∧ x ≤ y) : ∃ p, p ≤ n ∧ x = nI p := by
  obtain ⟨j, j1, rfl⟩ := nI_of (x := x) (fun q => absurd (Int32.lt_of_le_of_lt h.1 q) (by decide))
  subst e
  exact ⟨j, (nI_leI j1 hn).mp h.2, rfl⟩
theorem in3 {x : Int32} (h : 0 ≤ x ∧ x ≤ 3) : x = 0 ∨ x = 1 ∨ x = 2 ∨ x = 3 := by
  obtain ⟨p, hp, rfl⟩ := in_le (n := 3) (by omega) rfl h
  rcases (by omega : p = 0 ∨ p = 1 ∨ p = 2 ∨ p = 3) with rfl | rfl | rfl | rfl <;> decide
theorem in1 {x : Int32} (h : 0 ≤ x ∧ x ≤ 1) : x = 0 ∨ x = 1 := by
  obtain ⟨p, hp, rfl⟩ := in_le (n := 1) (by omega) rfl h
  rcases (by omega : p = 0 ∨ p = 1) with rfl | rfl <;> decide
theorem in2 {x : Int32} (h : 0 ≤ x ∧ x ≤ 2) : x = 0 ∨ x = 1 ∨ x = 2 := by
  obtain ⟨p, hp, rfl⟩ := in_le (n := 2) (by omega) rfl h
  rcases (by omega : p = 0 ∨ p = 1 ∨ p = 2) with rfl | rfl | rfl <;> decide
theorem in7 {x : Int32} (h : 0 ≤ x ∧ x ≤ 7) : x = 0 ∨ x = 1 ∨ x = 2 ∨ x = 3 ∨ x = 4 ∨ x = 5 ∨ x = 6 ∨ x = 7 := by
  obtain ⟨p, hp, rfl⟩ := in_le (n := 7) (by omega) rfl h
  rcases (by omega : p = 0 ∨ p = 1 ∨ p = 2 ∨ p = 3 ∨ p = 4 ∨ p = 5 ∨ p = 6 ∨ p = 7) with rfl | rfl | rfl | rfl | rfl | rfl | rfl | rfl <;> decide
theorem nn01 : ((0 : Int32) = 1) = False := by decide
theorem nn02 : ((0 : Int32) = 2) = False := by decide
theorem nn03 : ((0 : Int32) = 3) = False := by decide
theorem nn04 : ((0 : Int32) = 4) = False := by decide
theorem nn05 : ((0 : Int32) = 5) = False := by decide
theorem nn06 : ((0 : Int32) = 6) = False := by decide
theorem nn07 : ((0 : Int32) = 7) = False := by decide
theorem nn10 : ((1 : Int32) = 0) = False := by decide
theorem nn12 : ((1 : Int32) = 2) = False := by decide
theorem nn13 : ((1 : Int32) = 3) = False := by decide
theorem nn14 : ((1 : Int32) = 4) = False := by decide
theorem nn15 : ((1 : Int32) = 5) = False := by decide
theorem nn16 : ((1 : Int32) = 6) = False := by decide
theorem nn17 : ((1 : Int32) = 7) = False := by decide
theorem nn20 : ((2 : Int32) = 0) = False := by decide
theorem nn21 : ((2 : Int32) = 1) = False := by decide
theorem nn23 : ((2 : Int32) = 3) = False := by decide
theorem nn24 : ((2 : Int32) = 4) = False := by decide
theorem nn25 : ((2 : Int32) = 5) = False := by decide
theorem nn26 : ((2 : Int32) = 6) = False := by decide
theorem nn27 : ((2 : Int32) = 7) = False := by decide
theorem nn30 : ((3 : Int32) = 0) = False := by decide
theorem nn31 : ((3 : Int32) = 1) = False := by decide
theorem nn32 : ((3 : Int32) = 2) = False := by decide
theorem nn34 : ((3 : Int32) = 4) = False := by decide
theorem nn35 : ((3 : Int32) = 5) = False := by decide
theorem nn36 : ((3 : Int32) = 6) = False := by decide
theorem nn37 : ((3 : Int32) = 7) = False := by decide
theorem nn40 : ((4 : Int32) = 0) = False := by decide
theorem nn41 : ((4 : Int32) = 1) = False := by decide
theorem nn42 : ((4 : Int32) = 2) = False := by decide
theorem nn43 : ((4 : Int32) = 3) = False := by decide
theorem nn45 : ((4 : Int32) = 5) = False := by decide
theorem nn46 : ((4 : Int32) = 6) = False := by decide
theorem nn47 : ((4 : Int32) = 7) = False := by decide
theorem nn50 : ((5 : Int32) = 0) = False := by decide
theorem nn51 : ((5 : Int32) = 1) = False := by decide
theorem nn52 : ((5 : Int32) = 2) = False := by decide
theorem nn53 : ((5 : Int32) = 3) = False := by decide
theorem nn54 : ((5 : Int32) = 4) = False := by decide
theorem nn56 : ((5 : Int32) = 6) = False := by decide
theorem nn57 : ((5 : Int32) = 7) = False := by decide
theorem nn60 : ((6 : Int32) = 0) = False := by decide
theorem nn61 : ((6 : Int32) = 1) = False := by decide
theorem nn62 : ((6 : Int32) = 2) = False := by decide
theorem nn63 : ((6 : Int32) = 3) = False := by decide
theorem nn64 : ((6 : Int32) = 4) = False := by decide
theorem nn65 : ((6 : Int32) = 5) = False := by decide
theorem nn67 : ((6 : Int32) = 7) = False := by decide
theorem nn70 : ((7 : Int32) = 0) = False := by decide
theorem nn71 : ((7 : Int32) = 1) = False := by decide
theorem nn72 : ((7 : Int32) = 2) = False := by decide
theorem nn73 : ((7 : Int32) = 3) = False := by decide
theorem nn74 : ((7 : Int32) = 4) = False := by decide
theorem nn75 : ((7 : Int32) = 5) = False := by decide
theorem nn76 : ((7 : Int32) = 6) = False := by decide
def ne1 (s : St) (f : Nat → Nat) (i : Nat) (z : Option (Nat × Nat)) : Option (Nat × Nat) := if sg s i then (match z with
  | none => some (i, alS s f (wo 63 i))
  | some (w, l) => if alS s f (wo 63 i) < l then some (i, alS s f (wo 63 i)) else some (w, l)) else z
def neS (s : St) (f : Nat → Nat) : Option (Nat × Nat) := itr (ne1 s f) (nsS s) none
def neW (z : Option (Nat × Nat)) : Int32 := match z with
  | none => -5
  | some (w, _) => nI w
def neL (x : Int32) (z : Option (Nat × Nat)) : Int32 := match z with
  | none => x
  | some (_, l) => nI l
def neO (z : Option (Nat × Nat)) : Prop := match z with
  | none => True
  | some (w, l) => w < 6 ∧ l ≤ 75600
theorem ne1_ok {s : St} {f : Nat → Nat} (h6 : nsS s ≤ 6) (hf : ∀ i, i < nsS s → f i ≤ 2100) {i : Nat} (hi : i < 6) {z : Option (Nat × Nat)} (hz : neO z) : neO (ne1 s f i z) := by
  have hl := alS_le (s := s) (f := f) (wo 63 i) h6 hf
  unfold ne1
  split
  · match z, hz with
    | none, _ => exact ⟨hi, hl⟩
    | some (w, l), hz =>
      simp only
      split
      · exact ⟨hi, hl⟩
      · exact hz
  · exact hz
theorem nI_m5 {w : Nat} (h : w < 6) : ¬ nI w = -5 := fun q => absurd (q ▸ (by decide : (-5 : Int32) < 0)) (nI_pos (by omega))
theorem q_needed (d : Nat) {B : Nat} {s : St} {P : List Cl} {M : Mem} (h : QC B s P M) : Ans M s (XC (d + 20) jX5_needed [vR 5 0 0] M) (fun N => XC (d + 20) jX6_needed [vR 6 0 0] N) := by
  obtain ⟨hB, hs, hC, hH, hR⟩ := h
  obtain ⟨hn, h6⟩ := hs.ns
  obtain ⟨M1, e1, D1, F1⟩ := X1_measure (d + 14) 0 M (by omega) hs hC hH
  have hC1 := hC.sc D1
  have hS := siS_sub (s := s) h6
  have hF : ∀ i, i < nsS s → foS P s i ≤ 2100 := fun i hi => (F1 i hi).2
  refine ⟨vI (neW (neS s (foS P s))), M1, ?_, D1.mono scr_SCR, fun N hN => ?_⟩
  · rw [E_X5_needed, e1, bindV_some, X1_singing (d + 18) 0 M1 hs hC1, bindI_some]
    try dsimp only
    have L := (loop_itr (fun i (z : Option (Nat × Nat)) => X (d + 19) jX5_needed 23 [some (vR 5 0 0), some (vI (nI (siS s))), some (vI (neW z)), some (vI (neL 0 z)), some (vI (nI i)), none] [] M1) (ne1 s (foS P s)) (fun _ z => neO z) (nsS s) none trivial (fun i z hi hz => by
      refine ⟨?_, ne1_ok h6 hF (by omega) hz⟩
      try dsimp only
      have hi6 : i < 6 := by omega
      have hl := alS_le (s := s) (f := foS P s) (wo 63 i) h6 hF
      rw [B_X5_needed_23, hC1.c0, hn, ge_no hi (by omega), X5_hasBit _ _ hS.1 hi6, bindI_some]
      try dsimp only
      by_cases c : sg s i
      · rw [if_pos ((siS_i hi).mpr c), ne_10, wo_p hS.1 hi6, X1_allOf (d + 15) 0 M1 hs hC1 F1 (hS.wo hi6), bindI_some, alS_wo h6 _ hi6]
        try dsimp only
        unfold ne1
        rw [if_pos c]
        match z, hz with
        | none, _ =>
          rw [show neW none = -5 from rfl, if_pos rfl, B_X5_needed_73, B_X5_needed_79, nI_1]
          rfl
        | some (w, l), hz =>
          have hz1 : w < 6 := hz.1
          have hz2 : l ≤ 75600 := hz.2
          have n5 : ¬ neW (some (w, l)) = -5 := nI_m5 hz1
          have el : neL 0 (some (w, l)) = nI l := rfl
          rw [if_neg n5, el]
          by_cases q : alS s (foS P s) (wo 63 i) < l
          · have q1 : ¬ nI l ≤ nI (alS s (foS P s) (wo 63 i)) := nI_ge q (by omega)
            simp only [if_neg q1, if_pos q]
            rw [B_X5_needed_73, B_X5_needed_79, nI_1]
            rfl
          · have q1 : nI l ≤ nI (alS s (foS P s) (wo 63 i)) := nI_le (by omega) (by omega)
            simp only [if_pos q1, if_neg q]
            rw [B_X5_needed_79, nI_1]
            rfl
      · rw [if_neg (fun q => c ((siS_i hi).mp q)), eq_00, B_X5_needed_79, nI_1]
        unfold ne1
        rw [if_neg c]) (nsS s) (Nat.le_refl _)).1
    refine Eq.trans L ?_
    try dsimp only
    rw [B_X5_needed_23, hC1.c0, hn, le_self, B_X5_needed_85]
    rfl
  · obtain ⟨N', e, D, F⟩ := X6_looksForForces (d + 15) N (by omega) hs hN hR
    have hA' := D.s2.trans hN
    refine ⟨N', ?_, D.sc⟩
    try dsimp only
    rw [E_X6_needed, e, bindV_some]
    have L := (loop_itr (fun i (z : Option (Nat × Nat)) => X (d + 19) jX6_needed 12 [some (vR 6 0 0), some (vI (neL 100000000 z)), some (vI (neW z)), some (vI (nI i)), none] [] N') (ne1 s (foS P s)) (fun _ z => neO z) (nsS s) none trivial (fun i z hi hz => by
      refine ⟨?_, ne1_ok h6 hF (by omega) hz⟩
      try dsimp only
      have hi6 : i < 6 := by omega
      have hl := alS_le (s := s) (f := foS P s) (wo 63 i) h6 hF
      have a8 : (100000000 : Int32) = nI 100000000 := rfl
      rw [B_X6_needed_12, hA', hn, ge_no hi (by omega), X6_doesSing _ _ hA' hi6, bindI_some]
      try dsimp only
      have fin : ∀ (x y z2 : Int32), z2 = x → X (d + 19) jX6_needed 48 [some (vR 6 0 0), some (vI x), some (vI y), some (vI (nI i)), none] [vI z2] N' = X (d + 19) jX6_needed 12 [some (vR 6 0 0), some (vI x), some (vI y), some (vI (nI (i + 1))), none] [] N' := fun x y z2 hx => by
        subst hx
        rw [B_X6_needed_48, le_self, B_X6_needed_60, B_X6_needed_61, le_self, B_X6_needed_73, B_X6_needed_74, nI_1]
      by_cases c : sg s i
      · rw [if_pos c, ne_10, wo_63 hi6, X6_allBy (d + 14) N' hs hA' F (wo_lt (by decide) hi6), bindI_some]
        try dsimp only
        unfold ne1
        rw [if_pos c]
        match z, hz with
        | none, _ =>
          have q1 : ¬ neL 100000000 none ≤ nI (alS s (foS P s) (wo 63 i)) := nI_ge (b := 100000000) (by omega) (by omega)
          rw [B_X6_needed_48, if_neg q1, B_X6_needed_61, if_neg q1, B_X6_needed_74, nI_1]
          rfl
        | some (w, l), hz =>
          have hz1 : w < 6 := hz.1
          have hz2 : l ≤ 75600 := hz.2
          have el : neL 100000000 (some (w, l)) = nI l := rfl
          rw [el]
          by_cases q : alS s (foS P s) (wo 63 i) < l
          · have q1 : ¬ nI l ≤ nI (alS s (foS P s) (wo 63 i)) := nI_ge q (by omega)
            rw [B_X6_needed_48, if_neg q1, B_X6_needed_61, if_neg q1, B_X6_needed_74, nI_1]
            simp only [if_pos q]
            rfl
          · have q1 : nI l ≤ nI (alS s (foS P s) (wo 63 i)) := nI_le (by omega) (by omega)
            rw [B_X6_needed_48, if_pos q1, B_X6_needed_60, B_X6_needed_61, if_pos q1, B_X6_needed_73, B_X6_needed_74, nI_1]
            simp only [if_neg q]
            rfl
      · rw [if_neg c, eq_00, B_X6_needed_46]
        unfold ne1
        rw [if_neg c]
        match z, hz with
        | none, _ => exact fin _ _ _ rfl
        | some (w, l), hz =>
          have hz2 : l ≤ 75600 := hz.2
          have el : neL 100000000 (some (w, l)) = nI l := rfl
          have q1 : nI l ≤ 100000000 := nI_le (b := 100000000) (by omega) (by omega)
          rw [el, B_X6_needed_48, if_pos q1, B_X6_needed_60, B_X6_needed_61, if_pos q1, B_X6_needed_73, B_X6_needed_74, nI_1]) (nsS s) (Nat.le_refl _)).1
    refine Eq.trans L ?_
    try dsimp only
    rw [B_X6_needed_12, hA', hn, le_self, B_X6_needed_81]
    rfl
theorem q_load (d : Nat) {B : Nat} {s : St} {P : List Cl} {M : Mem} (h : QC B s P M) : Ans M s (XC (d + 20) jX5_load [vR 5 0 0] M) (fun N => XC (d + 20) jX6_load [vR 6 0 0] N) := by
  obtain ⟨hB, hs, hC, hH, hR⟩ := h
  obtain ⟨M1, e1, D1, F1⟩ := X1_allNow (d + 13) 0 M (by omega) hs hC hH
  refine ⟨vI (nI (haS s) - nI (nowS P s)), M1, ?_, D1.mono scr_SCR, fun N hN => ?_⟩
  · rw [E_X5_load, X1_sumHanging (d + 17) 0 M hs hC, bindI_some]
    try dsimp only
    rw [e1, bindI_some]
  · obtain ⟨N', e, D, F⟩ := X6_allNow (d + 13) N (by omega) hs hN hR
    refine ⟨N', ?_, D.sc⟩
    try dsimp only
    rw [E_X6_load, X6_hangingWeight (d + 17) N hs hN, bindI_some]
    try dsimp only
    rw [e, bindI_some]
theorem Wf.now {B : Nat} (hB : B < 2 ^ 30) {s : St} (hs : Wf B s) {P : List Cl} (hP : WfP P) : nowS P s ≤ 75600 := nowS_le hB hs hP 63
theorem q_told (d : Nat) (x : Int32) {B : Nat} {s : St} {P : List Cl} {M : Mem} (h : QC B s P M) : Ans M s (XC (d + 20) jX5_told [vR 5 0 0, vI x] M) (fun N => XC (d + 20) jX6_told [vR 6 0 0, vI x] N) := by
  obtain ⟨hB, hs, hC, hH, hR⟩ := h
  have hw := hs.now (by omega) hH.2.2
  have now : ∃ M1, XC (d + 19) jX1_allNow [vR 1 0 0] M = some (some (vI (nI (nowS P s))), M1) ∧ Df SCR M M1 ∧ Ch M1 0 s := by
    obtain ⟨M1, e1, D1, F1⟩ := X1_allNow (d + 13) 0 M (by omega) hs hC hH
    exact ⟨M1, e1, D1.mono scr_SCR, hC.sc D1⟩
  have nowR : ∀ N, rA N 2 = s → ∃ N', XC (d + 19) jX6_allNow [vR 6 0 0] N = some (some (vI (nI (nowS P s))), N') ∧ RQ N N' ∧ rA N' 2 = s := fun N hN => by
    obtain ⟨N', e, D, F⟩ := X6_allNow (d + 13) N (by omega) hs hN hR
    exact ⟨N', e, D.sc, D.s2.trans hN⟩
  rw [E_X5_told]
  simp only [E_X6_told]
  by_cases c0 : x = 0
  · subst c0
    refine Ans.pure (vI (s 0)) ?_ (fun N hN => ?_)
    · rw [if_pos rfl, B_X5_told_40, hC.c2]
    · rw [if_pos rfl, B_X6_told_40, hN]
  simp only [if_neg c0]
  by_cases c1 : x = 1
  · subst c1
    refine Ans.pure (vI (nI (eaP P))) ?_ (fun N hN => ?_)
    · rw [if_pos rfl, B_X5_told_48, if_pos hH.1, hH.2.1.2.1]
    · rw [if_pos rfl, B_X6_told_47, X6_ease (d + 18) N hN hR, bindI_some]
  simp only [if_neg c1]
  by_cases c2 : x = 2
  · subst c2
    refine Ans.pure (vI (nI (weP P))) ?_ (fun N hN => ?_)
    · rw [if_pos rfl, B_X5_told_59, if_pos hH.1, hH.2.1.2.2.1]
    · rw [if_pos rfl, B_X6_told_56, X6_weary (d + 18) N hN hR, bindI_some]
  simp only [if_neg c2]
  by_cases c3 : x = 3
  · subst c3
    obtain ⟨M1, e1, D1, h1⟩ := now
    refine ⟨vI (nI (nowS P s)), M1, ?_, D1, fun N hN => ?_⟩
    · rw [if_pos rfl, B_X5_told_70, e1, bindI_some]
    · obtain ⟨N', e, D, _⟩ := nowR N hN
      refine ⟨N', ?_, D⟩
      try dsimp only
      rw [if_pos rfl, B_X6_told_65, e, bindI_some]
  simp only [if_neg c3]
  by_cases c4 : x = 4
  · subst c4
    obtain ⟨M1, e1, D1, h1⟩ := now
    refine ⟨vI (nI (loS s (nowS P s)).1), M1, ?_, D1, fun N hN => ?_⟩
    · rw [if_pos rfl, B_X5_told_78, e1, bindI_some]
      try dsimp only
      rw [X1_looseBits (d + 17) 0 (by omega) M1 hs h1, bindI_some]
    · obtain ⟨N', e, D, hA⟩ := nowR N hN
      refine ⟨N', ?_, D⟩
      try dsimp only
      rw [if_pos rfl, B_X6_told_70, e, bindI_some]
      try dsimp only
      rw [X6_looseBy (d + 17) (by omega) N' hs hA, bindI_some]
  simp only [if_neg c4]
  by_cases c5 : x = 5
  · subst c5
    refine Ans.pure (vI (nI (faS s))) ?_ (fun N hN => ?_)
    · rw [if_pos rfl, B_X5_told_93, X1_countFallen (d + 18) 0 M hs hC, bindI_some]
    · rw [if_pos rfl, B_X6_told_79, X6_fallenMany (d + 18) N hs hN, bindI_some]
  · refine Ans.pure (vI (-1)) ?_ (fun N hN => ?_)
    · rw [if_neg c5, B_X5_told_101]
    · rw [if_neg c5, B_X6_told_84]
theorem q_at (d : Nat) (x y : Int32) {B : Nat} {s : St} {P : List Cl} {M : Mem} (h : QC B s P M) : Ans M s (XC (d + 20) jX5_at [vR 5 0 0, vI x, vI y] M) (fun N => XC (d + 20) jX6_at [vR 6 0 0, vI x, vI y] N) := by
  obtain ⟨hB, hs, hC, hH, hR⟩ := h
  obtain ⟨hn, h6⟩ := hs.nt
  have hw := hs.now (by omega) hH.2.2
  by_cases a : isSt s x
  · obtain ⟨p, hp, rfl⟩ := a.num hs
    have cls : XC (d + 20) jX5_at [vR 5 0 0, vI (nI p), vI y] M = X (d + 19) jX5_at 10 [some (vR 5 0 0), some (vI (nI p)), some (vI y)] [] M := by
      rw [E_X5_at, X5_isStone (d + 18) hC, bindI_some, if_pos a, ne_10]
    rw [cls]
    by_cases b : 0 ≤ y ∧ y ≤ 3
    · have ref : ∀ N, rA N 2 = s → XC (d + 20) jX6_at [vR 6 0 0, vI (nI p), vI y] N = X (d + 19) jX6_at 19 [some (vR 6 0 0), some (vI (nI p)), some (vI y)] [] N := fun N hN => by
        rw [E_X6_at, X6_isStone (d + 17) hs hN, bindI_some, if_pos a, ne_10, X6_in, bindI_some, if_pos b, ne_10]
      rcases in3 b with rfl | rfl | rfl | rfl
      · refine Ans.pure (vI (s (69 + p))) ?_ (fun N hN => ?_)
        · simp (disch := omega) only [B_X5_at_10, B_X5_at_40, B_X5_at_50, B_X5_at_60, B_X5_at_70, B_X5_at_89, ge_no, ob_no, ob_n2, cl_no, nI_1, le_self, zo_0, zo_1, bindI_some, bindV_some, bindL_some, ite_true, ite_false, if_true, if_false, or_true, true_or, nn01, nn02, nn03, nn04, nn05, nn06, nn07, nn10, nn12, nn13, nn14, nn15, nn16, nn17, nn20, nn21, nn23, nn24, nn25, nn26, nn27, nn30, nn31, nn32, nn34, nn35, nn36, nn37, nn40, nn41, nn42, nn43, nn45, nn46, nn47, nn50, nn51, nn52, nn53, nn54, nn56, nn57, nn60, nn61, nn62, nn63, nn64, nn65, nn67, nn70, nn71, nn72, nn73, nn74, nn75, nn76, hC.a11]
        · rw [ref N hN]
          simp (disch := omega) only [B_X6_at_17, B_X6_at_19, B_X6_at_35, B_X6_at_52, B_X6_at_69, B_X6_at_81, ge_no, ob_no, ob_n2, cl_no, nI_1, le_self, zo_0, zo_1, bindI_some, bindV_some, bindL_some, ite_true, ite_false, if_true, if_false, or_true, true_or, nn01, nn02, nn03, nn04, nn05, nn06, nn07, nn10, nn12, nn13, nn14, nn15, nn16, nn17, nn20, nn21, nn23, nn24, nn25, nn26, nn27, nn30, nn31, nn32, nn34, nn35, nn36, nn37, nn40, nn41, nn42, nn43, nn45, nn46, nn47, nn50, nn51, nn52, nn53, nn54, nn56, nn57, nn60, nn61, nn62, nn63, nn64, nn65, nn67, nn70, nn71, nn72, nn73, nn74, nn75, nn76, la1, la7, la13, la27, la33, la39, la45, la69, la75, la81, la87, la93, la101, la109, la117, la125, la225, la230, la235, la240, hN]
      · refine Ans.pure (vI (s (75 + p))) ?_ (fun N hN => ?_)
        · simp (disch := omega) only [B_X5_at_10, B_X5_at_40, B_X5_at_50, B_X5_at_60, B_X5_at_70, B_X5_at_89, ge_no, ob_no, ob_n2, cl_no, nI_1, le_self, zo_0, zo_1, bindI_some, bindV_some, bindL_some, ite_true, ite_false, if_true, if_false, or_true, true_or, nn01, nn02, nn03, nn04, nn05, nn06, nn07, nn10, nn12, nn13, nn14, nn15, nn16, nn17, nn20, nn21, nn23, nn24, nn25, nn26, nn27, nn30, nn31, nn32, nn34, nn35, nn36, nn37, nn40, nn41, nn42, nn43, nn45, nn46, nn47, nn50, nn51, nn52, nn53, nn54, nn56, nn57, nn60, nn61, nn62, nn63, nn64, nn65, nn67, nn70, nn71, nn72, nn73, nn74, nn75, nn76, hC.a12]
        · rw [ref N hN]
          simp (disch := omega) only [B_X6_at_17, B_X6_at_19, B_X6_at_35, B_X6_at_52, B_X6_at_69, B_X6_at_81, ge_no, ob_no, ob_n2, cl_no, nI_1, le_self, zo_0, zo_1, bindI_some, bindV_some, bindL_some, ite_true, ite_false, if_true, if_false, or_true, true_or, nn01, nn02, nn03, nn04, nn05, nn06, nn07, nn10, nn12, nn13, nn14, nn15, nn16, nn17, nn20, nn21, nn23, nn24, nn25, nn26, nn27, nn30, nn31, nn32, nn34, nn35, nn36, nn37, nn40, nn41, nn42, nn43, nn45, nn46, nn47, nn50, nn51, nn52, nn53, nn54, nn56, nn57, nn60, nn61, nn62, nn63, nn64, nn65, nn67, nn70, nn71, nn72, nn73, nn74, nn75, nn76, la1, la7, la13, la27, la33, la39, la45, la69, la75, la81, la87, la93, la101, la109, la117, la125, la225, la230, la235, la240, hN]
      · refine Ans.pure (vI (s (13 + p))) ?_ (fun N hN => ?_)
        · simp (disch := omega) only [B_X5_at_10, B_X5_at_40, B_X5_at_50, B_X5_at_60, B_X5_at_70, B_X5_at_89, ge_no, ob_no, ob_n2, cl_no, nI_1, le_self, zo_0, zo_1, bindI_some, bindV_some, bindL_some, ite_true, ite_false, if_true, if_false, or_true, true_or, nn01, nn02, nn03, nn04, nn05, nn06, nn07, nn10, nn12, nn13, nn14, nn15, nn16, nn17, nn20, nn21, nn23, nn24, nn25, nn26, nn27, nn30, nn31, nn32, nn34, nn35, nn36, nn37, nn40, nn41, nn42, nn43, nn45, nn46, nn47, nn50, nn51, nn52, nn53, nn54, nn56, nn57, nn60, nn61, nn62, nn63, nn64, nn65, nn67, nn70, nn71, nn72, nn73, nn74, nn75, nn76, hC.a13]
        · rw [ref N hN]
          simp (disch := omega) only [B_X6_at_17, B_X6_at_19, B_X6_at_35, B_X6_at_52, B_X6_at_69, B_X6_at_81, ge_no, ob_no, ob_n2, cl_no, nI_1, le_self, zo_0, zo_1, bindI_some, bindV_some, bindL_some, ite_true, ite_false, if_true, if_false, or_true, true_or, nn01, nn02, nn03, nn04, nn05, nn06, nn07, nn10, nn12, nn13, nn14, nn15, nn16, nn17, nn20, nn21, nn23, nn24, nn25, nn26, nn27, nn30, nn31, nn32, nn34, nn35, nn36, nn37, nn40, nn41, nn42, nn43, nn45, nn46, nn47, nn50, nn51, nn52, nn53, nn54, nn56, nn57, nn60, nn61, nn62, nn63, nn64, nn65, nn67, nn70, nn71, nn72, nn73, nn74, nn75, nn76, la1, la7, la13, la27, la33, la39, la45, la69, la75, la81, la87, la93, la101, la109, la117, la125, la225, la230, la235, la240, hN]
      · obtain ⟨M1, e1, D1, F1⟩ := X1_allNow (d + 13) 0 M (by omega) hs hC hH
        refine ⟨vI ((nI (loS s (nowS P s)).1 >>> (nI p &&& 31)) &&& 1), M1, ?_, D1.mono scr_SCR, fun N hN => ?_⟩
        · simp (disch := omega) only [B_X5_at_10, B_X5_at_40, B_X5_at_50, B_X5_at_60, B_X5_at_70, B_X5_at_89, ge_no, ob_no, ob_n2, cl_no, nI_1, le_self, zo_0, zo_1, bindI_some, bindV_some, bindL_some, ite_true, ite_false, if_true, if_false, or_true, true_or, nn01, nn02, nn03, nn04, nn05, nn06, nn07, nn10, nn12, nn13, nn14, nn15, nn16, nn17, nn20, nn21, nn23, nn24, nn25, nn26, nn27, nn30, nn31, nn32, nn34, nn35, nn36, nn37, nn40, nn41, nn42, nn43, nn45, nn46, nn47, nn50, nn51, nn52, nn53, nn54, nn56, nn57, nn60, nn61, nn62, nn63, nn64, nn65, nn67, nn70, nn71, nn72, nn73, nn74, nn75, nn76, e1, X1_looseBits (d + 17) 0 (show nowS P s < 2 ^ 31 by omega) M1 hs (hC.sc D1)]
        · obtain ⟨N', e, D, F⟩ := X6_allNow (d + 13) N (by omega) hs hN hR
          refine ⟨N', ?_, D.sc⟩
          try dsimp only
          rw [ref N hN]
          simp (disch := omega) only [B_X6_at_17, B_X6_at_19, B_X6_at_35, B_X6_at_52, B_X6_at_69, B_X6_at_81, ge_no, ob_no, ob_n2, cl_no, nI_1, le_self, zo_0, zo_1, bindI_some, bindV_some, bindL_some, ite_true, ite_false, if_true, if_false, or_true, true_or, nn01, nn02, nn03, nn04, nn05, nn06, nn07, nn10, nn12, nn13, nn14, nn15, nn16, nn17, nn20, nn21, nn23, nn24, nn25, nn26, nn27, nn30, nn31, nn32, nn34, nn35, nn36, nn37, nn40, nn41, nn42, nn43, nn45, nn46, nn47, nn50, nn51, nn52, nn53, nn54, nn56, nn57, nn60, nn61, nn62, nn63, nn64, nn65, nn67, nn70, nn71, nn72, nn73, nn74, nn75, nn76, e, X6_looseBy (d + 17) (show nowS P s < 2 ^ 31 by omega) N' hs (D.s2.trans hN)]
    · have ny : ∀ k : Int32, 0 ≤ k → k ≤ 3 → ¬ y = k := fun k h1 h2 q => b (q ▸ ⟨h1, h2⟩)
      refine Ans.pure (vI (-1)) ?_ (fun N hN => ?_)
      · rw [B_X5_at_10, if_neg (ny 0 (by decide) (by decide)), if_neg (ny 1 (by decide) (by decide)), if_neg (ny 2 (by decide) (by decide)), if_neg (ny 3 (by decide) (by decide)), B_X5_at_89]
      · rw [E_X6_at, X6_isStone (d + 17) hs hN, bindI_some, if_pos a, ne_10, X6_in, bindI_some, if_neg b, eq_00, B_X6_at_17]
  · refine Ans.pure (vI (-1)) ?_ (fun N hN => ?_)
    · rw [E_X5_at, X5_isStone (d + 18) hC, bindI_some, if_neg a, eq_00]
    · rw [E_X6_at, X6_isStone (d + 17) hs hN, bindI_some, if_neg a, eq_00, B_X6_at_17]
theorem beS_63 {s : St} {f : Nat → Nat} {p : Nat} (h : p < nsS s) (h6 : nsS s ≤ 6) : beS s f (siS s) p = beS s f 63 p := beS_cg (fun q hq hs => ⟨fun _ => bt_63 (by omega), fun _ => (siS_bt s q).mpr ⟨hq, hs⟩⟩) h rfl
theorem paS_63 {s : St} {p : Nat} (h6 : nsS s ≤ 6) : paS s (siS s) p = paS s 63 p := paS_cg (fun q hq hs => ⟨fun _ => bt_63 (by omega), fun _ => (siS_bt s q).mpr ⟨hq, hs⟩⟩) p
theorem q_of (d : Nat) (x y : Int32) {B : Nat} {s : St} {P : List Cl} {M : Mem} (h : QC B s P M) : Ans M s (XC (d + 20) jX5_of [vR 5 0 0, vI x, vI y] M) (fun N => XC (d + 20) jX6_of [vR 6 0 0, vI x, vI y] N) := by
  obtain ⟨hB, hs, hC, hH, hR⟩ := h
  obtain ⟨hn, h6⟩ := hs.ns
  by_cases a : isSg s x
  · obtain ⟨p, hp, rfl⟩ := a.num hs
    obtain ⟨M1, e1, D1, F1⟩ := X1_measure (d + 14) 0 M (by omega) hs hC hH
    have hC1 := hC.sc D1
    have hS := siS_sub (s := s) h6
    have cls : XC (d + 20) jX5_of [vR 5 0 0, vI (nI p), vI y] M = X (d + 19) jX5_of 28 [some (vR 5 0 0), some (vI (nI p)), some (vI y), none] [vI (if sg s p then 1 else 0)] M := by
      rw [E_X5_of, X5_isSinger (d + 18) hC, bindI_some, if_pos a, ne_10, B_X5_of_10, ob_no (by omega) (by omega), cl_no (by omega), hC.a8 (by omega)]
      by_cases c : s (1 + p) = -1
      · rw [if_pos c, if_neg (fun q => q c), B_X5_of_27]
      · rw [if_neg c, if_pos c]
    have go : ∀ v, (∀ N, rA N 2 = s → ∃ N', X (d + 19) jX6_of 20 [some (vR 6 0 0), some (vI (nI p)), some (vI y)] [] N = some (some v, N') ∧ RQ N N') → 0 ≤ y ∧ y ≤ 7 → X (d + 19) jX5_of 28 [some (vR 5 0 0), some (vI (nI p)), some (vI y), none] [vI (if sg s p then 1 else 0)] M = some (some v, M1) → Ans M s (XC (d + 20) jX5_of [vR 5 0 0, vI (nI p), vI y] M) (fun N => XC (d + 20) jX6_of [vR 6 0 0, vI (nI p), vI y] N) := fun v h1 b h2 => by
      refine ⟨v, M1, cls.trans h2, D1.mono scr_SCR, fun N hN => ?_⟩
      obtain ⟨N', e, D⟩ := h1 N hN
      refine ⟨N', ?_, D⟩
      try dsimp only
      rw [E_X6_of, X6_isSinger (d + 17) hs hN, bindI_some, if_pos a, ne_10, X6_in, bindI_some, if_pos b, ne_10, e]
    by_cases b : 0 ≤ y ∧ y ≤ 7
    · rcases in7 b with rfl | rfl | rfl | rfl | rfl | rfl | rfl | rfl
      · refine go (vI (s (27 + p))) (fun N hN => ⟨N, ?_, RQ.rf⟩) b ?_
        · simp (disch := omega) only [B_X6_of_18, B_X6_of_20, B_X6_of_64, B_X6_of_74, B_X6_of_84, B_X6_of_94, B_X6_of_113, B_X6_of_115, B_X6_of_116, B_X6_of_126, B_X6_of_132, B_X6_of_144, B_X6_of_162, B_X6_of_163, ge_no, ob_no, ob_n2, cl_no, nI_1, le_self, zo_0, zo_1, bindI_some, bindV_some, bindL_some, ite_true, ite_false, if_true, if_false, or_true, true_or, nn01, nn02, nn03, nn04, nn05, nn06, nn07, nn10, nn12, nn13, nn14, nn15, nn16, nn17, nn20, nn21, nn23, nn24, nn25, nn26, nn27, nn30, nn31, nn32, nn34, nn35, nn36, nn37, nn40, nn41, nn42, nn43, nn45, nn46, nn47, nn50, nn51, nn52, nn53, nn54, nn56, nn57, nn60, nn61, nn62, nn63, nn64, nn65, nn67, nn70, nn71, nn72, nn73, nn74, nn75, nn76, la1, la7, la13, la27, la33, la39, la45, la69, la75, la81, la87, la93, la101, la109, la117, la125, la225, la230, la235, la240, hN]
        · simp (disch := omega) only [B_X5_of_10, B_X5_of_27, B_X5_of_28, B_X5_of_84, B_X5_of_94, B_X5_of_104, B_X5_of_114, B_X5_of_130, B_X5_of_132, B_X5_of_133, B_X5_of_143, B_X5_of_153, B_X5_of_175, B_X5_of_176, B_X5_of_177, B_X5_of_199, B_X5_of_200, B_X5_of_201, ge_no, ob_no, ob_n2, cl_no, nI_1, le_self, zo_0, zo_1, bindI_some, bindV_some, bindL_some, ite_true, ite_false, if_true, if_false, or_true, true_or, nn01, nn02, nn03, nn04, nn05, nn06, nn07, nn10, nn12, nn13, nn14, nn15, nn16, nn17, nn20, nn21, nn23, nn24, nn25, nn26, nn27, nn30, nn31, nn32, nn34, nn35, nn36, nn37, nn40, nn41, nn42, nn43, nn45, nn46, nn47, nn50, nn51, nn52, nn53, nn54, nn56, nn57, nn60, nn61, nn62, nn63, nn64, nn65, nn67, nn70, nn71, nn72, nn73, nn74, nn75, nn76, e1, hC1.a5]
      · refine go (vI (s (33 + p))) (fun N hN => ⟨N, ?_, RQ.rf⟩) b ?_
        · simp (disch := omega) only [B_X6_of_18, B_X6_of_20, B_X6_of_64, B_X6_of_74, B_X6_of_84, B_X6_of_94, B_X6_of_113, B_X6_of_115, B_X6_of_116, B_X6_of_126, B_X6_of_132, B_X6_of_144, B_X6_of_162, B_X6_of_163, ge_no, ob_no, ob_n2, cl_no, nI_1, le_self, zo_0, zo_1, bindI_some, bindV_some, bindL_some, ite_true, ite_false, if_true, if_false, or_true, true_or, nn01, nn02, nn03, nn04, nn05, nn06, nn07, nn10, nn12, nn13, nn14, nn15, nn16, nn17, nn20, nn21, nn23, nn24, nn25, nn26, nn27, nn30, nn31, nn32, nn34, nn35, nn36, nn37, nn40, nn41, nn42, nn43, nn45, nn46, nn47, nn50, nn51, nn52, nn53, nn54, nn56, nn57, nn60, nn61, nn62, nn63, nn64, nn65, nn67, nn70, nn71, nn72, nn73, nn74, nn75, nn76, la1, la7, la13, la27, la33, la39, la45, la69, la75, la81, la87, la93, la101, la109, la117, la125, la225, la230, la235, la240, hN]
        · simp (disch := omega) only [B_X5_of_10, B_X5_of_27, B_X5_of_28, B_X5_of_84, B_X5_of_94, B_X5_of_104, B_X5_of_114, B_X5_of_130, B_X5_of_132, B_X5_of_133, B_X5_of_143, B_X5_of_153, B_X5_of_175, B_X5_of_176, B_X5_of_177, B_X5_of_199, B_X5_of_200, B_X5_of_201, ge_no, ob_no, ob_n2, cl_no, nI_1, le_self, zo_0, zo_1, bindI_some, bindV_some, bindL_some, ite_true, ite_false, if_true, if_false, or_true, true_or, nn01, nn02, nn03, nn04, nn05, nn06, nn07, nn10, nn12, nn13, nn14, nn15, nn16, nn17, nn20, nn21, nn23, nn24, nn25, nn26, nn27, nn30, nn31, nn32, nn34, nn35, nn36, nn37, nn40, nn41, nn42, nn43, nn45, nn46, nn47, nn50, nn51, nn52, nn53, nn54, nn56, nn57, nn60, nn61, nn62, nn63, nn64, nn65, nn67, nn70, nn71, nn72, nn73, nn74, nn75, nn76, e1, hC1.a6]
      · refine go (vI (s (39 + p))) (fun N hN => ⟨N, ?_, RQ.rf⟩) b ?_
        · simp (disch := omega) only [B_X6_of_18, B_X6_of_20, B_X6_of_64, B_X6_of_74, B_X6_of_84, B_X6_of_94, B_X6_of_113, B_X6_of_115, B_X6_of_116, B_X6_of_126, B_X6_of_132, B_X6_of_144, B_X6_of_162, B_X6_of_163, ge_no, ob_no, ob_n2, cl_no, nI_1, le_self, zo_0, zo_1, bindI_some, bindV_some, bindL_some, ite_true, ite_false, if_true, if_false, or_true, true_or, nn01, nn02, nn03, nn04, nn05, nn06, nn07, nn10, nn12, nn13, nn14, nn15, nn16, nn17, nn20, nn21, nn23, nn24, nn25, nn26, nn27, nn30, nn31, nn32, nn34, nn35, nn36, nn37, nn40, nn41, nn42, nn43, nn45, nn46, nn47, nn50, nn51, nn52, nn53, nn54, nn56, nn57, nn60, nn61, nn62, nn63, nn64, nn65, nn67, nn70, nn71, nn72, nn73, nn74, nn75, nn76, la1, la7, la13, la27, la33, la39, la45, la69, la75, la81, la87, la93, la101, la109, la117, la125, la225, la230, la235, la240, hN]
        · simp (disch := omega) only [B_X5_of_10, B_X5_of_27, B_X5_of_28, B_X5_of_84, B_X5_of_94, B_X5_of_104, B_X5_of_114, B_X5_of_130, B_X5_of_132, B_X5_of_133, B_X5_of_143, B_X5_of_153, B_X5_of_175, B_X5_of_176, B_X5_of_177, B_X5_of_199, B_X5_of_200, B_X5_of_201, ge_no, ob_no, ob_n2, cl_no, nI_1, le_self, zo_0, zo_1, bindI_some, bindV_some, bindL_some, ite_true, ite_false, if_true, if_false, or_true, true_or, nn01, nn02, nn03, nn04, nn05, nn06, nn07, nn10, nn12, nn13, nn14, nn15, nn16, nn17, nn20, nn21, nn23, nn24, nn25, nn26, nn27, nn30, nn31, nn32, nn34, nn35, nn36, nn37, nn40, nn41, nn42, nn43, nn45, nn46, nn47, nn50, nn51, nn52, nn53, nn54, nn56, nn57, nn60, nn61, nn62, nn63, nn64, nn65, nn67, nn70, nn71, nn72, nn73, nn74, nn75, nn76, e1, hC1.a7]
      · refine go (vI (if sg s p then s (1 + p) else -5)) (fun N hN => ⟨N, ?_, RQ.rf⟩) b ?_
        · simp (disch := omega) only [B_X6_of_18, B_X6_of_20, B_X6_of_64, B_X6_of_74, B_X6_of_84, B_X6_of_94, B_X6_of_113, B_X6_of_115, B_X6_of_116, B_X6_of_126, B_X6_of_132, B_X6_of_144, B_X6_of_162, B_X6_of_163, ge_no, ob_no, ob_n2, cl_no, nI_1, le_self, zo_0, zo_1, bindI_some, bindV_some, bindL_some, ite_true, ite_false, if_true, if_false, or_true, true_or, nn01, nn02, nn03, nn04, nn05, nn06, nn07, nn10, nn12, nn13, nn14, nn15, nn16, nn17, nn20, nn21, nn23, nn24, nn25, nn26, nn27, nn30, nn31, nn32, nn34, nn35, nn36, nn37, nn40, nn41, nn42, nn43, nn45, nn46, nn47, nn50, nn51, nn52, nn53, nn54, nn56, nn57, nn60, nn61, nn62, nn63, nn64, nn65, nn67, nn70, nn71, nn72, nn73, nn74, nn75, nn76, la1, la7, la13, la27, la33, la39, la45, la69, la75, la81, la87, la93, la101, la109, la117, la125, la225, la230, la235, la240, hN, X6_doesSing _ _ hN, i10]
          by_cases c : sg s p
          · rw [if_pos c, if_neg (fun q => q c)]
          · rw [if_neg c, if_pos c]
        · simp (disch := omega) only [B_X5_of_10, B_X5_of_27, B_X5_of_28, B_X5_of_84, B_X5_of_94, B_X5_of_104, B_X5_of_114, B_X5_of_130, B_X5_of_132, B_X5_of_133, B_X5_of_143, B_X5_of_153, B_X5_of_175, B_X5_of_176, B_X5_of_177, B_X5_of_199, B_X5_of_200, B_X5_of_201, ge_no, ob_no, ob_n2, cl_no, nI_1, le_self, zo_0, zo_1, bindI_some, bindV_some, bindL_some, ite_true, ite_false, if_true, if_false, or_true, true_or, nn01, nn02, nn03, nn04, nn05, nn06, nn07, nn10, nn12, nn13, nn14, nn15, nn16, nn17, nn20, nn21, nn23, nn24, nn25, nn26, nn27, nn30, nn31, nn32, nn34, nn35, nn36, nn37, nn40, nn41, nn42, nn43, nn45, nn46, nn47, nn50, nn51, nn52, nn53, nn54, nn56, nn57, nn60, nn61, nn62, nn63, nn64, nn65, nn67, nn70, nn71, nn72, nn73, nn74, nn75, nn76, e1, hC1.a8, i10]
          by_cases c : sg s p
          · rw [if_pos c, if_neg (fun q => q c)]
          · rw [if_neg c, if_pos c]
      · refine go (vI (s (7 + p))) (fun N hN => ⟨N, ?_, RQ.rf⟩) b ?_
        · simp (disch := omega) only [B_X6_of_18, B_X6_of_20, B_X6_of_64, B_X6_of_74, B_X6_of_84, B_X6_of_94, B_X6_of_113, B_X6_of_115, B_X6_of_116, B_X6_of_126, B_X6_of_132, B_X6_of_144, B_X6_of_162, B_X6_of_163, ge_no, ob_no, ob_n2, cl_no, nI_1, le_self, zo_0, zo_1, bindI_some, bindV_some, bindL_some, ite_true, ite_false, if_true, if_false, or_true, true_or, nn01, nn02, nn03, nn04, nn05, nn06, nn07, nn10, nn12, nn13, nn14, nn15, nn16, nn17, nn20, nn21, nn23, nn24, nn25, nn26, nn27, nn30, nn31, nn32, nn34, nn35, nn36, nn37, nn40, nn41, nn42, nn43, nn45, nn46, nn47, nn50, nn51, nn52, nn53, nn54, nn56, nn57, nn60, nn61, nn62, nn63, nn64, nn65, nn67, nn70, nn71, nn72, nn73, nn74, nn75, nn76, la1, la7, la13, la27, la33, la39, la45, la69, la75, la81, la87, la93, la101, la109, la117, la125, la225, la230, la235, la240, hN]
        · simp (disch := omega) only [B_X5_of_10, B_X5_of_27, B_X5_of_28, B_X5_of_84, B_X5_of_94, B_X5_of_104, B_X5_of_114, B_X5_of_130, B_X5_of_132, B_X5_of_133, B_X5_of_143, B_X5_of_153, B_X5_of_175, B_X5_of_176, B_X5_of_177, B_X5_of_199, B_X5_of_200, B_X5_of_201, ge_no, ob_no, ob_n2, cl_no, nI_1, le_self, zo_0, zo_1, bindI_some, bindV_some, bindL_some, ite_true, ite_false, if_true, if_false, or_true, true_or, nn01, nn02, nn03, nn04, nn05, nn06, nn07, nn10, nn12, nn13, nn14, nn15, nn16, nn17, nn20, nn21, nn23, nn24, nn25, nn26, nn27, nn30, nn31, nn32, nn34, nn35, nn36, nn37, nn40, nn41, nn42, nn43, nn45, nn46, nn47, nn50, nn51, nn52, nn53, nn54, nn56, nn57, nn60, nn61, nn62, nn63, nn64, nn65, nn67, nn70, nn71, nn72, nn73, nn74, nn75, nn76, e1, hC1.a9]
      · refine go (vI (nI (foS P s p))) (fun N hN => ?_) b ?_
        · obtain ⟨N', e, D⟩ := X6_forceOf (d + 16) N (by omega) hs hN hR (p := p) (by omega)
          refine ⟨N', ?_, (D.mono (fun t k ⟨a, b⟩ => ⟨a, by omega⟩) : Rf scR N N').sc⟩
          simp (disch := omega) only [B_X6_of_18, B_X6_of_20, B_X6_of_64, B_X6_of_74, B_X6_of_84, B_X6_of_94, B_X6_of_113, B_X6_of_115, B_X6_of_116, B_X6_of_126, B_X6_of_132, B_X6_of_144, B_X6_of_162, B_X6_of_163, ge_no, ob_no, ob_n2, cl_no, nI_1, le_self, zo_0, zo_1, bindI_some, bindV_some, bindL_some, ite_true, ite_false, if_true, if_false, or_true, true_or, nn01, nn02, nn03, nn04, nn05, nn06, nn07, nn10, nn12, nn13, nn14, nn15, nn16, nn17, nn20, nn21, nn23, nn24, nn25, nn26, nn27, nn30, nn31, nn32, nn34, nn35, nn36, nn37, nn40, nn41, nn42, nn43, nn45, nn46, nn47, nn50, nn51, nn52, nn53, nn54, nn56, nn57, nn60, nn61, nn62, nn63, nn64, nn65, nn67, nn70, nn71, nn72, nn73, nn74, nn75, nn76, e]
        · simp (disch := omega) only [B_X5_of_10, B_X5_of_27, B_X5_of_28, B_X5_of_84, B_X5_of_94, B_X5_of_104, B_X5_of_114, B_X5_of_130, B_X5_of_132, B_X5_of_133, B_X5_of_143, B_X5_of_153, B_X5_of_175, B_X5_of_176, B_X5_of_177, B_X5_of_199, B_X5_of_200, B_X5_of_201, ge_no, ob_no, ob_n2, cl_no, nI_1, le_self, zo_0, zo_1, bindI_some, bindV_some, bindL_some, ite_true, ite_false, if_true, if_false, or_true, true_or, nn01, nn02, nn03, nn04, nn05, nn06, nn07, nn10, nn12, nn13, nn14, nn15, nn16, nn17, nn20, nn21, nn23, nn24, nn25, nn26, nn27, nn30, nn31, nn32, nn34, nn35, nn36, nn37, nn40, nn41, nn42, nn43, nn45, nn46, nn47, nn50, nn51, nn52, nn53, nn54, nn56, nn57, nn60, nn61, nn62, nn63, nn64, nn65, nn67, nn70, nn71, nn72, nn73, nn74, nn75, nn76, e1, (F1 p hp).1]
      · refine go (vI (nI (beS s (foS P s) 63 p))) (fun N hN => ?_) b ?_
        · obtain ⟨N', e, D, F⟩ := X6_looksForForces (d + 15) N (by omega) hs hN hR
          refine ⟨N', ?_, D.sc⟩
          have eb : XC (d + 19) jX6_bearsOf [vR 6 0 0, vI 63, vI (nI p)] N' = _ := X6_bearsOf (d + 15) N' hs (D.s2.trans hN) F (a := 63) (by decide) hp
          simp (disch := omega) only [B_X6_of_18, B_X6_of_20, B_X6_of_64, B_X6_of_74, B_X6_of_84, B_X6_of_94, B_X6_of_113, B_X6_of_115, B_X6_of_116, B_X6_of_126, B_X6_of_132, B_X6_of_144, B_X6_of_162, B_X6_of_163, ge_no, ob_no, ob_n2, cl_no, nI_1, le_self, zo_0, zo_1, bindI_some, bindV_some, bindL_some, ite_true, ite_false, if_true, if_false, or_true, true_or, nn01, nn02, nn03, nn04, nn05, nn06, nn07, nn10, nn12, nn13, nn14, nn15, nn16, nn17, nn20, nn21, nn23, nn24, nn25, nn26, nn27, nn30, nn31, nn32, nn34, nn35, nn36, nn37, nn40, nn41, nn42, nn43, nn45, nn46, nn47, nn50, nn51, nn52, nn53, nn54, nn56, nn57, nn60, nn61, nn62, nn63, nn64, nn65, nn67, nn70, nn71, nn72, nn73, nn74, nn75, nn76, e, eb]
        · by_cases c : sg s p
          · simp (disch := omega) only [B_X5_of_10, B_X5_of_27, B_X5_of_28, B_X5_of_84, B_X5_of_94, B_X5_of_104, B_X5_of_114, B_X5_of_130, B_X5_of_132, B_X5_of_133, B_X5_of_143, B_X5_of_153, B_X5_of_175, B_X5_of_176, B_X5_of_177, B_X5_of_199, B_X5_of_200, B_X5_of_201, ge_no, ob_no, ob_n2, cl_no, nI_1, le_self, zo_0, zo_1, bindI_some, bindV_some, bindL_some, ite_true, ite_false, if_true, if_false, or_true, true_or, nn01, nn02, nn03, nn04, nn05, nn06, nn07, nn10, nn12, nn13, nn14, nn15, nn16, nn17, nn20, nn21, nn23, nn24, nn25, nn26, nn27, nn30, nn31, nn32, nn34, nn35, nn36, nn37, nn40, nn41, nn42, nn43, nn45, nn46, nn47, nn50, nn51, nn52, nn53, nn54, nn56, nn57, nn60, nn61, nn62, nn63, nn64, nn65, nn67, nn70, nn71, nn72, nn73, nn74, nn75, nn76, e1, if_pos c, X1_singing (d + 18) 0 M1 hs hC1, X1_bearing (d + 16) 0 M1 hs hC1 F1 hS hp ((siS_i hp).mpr c), beS_63 hp h6]
          · have e0 : beS s (foS P s) 63 p = 0 := if_neg (fun q => c q.2)
            simp (disch := omega) only [B_X5_of_10, B_X5_of_27, B_X5_of_28, B_X5_of_84, B_X5_of_94, B_X5_of_104, B_X5_of_114, B_X5_of_130, B_X5_of_132, B_X5_of_133, B_X5_of_143, B_X5_of_153, B_X5_of_175, B_X5_of_176, B_X5_of_177, B_X5_of_199, B_X5_of_200, B_X5_of_201, ge_no, ob_no, ob_n2, cl_no, nI_1, le_self, zo_0, zo_1, bindI_some, bindV_some, bindL_some, ite_true, ite_false, if_true, if_false, or_true, true_or, nn01, nn02, nn03, nn04, nn05, nn06, nn07, nn10, nn12, nn13, nn14, nn15, nn16, nn17, nn20, nn21, nn23, nn24, nn25, nn26, nn27, nn30, nn31, nn32, nn34, nn35, nn36, nn37, nn40, nn41, nn42, nn43, nn45, nn46, nn47, nn50, nn51, nn52, nn53, nn54, nn56, nn57, nn60, nn61, nn62, nn63, nn64, nn65, nn67, nn70, nn71, nn72, nn73, nn74, nn75, nn76, e1, if_neg c, e0]
            rfl
      · refine go (vI (if sg s p then nI (paS s 63 p) else 0)) (fun N hN => ⟨N, ?_, RQ.rf⟩) b ?_
        · have eb : XC (d + 19) jX6_tunesOf [vR 6 0 0, vI 63, vI (nI p)] N = _ := X6_tunesOf (d + 16) N hs hN (a := 63) (by decide) (p := p) (by omega)
          simp (disch := omega) only [B_X6_of_18, B_X6_of_20, B_X6_of_64, B_X6_of_74, B_X6_of_84, B_X6_of_94, B_X6_of_113, B_X6_of_115, B_X6_of_116, B_X6_of_126, B_X6_of_132, B_X6_of_144, B_X6_of_162, B_X6_of_163, ge_no, ob_no, ob_n2, cl_no, nI_1, le_self, zo_0, zo_1, bindI_some, bindV_some, bindL_some, ite_true, ite_false, if_true, if_false, or_true, true_or, nn01, nn02, nn03, nn04, nn05, nn06, nn07, nn10, nn12, nn13, nn14, nn15, nn16, nn17, nn20, nn21, nn23, nn24, nn25, nn26, nn27, nn30, nn31, nn32, nn34, nn35, nn36, nn37, nn40, nn41, nn42, nn43, nn45, nn46, nn47, nn50, nn51, nn52, nn53, nn54, nn56, nn57, nn60, nn61, nn62, nn63, nn64, nn65, nn67, nn70, nn71, nn72, nn73, nn74, nn75, nn76, hN, X6_doesSing _ _ hN, i10, eb]
          by_cases c : sg s p
          · rw [if_pos c, if_neg (fun q => q c)]
          · rw [if_neg c, if_pos c]
        · by_cases c : sg s p
          · simp (disch := omega) only [B_X5_of_10, B_X5_of_27, B_X5_of_28, B_X5_of_84, B_X5_of_94, B_X5_of_104, B_X5_of_114, B_X5_of_130, B_X5_of_132, B_X5_of_133, B_X5_of_143, B_X5_of_153, B_X5_of_175, B_X5_of_176, B_X5_of_177, B_X5_of_199, B_X5_of_200, B_X5_of_201, ge_no, ob_no, ob_n2, cl_no, nI_1, le_self, zo_0, zo_1, bindI_some, bindV_some, bindL_some, ite_true, ite_false, if_true, if_false, or_true, true_or, nn01, nn02, nn03, nn04, nn05, nn06, nn07, nn10, nn12, nn13, nn14, nn15, nn16, nn17, nn20, nn21, nn23, nn24, nn25, nn26, nn27, nn30, nn31, nn32, nn34, nn35, nn36, nn37, nn40, nn41, nn42, nn43, nn45, nn46, nn47, nn50, nn51, nn52, nn53, nn54, nn56, nn57, nn60, nn61, nn62, nn63, nn64, nn65, nn67, nn70, nn71, nn72, nn73, nn74, nn75, nn76, e1, if_pos c, X1_singing (d + 18) 0 M1 hs hC1, X1_partners (d + 17) 0 M1 hs hC1 hS (show p < 6 by omega) c, paS_63 h6]
          · simp (disch := omega) only [B_X5_of_10, B_X5_of_27, B_X5_of_28, B_X5_of_84, B_X5_of_94, B_X5_of_104, B_X5_of_114, B_X5_of_130, B_X5_of_132, B_X5_of_133, B_X5_of_143, B_X5_of_153, B_X5_of_175, B_X5_of_176, B_X5_of_177, B_X5_of_199, B_X5_of_200, B_X5_of_201, ge_no, ob_no, ob_n2, cl_no, nI_1, le_self, zo_0, zo_1, bindI_some, bindV_some, bindL_some, ite_true, ite_false, if_true, if_false, or_true, true_or, nn01, nn02, nn03, nn04, nn05, nn06, nn07, nn10, nn12, nn13, nn14, nn15, nn16, nn17, nn20, nn21, nn23, nn24, nn25, nn26, nn27, nn30, nn31, nn32, nn34, nn35, nn36, nn37, nn40, nn41, nn42, nn43, nn45, nn46, nn47, nn50, nn51, nn52, nn53, nn54, nn56, nn57, nn60, nn61, nn62, nn63, nn64, nn65, nn67, nn70, nn71, nn72, nn73, nn74, nn75, nn76, e1, if_neg c]
    · have ny : ∀ k : Int32, 0 ≤ k → k ≤ 7 → ¬ y = k := fun k h1 h2 q => b (q ▸ ⟨h1, h2⟩)
      refine ⟨vI (-1), M1, ?_, D1.mono scr_SCR, fun N hN => ⟨N, ?_, RQ.rf⟩⟩
      · rw [cls, B_X5_of_28, e1, bindV_some, if_neg (ny 0 (by decide) (by decide)), if_neg (ny 1 (by decide) (by decide)), if_neg (ny 2 (by decide) (by decide)), if_neg (ny 3 (by decide) (by decide)), if_neg (ny 4 (by decide) (by decide)), if_neg (ny 5 (by decide) (by decide)), if_neg (ny 6 (by decide) (by decide)), if_neg (ny 7 (by decide) (by decide)), B_X5_of_201]
      · try dsimp only
        rw [E_X6_of, X6_isSinger (d + 17) hs hN, bindI_some, if_pos a, ne_10, X6_in, bindI_some, if_neg b, eq_00, B_X6_of_18]
  · refine Ans.pure (vI (-1)) ?_ (fun N hN => ?_)
    · rw [E_X5_of, X5_isSinger (d + 18) hC, bindI_some, if_neg a, eq_00]
    · rw [E_X6_of, X6_isSinger (d + 17) hs hN, bindI_some, if_neg a, eq_00, B_X6_of_18]
