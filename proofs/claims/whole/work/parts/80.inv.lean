/-! what holds between calls -/
def Fe (s : St) : Prop := (∀ p, nsS s ≤ p → p < 6 → s (7 + p) = 0 ∧ ∀ k, k < 4 → s (45 + 4 * p + k) = 0) ∧ (∀ q, ntS s ≤ q → q < 6 → s (75 + q) = 0 ∧ s (13 + q) = 0)
def Lk (cr : Nat) (s : St) : Prop := (cr = 0 ∧ s 26 = -1) ∨ ∃ i, i < seS s ∧ cr = i + 1 ∧ s 26 = nI i
def Gd (B : Nat) (s : St) (n m : Nat) (Ps : Nat → List Cl) (M : Mem) : Prop := Wf B s ∧ Rw s ∧ Fe s ∧ Ch M n s ∧ Sh M m s ∧ Lk (cR M 1 n 3) s ∧ ∀ i, i < seS s → RepR s i (Ps i)
def PsOk (c : Nat) (Ps : Nat → List Cl) (M : Mem) : Prop := RepC M 0 [] ∧ ∀ i, i < c → WfP (Ps i) ∧ RepC M (i + 1) (Ps i)
def Im (B : Nat) (Ps : Nat → List Cl) (M : Mem) : Prop := (cI M 5 0 10 = 0 ∧ rI M 4 = 0) ∨ (cI M 5 0 10 = 1 ∧ rI M 4 = 1 ∧ Gd B (rA M 3) 2 1 Ps M ∧ seS (rA M 3) ≤ seS (rA M 2))
def Ac (M : Mem) : Prop := ∃ k, k < 1000 ∧ cI M 0 0 3 = nI k ∧ rI M 19 = nI k ∧ ∀ i, i < 20 → cA M 0 0 5 i = rA M 19 i
def Inv (B : Nat) (M : Mem) : Prop := B < 2 ^ 20 ∧ (∀ k, 940 ≤ k → rA M 3 k = rA M 2 k) ∧ Ac M ∧ ∃ Ps, Gd B (rA M 2) 0 0 Ps M ∧ PsOk (seS (rA M 2)) Ps M ∧ Im B Ps M
def Call (B : Nat) (M : Mem) (x y : Mem → Res) : Prop := ∃ v M' N', x M = some (some v, M') ∧ y M' = some (some v, N') ∧ (B + 1 < 2 ^ 20 → Inv (B + 1) N') ∧ N'.2.2 = M.2.2
theorem m1I {M M' : Mem} (h : M'.1 = M.1) : cI M' = cI M := by unfold cI; rw [h]
theorem m1A {M M' : Mem} (h : M'.1 = M.1) : cA M' = cA M := by unfold cA; rw [h]
theorem m1R {M M' : Mem} (h : M'.1 = M.1) : cR M' = cR M := by unfold cR; rw [h]
theorem m2I {M M' : Mem} (h : M'.2 = M.2) : rI M' = rI M := by unfold rI; rw [h]
theorem m2A {M M' : Mem} (h : M'.2 = M.2) : rA M' = rA M := by unfold rA; rw [h]
theorem Ch.m1 {M M' : Mem} {n : Nat} {s : St} (h : Ch M n s) (e : M'.1 = M.1) : Ch M' n s := by unfold Ch; rw [m1I e, m1A e]; exact h
theorem Sh.m1 {M M' : Mem} {n : Nat} {s : St} (h : Sh M n s) (e : M'.1 = M.1) : Sh M' n s := by unfold Sh; rw [m1I e, m1A e]; exact h
theorem RepC.m1 {M M' : Mem} {j : Nat} {P : List Cl} (h : RepC M j P) (e : M'.1 = M.1) : RepC M' j P := by unfold RepC; rw [m1I e, m1A e]; exact h
theorem Gd.m1 {B : Nat} {s : St} {n m : Nat} {Ps : Nat → List Cl} {M M' : Mem} (h : Gd B s n m Ps M) (e : M'.1 = M.1) : Gd B s n m Ps M' := by
  obtain ⟨h1, h2, h3, h4, h5, h6, h7⟩ := h
  refine ⟨h1, h2, h3, h4.m1 e, h5.m1 e, ?_, h7⟩
  rw [m1R e]; exact h6
theorem PsOk.m1 {c : Nat} {Ps : Nat → List Cl} {M M' : Mem} (h : PsOk c Ps M) (e : M'.1 = M.1) : PsOk c Ps M' := ⟨h.1.m1 e, fun i hi => ⟨(h.2 i hi).1, (h.2 i hi).2.m1 e⟩⟩
theorem Gd.mono {B C : Nat} {s : St} {n m : Nat} {Ps : Nat → List Cl} {M : Mem} (h : Gd B s n m Ps M) (hBC : B ≤ C) : Gd C s n m Ps M := ⟨h.1.mono hBC, h.2⟩
theorem Gd.df {S : SetC} {B : Nat} {s : St} {n m : Nat} {Ps : Nat → List Cl} {M M' : Mem} (h : Gd B s n m Ps M) (D : Df S M M') (h1 : ∀ t k, k ≤ 13 → ¬ S t 1 n k) (h4 : ∀ t k, ¬ S t 4 m k) : Gd B s n m Ps M' := by
  obtain ⟨g1, g2, g3, g4, g5, g6, g7⟩ := h
  refine ⟨g1, g2, g3, g4.df D h1, g5.df D h4, ?_, g7⟩
  rw [D.2.2.1 1 n 3 (h1 2 3 (by decide))]; exact g6
theorem PsOk.df {S : SetC} {c : Nat} {Ps : Nat → List Cl} {M M' : Mem} (h : PsOk c Ps M) (D : Df S M M') (h3 : ∀ t j k, j ≤ c → ¬ S t 3 j k) : PsOk c Ps M' := ⟨h.1.df D (fun t k => h3 t 0 k (Nat.zero_le _)), fun i hi => ⟨(h.2 i hi).1, (h.2 i hi).2.df D (fun t k => h3 t (i + 1) k (by omega))⟩⟩
/-- the program that is held -/
theorem Gd.held {B : Nat} {s : St} {n m : Nat} {Ps : Nat → List Cl} {M : Mem} (h : Gd B s n m Ps M) {c : Nat} (hP : PsOk c Ps M) (hc : seS s ≤ c) : ∃ P, Hd M n P ∧ HdR s P := by
  obtain ⟨g1, g2, g3, g4, g5, g6, g7⟩ := h
  have h5 := g2.se.2
  rcases g6 with ⟨e1, e2⟩ | ⟨i, hi, e1, e2⟩
  · have wn : WfP [] := ⟨Nat.zero_le _, fun c hc => absurd hc (by simp)⟩
    refine ⟨[], ⟨?_, ?_, wn⟩, wn, Or.inl ⟨e2, rfl⟩⟩
    · rw [e1]; decide
    · rw [e1]; exact hP.1
  · obtain ⟨p1, p2⟩ := hP.2 i (by omega)
    refine ⟨Ps i, ⟨?_, ?_, p1⟩, p1, Or.inr ⟨i, by omega, e2, g7 i hi⟩⟩
    · rw [e1]; omega
    · rw [e1]; exact p2
theorem Inv.q {B : Nat} {M : Mem} {x y : Mem → Res} (I : Inv B M) (h : ∀ P, QC B (rA M 2) P M → Sh M 0 (rA M 2) → Rw (rA M 2) → Ans M (rA M 2) (x M) y) : Call B M x y := by
  obtain ⟨hB, hhi, hac, Ps, hG, hP, hI⟩ := I
  obtain ⟨P, p1, p2⟩ := hG.held hP (Nat.le_refl _)
  obtain ⟨v, M', e, D, f⟩ := h P ⟨by omega, hG.1, hG.2.2.2.1, p1, p2⟩ hG.2.2.2.2.1 hG.2.1
  have e2 := D.2.2.2
  obtain ⟨N', e', R, eA⟩ := f M' (by rw [m2A e2])
  refine ⟨v, M', N', e, e', fun hB1 => ?_, ?_⟩
  · have a2 : rA N' 2 = rA M 2 := by rw [eA, m2A e2]
    have a3 : rA N' 3 = rA M 3 := by rw [R.2.2.2 3 (fun q => by unfold scQ rowQ at q; omega), m2A e2]
    have a19 : rA N' 19 = rA M 19 := by rw [R.2.2.2 19 (fun q => by unfold scQ rowQ at q; omega), m2A e2]
    have i4 : rI N' 4 = rI M 4 := by rw [R.2.2.1 4 (fun q => by unfold scQ rowQ at q; omega), m2I e2]
    have i19 : rI N' 19 = rI M 19 := by rw [R.2.2.1 19 (fun q => by unfold scQ rowQ at q; omega), m2I e2]
    have c1 := R.1
    refine ⟨hB1, ?_, ?_, Ps, ?_, ?_, ?_⟩
    · rw [a2, a3]; exact hhi
    · obtain ⟨k, k1, k2, k3, k4⟩ := hac
      refine ⟨k, k1, ?_, ?_, ?_⟩
      · rw [m1I c1, D.1 0 0 3 (fun q => by unfold SCR at q; omega)]; exact k2
      · rw [i19]; exact k3
      · intro i hi
        rw [m1A c1, D.2.1 0 0 5 (fun q => by unfold SCR at q; omega), a19]; exact k4 i hi
    · rw [a2]
      exact (((hG.mono (Nat.le_succ B)).df D (fun t k hk q => by unfold SCR at q; omega) (fun t k q => by unfold SCR at q; omega))).m1 c1
    · rw [a2]
      exact (hP.df D (fun t j k hj q => by unfold SCR at q; omega)).m1 c1
    · unfold Im
      rw [m1I c1, D.1 5 0 10 (fun q => by unfold SCR at q; omega), i4, a2, a3]
      rcases hI with hI | ⟨j1, j2, j3, j4⟩
      · exact Or.inl hI
      · exact Or.inr ⟨j1, j2, (((j3.mono (Nat.le_succ B)).df D (fun t k hk q => by unfold SCR at q; omega) (fun t k q => by unfold SCR at q; omega))).m1 c1, j4⟩
  · rw [R.2.1, e2]
/-- nothing changed -/
theorem Inv.up {B : Nat} {M : Mem} (I : Inv B M) (h : B + 1 < 2 ^ 20) : Inv (B + 1) M := by
  obtain ⟨hB, hhi, hac, Ps, hG, hP, hI⟩ := I
  refine ⟨h, hhi, hac, Ps, hG.mono (Nat.le_succ B), hP, ?_⟩
  rcases hI with hI | ⟨j1, j2, j3, j4⟩
  · exact Or.inl hI
  · exact Or.inr ⟨j1, j2, j3.mono (Nat.le_succ B), j4⟩
theorem Call.same {B : Nat} {M : Mem} {x y : Mem → Res} (I : Inv B M) (v : AV) (h1 : x M = some (some v, M)) (h2 : y M = some (some v, M)) : Call B M x y := ⟨v, M, M, h1, h2, I.up, rfl⟩
/-! rows that differ in part -/
theorem Rg.cg {s z : St} {lo n K : Nat} (h : Rg s lo n K) (e : ∀ k, lo ≤ k → k < lo + n → z k = s k) : Rg z lo n K := fun i hi => by
  rw [e (lo + i) (by omega) (by omega)]
  exact h i hi
theorem Wf.cg {B : Nat} {s z : St} (h : Wf B s) (e : ∀ k, k ≤ 20 ∨ (27 ≤ k ∧ k < 81) → z k = s k) : Wf B z := by
  obtain ⟨h1, h2, h3, h4, h5, h6, h7, h8, h9, h10, h11⟩ := h
  refine ⟨h1.cg (fun k a b => e k (by omega)), h2.cg (fun k a b => e k (by omega)), h3.cg (fun k a b => e k (by omega)), h4.cg (fun k a b => e k (by omega)), h5.cg (fun k a b => e k (by omega)), fun i hi => ?_, h7.cg (fun k a b => e k (by omega)), h8.cg (fun k a b => e k (by omega)), h9.cg (fun k a b => e k (by omega)), h10.cg (fun k a b => e k (by omega)), h11.cg (fun k a b => e k (by omega))⟩
  rw [e (1 + i) (by omega)]
  exact h6 i hi
theorem Fe.cg {s z : St} (h : Fe s) (e : ∀ k, k ≤ 20 ∨ (27 ≤ k ∧ k < 81) → z k = s k) : Fe z := by
  have e1 : nsS z = nsS s := by unfold nsS; rw [e 19 (by omega)]
  have e2 : ntS z = ntS s := by unfold ntS; rw [e 20 (by omega)]
  obtain ⟨h1, h2⟩ := h
  refine ⟨fun p a b => ?_, fun q a b => ?_⟩
  · rw [e1] at a
    rw [e (7 + p) (by omega)]
    refine ⟨(h1 p a b).1, fun k hk => ?_⟩
    rw [e (45 + 4 * p + k) (by omega)]
    exact (h1 p a b).2 k hk
  · rw [e2] at a
    rw [e (75 + q) (by omega), e (13 + q) (by omega)]
    exact h2 q a b
theorem Fe.up {s : St} (h : Fe s) {j : Nat} {x : Int32} (h19 : ¬ j = 19 ∧ ¬ j = 20) (h1 : ∀ p, nsS s ≤ p → p < 6 → ¬ j = 7 + p ∧ (j < 45 + 4 * p ∨ 49 + 4 * p ≤ j)) (h2 : ∀ q, ntS s ≤ q → q < 6 → ¬ j = 75 + q ∧ ¬ j = 13 + q) : Fe (upd s j x) := by
  have e1 : nsS (upd s j x) = nsS s := by unfold nsS; rw [upd_ne (by omega)]
  have e2 : ntS (upd s j x) = ntS s := by unfold ntS; rw [upd_ne (by omega)]
  obtain ⟨g1, g2⟩ := h
  refine ⟨fun p a b => ?_, fun q a b => ?_⟩
  · rw [e1] at a
    have w := h1 p a b
    rw [upd_ne (fun q => w.1 q.symm)]
    refine ⟨(g1 p a b).1, fun k hk => ?_⟩
    rw [upd_ne (by omega)]
    exact (g1 p a b).2 k hk
  · rw [e2] at a
    have w := h2 q a b
    rw [upd_ne (fun z => w.1 z.symm), upd_ne (fun z => w.2 z.symm)]
    exact g2 q a b
theorem Ch.cg {M : Mem} {n : Nat} {s z : St} (h : Ch M n s) (e : ∀ k, k ≤ 20 ∨ (27 ≤ k ∧ k < 81) → z k = s k) : Ch M n z := by
  refine ⟨?_, ?_, ?_, ?_, ?_, ?_, ?_, ?_, ?_, ?_, ?_, ?_⟩
  · rw [e 19 (by omega)]; exact h.c0
  · rw [e 20 (by omega)]; exact h.c1
  · rw [e 0 (by omega)]; exact h.c2
  all_goals
    intro i hi
    rw [e _ (by omega)]
  · exact h.a5 hi
  · exact h.a6 hi
  · exact h.a7 hi
  · exact h.a8 hi
  · exact h.a9 hi
  · exact h.a10 hi
  · exact h.a11 hi
  · exact h.a12 hi
  · exact h.a13 hi
theorem Sh.cg {M : Mem} {m : Nat} {s z : St} (h : Sh M m s) (e : ∀ k, (21 ≤ k ∧ k ≤ 25) ∨ (81 ≤ k ∧ k < 225) → z k = s k) : Sh M m z := by
  obtain ⟨⟨h1, h2, h3, h4, h5⟩, g1, g2, g3, g4, g5, g6, g7⟩ := h
  refine ⟨⟨h1.trans (e 25 (by omega)).symm, h2.trans (e 21 (by omega)).symm, h3.trans (e 22 (by omega)).symm, h4.trans (e 23 (by omega)).symm, h5.trans (e 24 (by omega)).symm⟩, ?_, ?_, ?_, ?_, ?_, ?_, ?_⟩
  all_goals
    intro i hi
    rw [e _ (by omega)]
  · exact g1 i hi
  · exact g2 i hi
  · exact g3 i hi
  · exact g4 i hi
  · exact g5 i hi
  · exact g6 i hi
  · exact g7 i hi
theorem Rw.cg {s z : St} (h : Rw s) (e : ∀ k, (21 ≤ k ∧ k ≤ 25) ∨ (81 ≤ k ∧ k < 225) → z k = s k) (hn : nsS s ≤ nsS z) : Rw z := by
  obtain ⟨h1, h2, h3, h4, h5, h6, h7⟩ := h
  have ep : plS z = plS s := by unfold plS; rw [e 23 (by omega)]
  have eb : bkS z = bkS s := by unfold bkS; rw [e 24 (by omega)]
  refine ⟨h1.cg (fun k a b => e k (by omega)), h2.cg (fun k a b => e k (by omega)), h3.cg (fun k a b => e k (by omega)), h4.cg (fun k a b => e k (by omega)), h5.cg (fun k a b => e k (by omega)), fun i hi => ?_, fun i hi => ?_⟩
  · rw [e (93 + i) (by omega), ep]
    obtain ⟨k, k1, k2, k3⟩ := h6 i hi
    exact ⟨k, k1, k2, fun w => by have := k3 w; omega⟩
  · rw [e (109 + i) (by omega), eb]
    obtain ⟨k, k1, k2, k3⟩ := h7 i hi
    exact ⟨k, k1, k2, fun w => by have := k3 w; omega⟩
theorem RepR.cg {s z : St} {i : Nat} {P : List Cl} (h : RepR s i P) (e : ∀ k, 225 ≤ k → z k = s k) : RepR z i P := by
  obtain ⟨h1, h2, h3, h4, h5⟩ := h
  exact ⟨(e _ (by omega)).trans h1, (e _ (by omega)).trans h2, (e _ (by omega)).trans h3, h4, fun k hk => (e _ (by omega)).trans (h5 k hk)⟩
/-! a call that changes what there is now -/
def nowC : SetC := fun t c m _ => t ≤ 1 ∧ (c = 1 ∨ c = 4) ∧ m = 0
def nowR : Nat → Nat → Prop := fun t k => t = 1 ∧ (k = 2 ∨ k = 11 ∨ k = 12 ∨ k = 13)
theorem Inv.set {B : Nat} {M M' N' : Mem} {s' : St} (I : Inv B M) (D : Df nowC M M') (R : Rf nowR M' N') (hA : rA N' 2 = s') (hw : Wf (B + 1) s') (hr : Rw s') (hf : Fe s') (hC : Ch M' 0 s') (hS : Sh M' 0 s') (e : ∀ k, k = 21 ∨ k = 26 ∨ 225 ≤ k → s' k = rA M 2 k) (hB1 : B + 1 < 2 ^ 20) : Inv (B + 1) N' := by
  obtain ⟨hB, hhi, hac, Ps, hG, hP, hI⟩ := I
  have e2 := D.2.2.2
  have c1 := R.1
  have es : seS s' = seS (rA M 2) := by unfold seS; rw [e 21 (by omega)]
  have a3 : rA N' 3 = rA M 3 := by rw [R.2.2.2 3 (fun q => by unfold nowR at q; omega), m2A e2]
  have a19 : rA N' 19 = rA M 19 := by rw [R.2.2.2 19 (fun q => by unfold nowR at q; omega), m2A e2]
  have i4 : rI N' 4 = rI M 4 := by rw [R.2.2.1 4 (fun q => by unfold nowR at q; omega), m2I e2]
  have i19 : rI N' 19 = rI M 19 := by rw [R.2.2.1 19 (fun q => by unfold nowR at q; omega), m2I e2]
  refine ⟨hB1, ?_, ?_, Ps, ?_, ?_, ?_⟩
  · intro k hk
    rw [a3, hA, e k (by omega)]; exact hhi k hk
  · obtain ⟨k, k1, k2, k3, k4⟩ := hac
    refine ⟨k, k1, ?_, ?_, ?_⟩
    · rw [m1I c1, D.1 0 0 3 (fun q => by unfold nowC at q; omega)]; exact k2
    · rw [i19]; exact k3
    · intro i hi
      rw [m1A c1, D.2.1 0 0 5 (fun q => by unfold nowC at q; omega), a19]; exact k4 i hi
  · rw [hA]
    refine Gd.m1 ⟨hw, hr, hf, hC, hS, ?_, fun i hi => ?_⟩ c1
    · rw [D.2.2.1 1 0 3 (fun q => by unfold nowC at q; omega)]
      have h6 := hG.2.2.2.2.2.1
      unfold Lk at h6 ⊢
      rw [es, e 26 (by omega)]; exact h6
    · exact (hG.2.2.2.2.2.2 i (by omega)).cg (fun k hk => e k (by omega))
  · rw [hA, es]
    exact (hP.df D (fun t j k hj q => by unfold nowC at q; omega)).m1 c1
  · unfold Im
    rw [m1I c1, D.1 5 0 10 (fun q => by unfold nowC at q; omega), i4, hA, a3, es]
    rcases hI with hI | ⟨j1, j2, j3, j4⟩
    · exact Or.inl hI
    · exact Or.inr ⟨j1, j2, ((j3.mono (Nat.le_succ B)).df D (fun t k hk q => by unfold nowC at q; omega) (fun t k q => by unfold nowC at q; omega)).m1 c1, j4⟩
theorem Inv.choir {B : Nat} {M M' N' : Mem} {s' : St} (I : Inv B M) (D : Df (chg 0) M M') (R : Rf nowR M' N') (hA : rA N' 2 = s') (hw : Wf (B + 1) s') (hf : Fe s') (hC : Ch M' 0 s') (hn : nsS (rA M 2) ≤ nsS s') (e : ∀ k, (21 ≤ k ∧ k ≤ 26) ∨ 81 ≤ k → s' k = rA M 2 k) (hB1 : B + 1 < 2 ^ 20) : Inv (B + 1) N' := by
  obtain ⟨_, _, _, Ps, hG, _, _⟩ := id I
  have D2 : Df nowC M M' := D.mono (fun t c m k ⟨a, b, g⟩ => ⟨a, Or.inl b, g⟩)
  exact I.set D2 R hA hw (hG.2.1.cg (fun k hk => e k (by omega)) hn) hf hC ((hG.2.2.2.2.1.df D (fun t k q => absurd q.2.1 (by decide))).cg (fun k hk => e k (by omega))) (fun k hk => e k (by omega)) hB1
def shC : SetC := fun t c m _ => t ≤ 1 ∧ c = 4 ∧ m = 0
theorem Inv.sheet {B : Nat} {M M' N' : Mem} {s' : St} (I : Inv B M) (D : Df shC M M') (R : Rf nowR M' N') (hA : rA N' 2 = s') (hr : Rw s') (hS : Sh M' 0 s') (e : ∀ k, k ≤ 21 ∨ (26 ≤ k ∧ k < 81) ∨ 225 ≤ k → s' k = rA M 2 k) (hB1 : B + 1 < 2 ^ 20) : Inv (B + 1) N' := by
  obtain ⟨_, _, _, Ps, hG, _, _⟩ := id I
  have D2 : Df nowC M M' := D.mono (fun t c m k ⟨a, b, g⟩ => ⟨a, Or.inr b, g⟩)
  exact I.set D2 R hA ((hG.1.mono (Nat.le_succ B)).cg (fun k hk => e k (by omega))) hr (hG.2.2.1.cg (fun k hk => e k (by omega))) ((hG.2.2.2.1.df D (fun t k hk q => absurd q.2.1 (by decide))).cg (fun k hk => e k (by omega))) hS (fun k hk => e k (by omega)) hB1
