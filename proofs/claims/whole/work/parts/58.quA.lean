/-! questions: what they may change, and what they stand on -/
def SCR : SetC := fun t c m k => (c = 1 ∧ m = 1) ∨ (t = 1 ∧ c = 1 ∧ m = 0 ∧ (k = 14 ∨ k = 15)) ∨ (t = 1 ∧ c = 5 ∧ m = 0 ∧ (k = 9 ∨ k = 10))
theorem scr_SCR : ∀ t c m k, scr 0 t c m k → SCR t c m k := fun _ _ _ _ ⟨a, b, e, f⟩ => Or.inr (Or.inl ⟨a, b, e, f⟩)
theorem scr1_SCR : ∀ t c m k, scr 1 t c m k → SCR t c m k := fun _ _ _ _ ⟨_, b, e, _⟩ => Or.inl ⟨b, e⟩
theorem alC_SCR : ∀ t c m k, alC 1 t c m k → SCR t c m k := fun _ _ _ _ ⟨b, e⟩ => Or.inl ⟨b, e⟩
theorem chg_SCR : ∀ t c m k, chg 1 t c m k → SCR t c m k := fun _ _ _ _ ⟨_, b, e⟩ => Or.inl ⟨b, e⟩
theorem Ch.S {M M' : Mem} {s : St} (h : Ch M 0 s) (D : Df SCR M M') : Ch M' 0 s := h.df D (fun t k hk q => by unfold SCR at q; omega)
theorem Hd.S {M M' : Mem} {P : List Cl} (h : Hd M 0 P) (D : Df SCR M M') : Hd M' 0 P := h.df D (fun q => by unfold SCR at q; omega) (fun t j k q => by unfold SCR at q; omega)
/-- the scratch choir stands for a row -/
def TC (M0 : Mem) (B : Nat) (z : St) (P : List Cl) (M : Mem) : Prop := Df SCR M0 M ∧ Ch M 1 z ∧ Hd M 1 P ∧ Wf B z
theorem TC.become (d : Nat) {M : Mem} {B : Nat} {s : St} {P : List Cl} (hs : Wf B s) (h : Ch M 0 s) (hP : Hd M 0 P) : ∃ M', XC (d + 1) jX1_become [vR 1 1 0, vR 1 0 0] M = some (none, M') ∧ TC M B s P M' := by
  obtain ⟨M', e, D, hC, hH, _⟩ := X1_become d 1 0 (by decide) M h hP
  exact ⟨M', e, D.mono alC_SCR, hC, hH, hs⟩
theorem TC.now {M0 M : Mem} {B : Nat} {z s : St} {P : List Cl} (h : TC M0 B z P M) (hC : Ch M0 0 s) : Ch M 0 s := hC.S h.1
theorem TC.allNow (d : Nat) {M0 M : Mem} {B : Nat} (hB : B < 2 ^ 30) {z : St} {P : List Cl} (h : TC M0 B z P M) : ∃ M', XC (d + 6) jX1_allNow [vR 1 1 0] M = some (some (vI (nI (nowS P z))), M') ∧ TC M0 B z P M' ∧ Fo M' 1 z (foS P z) := by
  obtain ⟨D0, hC, hH, hw⟩ := h
  obtain ⟨M', e, D, F⟩ := X1_allNow d 1 M hB hw hC hH
  exact ⟨M', e, ⟨D0.tr (D.mono scr1_SCR), hC.sc D, hH.sc D, hw⟩, F⟩
theorem TC.beat (d : Nat) {M0 M : Mem} {B : Nat} (hB : B < 2 ^ 30) {z : St} {P : List Cl} (h : TC M0 B z P M) : ∃ M', XC (d + 6) jX1_goBeat [vR 1 1 0] M = some (some (vI (nI (pop (lbS P z 63)))), M') ∧ TC M0 (B + 1) (goS P z 63) P M' := by
  obtain ⟨D0, hC, hH, hw⟩ := h
  obtain ⟨M', e, D, F⟩ := X1_goBeat d 1 M hB hw hC hH
  exact ⟨M', e, D0.tr (D.mono chg_SCR), F, hH.ch D, (goS_ok hw P 63).1⟩
theorem TC.note {M0 M : Mem} {B : Nat} {z : St} {P : List Cl} (h : TC M0 B z P M) {p : Nat} (hp : p < 6) {x : Int32} (hx : NtOk x) : TC M0 B (upd z (1 + p) x) P (csA M 1 1 8 (upd (cA M 1 1 8) p x)) := by
  obtain ⟨D0, hC, hH, hw⟩ := h
  have D : Df (chg 1) M (csA M 1 1 8 (upd (cA M 1 1 8) p x)) := Df.csA ⟨by decide, rfl, rfl⟩
  exact ⟨D0.tr (D.mono chg_SCR), hC.u8 hp x, hH.ch D, hw.u8 hp hx⟩
/-! the reference's questions -/
def rowQ : Nat → Nat → Prop := fun t k => (t = 1 ∧ (k = 2 ∨ k = 11 ∨ k = 12 ∨ k = 13 ∨ k = 16 ∨ k = 17 ∨ k = 18)) ∨ (t = 0 ∧ (k = 13 ∨ k = 14))
def scQ : Nat → Nat → Prop := fun t k => rowQ t k ∨ (t = 1 ∧ k = 4)
theorem scR_rowQ : ∀ t k, scR t k → rowQ t k := fun t k ⟨a, b⟩ => Or.inl ⟨a, by omega⟩
theorem rowR_rowQ : ∀ t k, rowR t k → rowQ t k := fun t k ⟨a, b⟩ => Or.inl ⟨a, by omega⟩
def TR (M0 : Mem) (B : Nat) (s z : St) (P : List Cl) (M : Mem) : Prop := Rf rowQ M0 M ∧ rA M 2 = z ∧ (∀ k, 19 ≤ k → z k = s k) ∧ HdR s P ∧ Wf B z
def RQ (N N' : Mem) : Prop := Rf scQ N N' ∧ rA N' 2 = rA N 2
theorem RQ.rf {N : Mem} : RQ N N := ⟨Rf.rf, rfl⟩
theorem RQ.tr {N N' N'' : Mem} (h : RQ N N') (g : RQ N' N'') : RQ N N'' := ⟨h.1.tr g.1, g.2.trans h.2⟩
theorem Rf.sc {N N' : Mem} (h : Rf scR N N') : RQ N N' := ⟨h.mono (fun t k q => Or.inl (scR_rowQ t k q)), h.s2⟩
theorem TR.start {N : Mem} {B : Nat} {s : St} {P : List Cl} (hs : Wf B s) (hA : rA N 2 = s) (hP : HdR s P) : TR N B s s P N := ⟨Rf.rf, hA, fun _ _ => rfl, hP, hs⟩
theorem TR.hd {M0 M : Mem} {B : Nat} {s z : St} {P : List Cl} (h : TR M0 B s z P M) : HdR z P := h.2.2.2.1.cg (fun k hk => h.2.2.1 k (by omega))
def Kp (N N1 : Mem) : Prop := N1 = rsA N 4 (mixF (rA N 2) (rA N 4) 19)
theorem TR.keeps (d : Nat) {N : Mem} {B : Nat} {s : St} {P : List Cl} (hs : Wf B s) (hA : rA N 2 = s) (hP : HdR s P) : ∃ N1, XC (d + 1) jX6_keeps [vR 6 0 0] N = some (none, N1) ∧ Kp N N1 ∧ TR N1 B s s P N1 := by
  refine ⟨_, X6_keeps d N, rfl, TR.start hs ?_ hP⟩
  rw [rA_ne _ _ (by decide), hA]
theorem TR.back (d : Nat) {N N1 M : Mem} {B : Nat} {s z : St} {P : List Cl} (hk : Kp N N1) (hA : rA N 2 = s) (h : TR N1 B s z P M) : ∃ N', XC (d + 1) jX6_goesBack [vR 6 0 0] M = some (none, N') ∧ RQ N N' := by
  obtain ⟨D, h2, hi, _, _⟩ := h
  refine ⟨_, X6_goesBack d M, ?_, ?_⟩
  · have R1 : Rf scQ N N1 := by rw [hk]; exact Rf.A (Or.inr ⟨rfl, rfl⟩)
    exact (R1.tr (D.mono (fun t k q => Or.inl q))).tr (Rf.A (Or.inl (Or.inl ⟨rfl, Or.inl rfl⟩)))
  · rw [rA_same, hA]
    have e4 : rA M 4 = mixF s (rA N 4) 19 := by
      rw [D.2.2.2 4 (fun q => by unfold rowQ at q; omega), hk, rA_same, hA]
    rw [e4, h2]
    funext k
    unfold mixF
    by_cases c : k < 19
    · rw [if_pos c, if_pos c]
    · rw [if_neg c, hi k (by omega)]
theorem TR.fin {N M : Mem} {B : Nat} {s : St} {P : List Cl} (hA : rA N 2 = s) (h : TR N B s s P M) : RQ N M := ⟨h.1.mono (fun t k q => Or.inl q), h.2.1.trans hA.symm⟩
theorem TR.sc {M0 M M' : Mem} {B : Nat} {s z : St} {P : List Cl} (h : TR M0 B s z P M) (D : Rf scR M M') : TR M0 B s z P M' := ⟨h.1.tr (D.mono scR_rowQ), D.s2.trans h.2.1, h.2.2⟩
theorem TR.forces (d : Nat) {M0 M : Mem} {B : Nat} (hB : B < 2 ^ 30) {s z : St} {P : List Cl} (h : TR M0 B s z P M) : ∃ M', XC (d + 4) jX6_looksForForces [vR 6 0 0] M = some (none, M') ∧ TR M0 B s z P M' ∧ FoR M' z (foS P z) := by
  obtain ⟨M', e, D, F⟩ := X6_looksForForces d M hB h.2.2.2.2 h.2.1 h.hd
  exact ⟨M', e, h.sc D, F⟩
theorem TR.allNow (d : Nat) {M0 M : Mem} {B : Nat} (hB : B < 2 ^ 30) {s z : St} {P : List Cl} (h : TR M0 B s z P M) : ∃ M', XC (d + 6) jX6_allNow [vR 6 0 0] M = some (some (vI (nI (nowS P z))), M') ∧ TR M0 B s z P M' ∧ FoR M' z (foS P z) ∧ ∀ k, rI M' k = rI M k := by
  obtain ⟨M', e, D, F⟩ := X6_allNow d M hB h.2.2.2.2 h.2.1 h.hd
  exact ⟨M', e, h.sc D, F, fun k => D.2.2.1 k (fun q => absurd q.1 (by decide))⟩
theorem goA_19 (P : List Cl) {s : St} (ht : ntS s ≤ 6) (a : Nat) : ∀ k, 19 ≤ k → goA P s a k = s k := fun k hk => itr_inv (σ := St) (fun _ z => z k = s k) (ntS s) rfl (fun i z hi hz => (upd_ne (by omega)).trans hz)
theorem goB_19 (P : List Cl) {s : St} (hn : nsS s ≤ 6) (ht : ntS s ≤ 6) (a : Nat) : ∀ k, 19 ≤ k → goB P s a k = s k := fun k hk => itr_inv (σ := St) (fun _ z => z k = s k) (nsS s) (goA_19 P ht a k hk) (fun i z hi hz => (upd_ne (by omega)).trans hz)
theorem goS_19 (P : List Cl) {s : St} (hn : nsS s ≤ 6) (ht : ntS s ≤ 6) (a : Nat) : ∀ k, 19 ≤ k → goS P s a k = s k := fun k hk => (upd_ne (by omega)).trans (goB_19 P hn ht a k hk)
theorem TR.goesBy (d : Nat) {M0 M : Mem} {B : Nat} (hB : B < 2 ^ 30) {s z : St} {P : List Cl} (h : TR M0 B s z P M) {a : Nat} (ha : a < 64) : ∃ M', XC (d + 6) jX6_goesBy [vR 6 0 0, vI (nI a)] M = some (some (vI (nI (pop (lbS P z a)))), M') ∧ TR M0 (B + 1) s (goS P z a) P M' := by
  obtain ⟨M', e, D, F⟩ := X6_goesBy d M hB h.2.2.2.2 h.2.1 h.hd ha
  have hw := h.2.2.2.2
  exact ⟨M', e, h.1.tr (D.mono rowR_rowQ), F, fun k hk => (goS_19 P hw.ns.2 hw.nt.2 a k hk).trans (h.2.2.1 k hk), h.2.2.2.1, (goS_ok hw P a).1⟩
theorem TR.goes (d : Nat) {M0 M : Mem} {B : Nat} (hB : B < 2 ^ 30) {s z : St} {P : List Cl} (h : TR M0 B s z P M) : ∃ M', XC (d + 7) jX6_goes [vR 6 0 0] M = some (some (vI (nI (pop (lbS P z 63)))), M') ∧ TR M0 (B + 1) s (goS P z 63) P M' := by
  obtain ⟨M', e, T⟩ := h.goesBy d hB (a := 63) (by decide)
  have e' : XC (d + 6) jX6_goesBy [vR 6 0 0, vI 63] M = _ := e
  refine ⟨M', ?_, T⟩
  rw [E_X6_goes, e', bindI_some]
theorem TR.note {M0 M : Mem} {B : Nat} {s z : St} {P : List Cl} (h : TR M0 B s z P M) {p : Nat} (hp : p < 6) {x : Int32} (hx : NtOk x) : TR M0 B s (upd z (1 + p) x) P (rsA M 2 (upd (rA M 2) (1 + p) x)) := by
  obtain ⟨D, h2, hi, hP, hw⟩ := h
  refine ⟨D.tr (Rf.A (Or.inl ⟨rfl, Or.inl rfl⟩)), ?_, fun k hk => (upd_ne (by omega)).trans (hi k hk), hP, hw.u8 hp hx⟩
  rw [rA_same, h2]
theorem TR.I {M0 M : Mem} {B : Nat} {s z : St} {P : List Cl} (h : TR M0 B s z P M) {k : Nat} (hk : k = 13 ∨ k = 14) (x : Int32) : TR M0 B s z P (rsI M k x) := ⟨h.1.tr (Rf.I (Or.inr ⟨rfl, hk⟩)), h.2⟩
/-! who is a singer, who a stone -/
abbrev isSg (s : St) (x : Int32) : Prop := 0 ≤ x ∧ x < s 19
abbrev isSt (s : St) (x : Int32) : Prop := 0 ≤ x ∧ x < s 20
theorem in_num {x y : Int32} {n : Nat} (hn : n < 2 ^ 31) (e : y = nI n) (h : 0 ≤ x ∧ x < y) : ∃ p, p < n ∧ x = nI p := by
  obtain ⟨j, j1, rfl⟩ := nI_of (x := x) (fun q => absurd (Int32.lt_of_le_of_lt h.1 q) (by decide))
  subst e
  exact ⟨j, (nI_ltI j1 hn).mp h.2, rfl⟩
theorem isSg.num {B : Nat} {s : St} (hs : Wf B s) {x : Int32} (h : isSg s x) : ∃ p, p < nsS s ∧ x = nI p := in_num (by have := hs.ns.2; omega) hs.ns.1 h
theorem isSt.num {B : Nat} {s : St} (hs : Wf B s) {x : Int32} (h : isSt s x) : ∃ p, p < ntS s ∧ x = nI p := in_num (by have := hs.nt.2; omega) hs.nt.1 h
theorem X5_isSinger (d : Nat) {M : Mem} {s : St} (h : Ch M 0 s) (x : Int32) : XC (d + 1) jX5_isSinger [vR 5 0 0, vI x] M = some (some (vI (if isSg s x then 1 else 0)), M) := by
  rw [E_X5_isSinger, h.c0]
  by_cases a : x < 0
  · rw [if_pos a, B_X5_isSinger_19, B_X5_isSinger_20, zo_0, if_neg (fun q => absurd (Int32.lt_of_le_of_lt q.1 a) (Int32.lt_irrefl))]
  · rw [if_neg a]
    by_cases b : s 19 ≤ x
    · rw [if_pos b, B_X5_isSinger_19, B_X5_isSinger_20, zo_0, if_neg (fun q => absurd (Int32.lt_of_le_of_lt b q.2) (Int32.lt_irrefl))]
    · rw [if_neg b, B_X5_isSinger_20, zo_1, if_pos ⟨Int32.not_lt.mp a, Int32.not_le.mp b⟩]
theorem X5_isStone (d : Nat) {M : Mem} {s : St} (h : Ch M 0 s) (x : Int32) : XC (d + 1) jX5_isStone [vR 5 0 0, vI x] M = some (some (vI (if isSt s x then 1 else 0)), M) := by
  rw [E_X5_isStone, h.c1]
  by_cases a : x < 0
  · rw [if_pos a, B_X5_isStone_19, B_X5_isStone_20, zo_0, if_neg (fun q => absurd (Int32.lt_of_le_of_lt q.1 a) (Int32.lt_irrefl))]
  · rw [if_neg a]
    by_cases b : s 20 ≤ x
    · rw [if_pos b, B_X5_isStone_19, B_X5_isStone_20, zo_0, if_neg (fun q => absurd (Int32.lt_of_le_of_lt b q.2) (Int32.lt_irrefl))]
    · rw [if_neg b, B_X5_isStone_20, zo_1, if_pos ⟨Int32.not_lt.mp a, Int32.not_le.mp b⟩]
theorem le_pred {n : Nat} (hn : n ≤ 6) (x : Int32) : (0 ≤ x ∧ x ≤ nI n - 1) ↔ (0 ≤ x ∧ x < nI n) := by
  by_cases c : 0 ≤ x
  · obtain ⟨j, j1, rfl⟩ := nI_of (x := x) (fun q => absurd (Int32.lt_of_le_of_lt c q) (by decide))
    refine and_congr_right (fun _ => ?_)
    rw [nI_ltI j1 (by omega), show (1 : Int32) = iI 1 from rfl, ← iI_n, ← iI_n, iI_sub, iI_le (by omega) (by omega) (by omega) (by omega)]
    omega
  · exact ⟨fun q => absurd q.1 c, fun q => absurd q.1 c⟩
theorem X6_isSinger (d : Nat) {M : Mem} {B : Nat} {s : St} (hs : Wf B s) (hA : rA M 2 = s) (x : Int32) : XC (d + 2) jX6_isSinger [vR 6 0 0, vI x] M = some (some (vI (if isSg s x then 1 else 0)), M) := by
  obtain ⟨hn, h6⟩ := hs.ns
  rw [E_X6_isSinger, X6_in, bindI_some, hA]
  try dsimp only
  unfold isSg
  rw [hn]
  simp only [le_pred h6]
  split
  · rw [zo_1]
  · rw [zo_0]
theorem X6_isStone (d : Nat) {M : Mem} {B : Nat} {s : St} (hs : Wf B s) (hA : rA M 2 = s) (x : Int32) : XC (d + 2) jX6_isStone [vR 6 0 0, vI x] M = some (some (vI (if isSt s x then 1 else 0)), M) := by
  obtain ⟨hn, h6⟩ := hs.nt
  rw [E_X6_isStone, X6_in, bindI_some, hA]
  try dsimp only
  unfold isSt
  rw [hn]
  simp only [le_pred h6]
  split
  · rw [zo_1]
  · rw [zo_0]
