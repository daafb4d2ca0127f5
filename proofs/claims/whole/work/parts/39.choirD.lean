/-! all now, a beat -/
theorem J6_bitCount (d : Nat) (M : Mem) {a : Nat} (ha : a < 64) : XC (d + 1) jJ6_bitCount_0f7a4 [vI (nI a)] M = some (some (vI (nI (pop a))), M) := by
  rw [E_J6_bitCount_0f7a4]
  have h9 : ∀ a, a < 64 → (fun x0 : Int32 => (let y1 : Int32 := (x0 - (((x0 : Int32).toUInt32 >>> ((1 : Int32).toUInt32 &&& Int32.toUInt32 31)).toInt32 &&& 1431655765)); (let y2 : Int32 := ((y1 &&& 858993459) + (((y1 : Int32).toUInt32 >>> ((2 : Int32).toUInt32 &&& Int32.toUInt32 31)).toInt32 &&& 858993459)); (let y3 : Int32 := ((y2 + ((y2 : Int32).toUInt32 >>> ((4 : Int32).toUInt32 &&& Int32.toUInt32 31)).toInt32) &&& 252645135); (let y4 : Int32 := (y3 + ((y3 : Int32).toUInt32 >>> ((8 : Int32).toUInt32 &&& Int32.toUInt32 31)).toInt32); (let y5 : Int32 := (y4 + ((y4 : Int32).toUInt32 >>> ((16 : Int32).toUInt32 &&& Int32.toUInt32 31)).toInt32); (y5 &&& 63))))))) (nI a) = nI (pop a) := by decide +kernel
  exact congrArg (fun z => some (some (vI z), M)) (h9 a ha)
theorem bt_or {a k q : Nat} : bt (a ||| 2 ^ k) q ↔ bt a q ∨ q = k := by
  unfold bt
  rw [Nat.testBit_or, Nat.testBit_two_pow]
  simp only [Bool.or_eq_true, decide_eq_true_eq]
  constructor
  · rintro (h | h)
    · exact Or.inl h
    · exact Or.inr h.symm
  · rintro (h | h)
    · exact Or.inl h
    · exact Or.inr h.symm
theorem bt_0 {q : Nat} : ¬ bt 0 q := by
  unfold bt
  rw [Nat.zero_testBit]
  exact Bool.false_ne_true
theorem siS_bt (s : St) (q : Nat) : bt (siS s) q ↔ q < nsS s ∧ sg s q := itr_inv (f := fun i z => if s (1 + i) = -1 then z else z ||| 2 ^ i) (s := 0) (fun i z => bt z q ↔ q < i ∧ sg s q) (nsS s) ⟨fun h => absurd h bt_0, fun h => absurd h.1 (by omega)⟩ (fun i z hi hz => by
  try dsimp only
  by_cases c : s (1 + i) = -1
  · rw [if_pos c, hz]
    constructor
    · rintro ⟨a, b⟩; exact ⟨by omega, b⟩
    · rintro ⟨a, b⟩
      refine ⟨?_, b⟩
      by_cases e : q = i
      · subst e; exact absurd c b
      · omega
  · rw [if_neg c, bt_or, hz]
    constructor
    · rintro (⟨a, b⟩ | rfl)
      · exact ⟨by omega, b⟩
      · exact ⟨by omega, c⟩
    · rintro ⟨a, b⟩
      by_cases e : q = i
      · exact Or.inr e
      · exact Or.inl ⟨by omega, b⟩)
theorem siS_sub {s : St} (h : nsS s ≤ 6) : Sub s (siS s) := ⟨siS_lt h, fun q _ hq => ((siS_bt s q).mp hq).2⟩
theorem paS_cg {s : St} {a b : Nat} (h : ∀ q, q < nsS s → sg s q → (bt a q ↔ bt b q)) (p : Nat) : paS s a p = paS s b p := itr_congr _ (fun q z hq => by
  try dsimp only
  by_cases c : sg s q
  · simp only [h q hq c]
  · rw [if_neg (fun z => c z.2.2.1), if_neg (fun z => c z.2.2.1)])
theorem beS_cg {s : St} {f g : Nat → Nat} {a b : Nat} (h : ∀ q, q < nsS s → sg s q → (bt a q ↔ bt b q)) {p : Nat} (hp : p < nsS s) (hf : f p = g p) : beS s f a p = beS s g b p := by
  unfold beS
  rw [paS_cg h p, hf]
  by_cases c : sg s p
  · simp only [h p hp c]
  · rw [if_neg (fun z => c z.2), if_neg (fun z => c z.2)]
theorem alS_cg {s : St} {f g : Nat → Nat} {a b : Nat} (h : ∀ q, q < nsS s → sg s q → (bt a q ↔ bt b q)) (hf : ∀ p, p < nsS s → f p = g p) : alS s f a = alS s g b := itr_congr _ (fun q z hq => by
  try dsimp only
  rw [beS_cg h hq (hf q hq)])
theorem bt_63 {q : Nat} (h : q < 6) : bt 63 q := by
  rcases (by omega : q = 0 ∨ q = 1 ∨ q = 2 ∨ q = 3 ∨ q = 4 ∨ q = 5) with rfl | rfl | rfl | rfl | rfl | rfl <;> decide
theorem alS_si {s : St} (h : nsS s ≤ 6) (f : Nat → Nat) : alS s f (siS s) = alS s f 63 := alS_cg (fun q hq hs => ⟨fun _ => bt_63 (by omega), fun _ => (siS_bt s q).mpr ⟨hq, hs⟩⟩) (fun _ _ => rfl)
theorem X1_allNow (d n : Nat) (M : Mem) {B : Nat} (hB : B < 2 ^ 30) {s : St} (hs : Wf B s) (h : Ch M n s) {P : List Cl} (hP : Hd M n P) : ∃ M', XC (d + 6) jX1_allNow [vR 1 n 0] M = some (some (vI (nI (nowS P s))), M') ∧ Df (scr n) M M' ∧ Fo M' n s (foS P s) := by
  obtain ⟨M', e, D, F⟩ := X1_measure d n M hB hs h hP
  have h1 := h.sc D
  refine ⟨M', ?_, D, F⟩
  rw [E_X1_allNow, e, bindV_some, X1_singing (d + 4) n M' hs h1, bindI_some, X1_allOf (d + 1) n M' hs h1 F (siS_sub hs.ns.2), bindI_some, alS_si hs.ns.2]
  rfl
theorem nowS_le {B : Nat} (hB : B < 2 ^ 30) {s : St} (hs : Wf B s) {P : List Cl} (hP : WfP P) (a : Nat) : alS s (foS P s) a ≤ 75600 := alS_le a hs.ns.2 (fun i hi => foS_le hB hs hP (by have := hs.ns.2; omega))
theorem eaP_le {P : List Cl} (hP : WfP P) : eaP P ≤ 99 := by
  have key : ∀ (l : List Cl) (z : Nat), (∀ c, c ∈ l → tkC c) → z ≤ 99 → l.foldl (fun z c => if c.1 = 0 then c.2.1 else z) z ≤ 99 := by
    intro l
    induction l with
    | nil => exact fun z _ h => h
    | cons c l ih =>
      intro z hc hz
      refine ih _ (fun c h => hc c (by simp [h])) ?_
      have := (hc c (by simp)).2.1
      try dsimp only
      split <;> omega
  exact key P 3 hP.2 (by decide)
theorem weP_le {P : List Cl} (hP : WfP P) : weP P ≤ 99 := by
  have key : ∀ (l : List Cl) (z : Nat), (∀ c, c ∈ l → tkC c) → z ≤ 99 → l.foldl (fun z c => if c.1 = 1 then c.2.1 else z) z ≤ 99 := by
    intro l
    induction l with
    | nil => exact fun z _ h => h
    | cons c l ih =>
      intro z hc hz
      refine ih _ (fun c h => hc c (by simp [h])) ?_
      have := (hc c (by simp)).2.1
      try dsimp only
      split <;> omega
  exact key P 1 hP.2 (by decide)
theorem Wf.fl1 {B : Nat} {z : St} (h : Wf B z) (L : Nat) {q : Nat} (hq : q < 6) : Wf B (fl1 L q z) := h.u13 hq (by
  split
  · exact ⟨1, by decide, rfl⟩
  · exact h.2.2.2.2.2.2.2.2.2.2 q hq)
theorem Wf.ti1 {B : Nat} {z : St} (h : Wf B z) {P : List Cl} (a : Nat) {q : Nat} (hq : q < 6) : Wf B (ti1 P a q z) := h.u9 hq (by
  have h2 := (h.2.2.2.2.2.2.1.val hq (by decide)).2
  split
  · exact ⟨_, by omega, rfl⟩
  · exact ⟨_, by omega, rfl⟩)
/-- the counts stay -/
def Sm (s z : St) : Prop := z 19 = s 19 ∧ z 20 = s 20
theorem goA_ok {B : Nat} {s : St} (hs : Wf B s) (P : List Cl) (a : Nat) : Wf B (goA P s a) ∧ Sm s (goA P s a) := itr_inv (fun _ z => Wf B z ∧ Sm s z) (ntS s) ⟨hs, rfl, rfl⟩ (fun i z hi hz => by
  have := hs.nt.2
  exact ⟨hz.1.fl1 _ (by omega), (upd_ne (by omega)).trans hz.2.1, (upd_ne (by omega)).trans hz.2.2⟩)
theorem goB_ok {B : Nat} {s : St} (hs : Wf B s) (P : List Cl) (a : Nat) : Wf B (goB P s a) ∧ Sm s (goB P s a) := itr_inv (fun _ z => Wf B z ∧ Sm s z) (nsS s) (goA_ok hs P a) (fun i z hi hz => by
  have := hs.ns.2
  exact ⟨hz.1.ti1 _ (by omega), (upd_ne (by omega)).trans hz.2.1, (upd_ne (by omega)).trans hz.2.2⟩)
theorem goS_ok {B : Nat} {s : St} (hs : Wf B s) (P : List Cl) (a : Nat) : Wf (B + 1) (goS P s a) ∧ Sm s (goS P s a) := ⟨(goB_ok hs P a).1.u0, (upd_ne (by omega)).trans (goB_ok hs P a).2.1, (upd_ne (by omega)).trans (goB_ok hs P a).2.2⟩
/-- ints and arrays of one choir -/
def chg (n : Nat) : SetC := fun t c m _ => t ≤ 1 ∧ c = 1 ∧ m = n
theorem scr_chg {n : Nat} : ∀ t c m k, scr n t c m k → chg n t c m k := fun _ _ _ _ ⟨a, b, e, _⟩ => ⟨by omega, b, e⟩
theorem Hd.ch {M M' : Mem} {n m : Nat} {P : List Cl} (h : Hd M n P) (D : Df (chg m) M M') : Hd M' n P := h.df D (fun q => absurd q.1 (by decide)) (fun t j k q => absurd q.2.1 (by decide))
theorem Ch.ot {M M' : Mem} {n m : Nat} {s : St} (h : Ch M n s) (D : Df (chg m) M M') (hm : ¬ n = m) : Ch M' n s := h.df D (fun t k hk q => hm q.2.2)
theorem goB_cg (P : List Cl) {s : St} {a b : Nat} (h6 : nsS s ≤ 6) (h : ∀ q, q < nsS s → sg s q → (bt a q ↔ bt b q)) : lbS P s a = lbS P s b := by
  unfold lbS
  rw [alS_cg h (fun _ _ => rfl)]
theorem X1_goBeat (d n : Nat) (M : Mem) {B : Nat} (hB : B < 2 ^ 30) {s : St} (hs : Wf B s) (h : Ch M n s) {P : List Cl} (hP : Hd M n P) : ∃ M', XC (d + 6) jX1_goBeat [vR 1 n 0] M = some (some (vI (nI (pop (lbS P s 63)))), M') ∧ Df (chg n) M M' ∧ Ch M' n (goS P s 63) := by
  obtain ⟨hn, hn6⟩ := hs.ns
  obtain ⟨ht, ht6⟩ := hs.nt
  obtain ⟨M1, e1, D1, F1⟩ := X1_measure d n M hB hs h hP
  have h1 := h.sc D1
  have hL : lbS P s 63 < 64 := loS_lt ht6
  rw [E_X1_goBeat, e1, bindV_some, X1_singing (d + 4) n M1 hs h1, bindI_some, X1_allOf (d + 1) n M1 hs h1 F1 (siS_sub hs.ns.2), bindI_some, alS_si hs.ns.2]
  have hle := nowS_le hB hs hP.2.2 63
  rw [X1_looseBits (d + 3) n (by omega) M1 hs h1, bindI_some]
  try dsimp only
  have eL : (loS s (alS s (foS P s) 63)).1 = lbS P s 63 := rfl
  rw [eL]
  generalize hLL : lbS P s 63 = L at hL ⊢
  obtain ⟨M2, e2, D2, h2, w2, m2⟩ := loop_ex (fun i (zM : Mem) => X (d + 5) jX1_goBeat 19 [some (vR 1 n 0), some (vI (nI L)), some (vI (nI i))] [] zM) (fun i zM => Df (chg n) M zM ∧ Ch zM n (itr (fl1 L) i s) ∧ Wf B (itr (fl1 L) i s) ∧ Sm s (itr (fl1 L) i s)) (ntS s) M1 ⟨D1.mono scr_chg, h1, hs, rfl, rfl⟩ (fun i zM hi I => by
    obtain ⟨zD, zh, zw, zm⟩ := I
    have hst : itr (fl1 L) (i + 1) s = fl1 L i (itr (fl1 L) i s) := rfl
    rw [hst]
    generalize itr (fl1 L) i s = z at zh zw zm
    try dsimp only
    rw [B_X1_goBeat_19, zh.c1, zm.2, ht, ge_no hi (by omega), X5_hasBit _ _ hL (by omega), bindI_some]
    try dsimp only
    have zm' : Sm s (fl1 L i z) := ⟨(upd_ne (by omega)).trans zm.1, (upd_ne (by omega)).trans zm.2⟩
    by_cases c : bt L i
    · rw [if_pos c, ne_10]
      simp (disch := omega) only [ge_no, ob_no, ob_n2, cl_no, nI_1, le_self, zo_0, zo_1, bindI_some, bindV_some, bindL_some, ite_true, ite_false, if_true, if_false, or_true, true_or]
      rw [B_X1_goBeat_42, nI_1]
      refine ⟨_, rfl, zD.tr (Df.csA ⟨by decide, rfl, rfl⟩), ?_, zw.fl1 L (by omega), zm'⟩
      have := zh.u13 (i := i) (by omega) 1
      unfold fl1
      rw [if_pos c]
      exact this
    · rw [if_neg c, eq_00, B_X1_goBeat_42, nI_1]
      have e : fl1 L i z = z := by
        unfold fl1
        rw [if_neg c]
        exact upd_self rfl
      rw [e] at zm' ⊢
      exact ⟨_, rfl, zD, zh, zw, zm'⟩)
  have q1 : X (d + 5) jX1_goBeat 19 [some (vR 1 n 0), some (vI (nI L)), some (vI 0)] [] M1 = _ := e2
  rw [q1]
  try dsimp only
  rw [B_X1_goBeat_19, h2.c1, m2.2, ht, le_self, B_X1_goBeat_48]
  have hgA : itr (fl1 L) (ntS s) s = goA P s 63 := by unfold goA; rw [hLL]
  rw [hgA] at h2 w2 m2
  obtain ⟨M3, e3, D3, h3, w3, m3⟩ := loop_ex (fun i (zM : Mem) => X (d + 5) jX1_goBeat 50 [some (vR 1 n 0), some (vI (nI L)), some (vI (nI i))] [] zM) (fun i zM => Df (chg n) M zM ∧ Ch zM n (itr (ti1 P 63) i (goA P s 63)) ∧ Wf B (itr (ti1 P 63) i (goA P s 63)) ∧ Sm s (itr (ti1 P 63) i (goA P s 63))) (nsS s) M2 ⟨D2, h2, w2, m2⟩ (fun i zM hi I => by
    obtain ⟨zD, zh, zw, zm⟩ := I
    have hst : itr (ti1 P 63) (i + 1) (goA P s 63) = ti1 P 63 i (itr (ti1 P 63) i (goA P s 63)) := rfl
    rw [hst]
    generalize itr (ti1 P 63) i (goA P s 63) = z at zh zw zm
    try dsimp only
    have zm' : Sm s (ti1 P 63 i z) := ⟨(upd_ne (by omega)).trans zm.1, (upd_ne (by omega)).trans zm.2⟩
    have zw' : Wf B (ti1 P 63 i z) := zw.ti1 63 (by omega)
    obtain ⟨k1, k2, k3⟩ := hP.ch zD
    have hea := eaP_le k3
    have hwe := weP_le k3
    obtain ⟨t1, t2⟩ := zw.2.2.2.2.2.2.1.val (i := i) (by omega) (by decide)
    rw [B_X1_goBeat_50, zh.c0, zm.1, hn, ge_no hi (by omega), ob_no (by omega) (by omega), cl_no (by omega), zh.a8 (by omega), if_pos k1, k2.2.1, zh.a9 (by omega)]
    by_cases c : z (1 + i) = -1
    · rw [if_pos c, ob_n2 (by omega) (by omega), B_X1_goBeat_113]
      simp (disch := omega) only [ge_no, ob_no, ob_n2, cl_no, nI_1, le_self, zo_0, zo_1, bindI_some, bindV_some, bindL_some, ite_true, ite_false, if_true, if_false, or_true, true_or]
      refine ⟨_, rfl, zD.tr (Df.csA ⟨by decide, rfl, rfl⟩), ?_, zw', zm'⟩
      have e : ti1 P 63 i z = upd z (7 + i) (if 0 < z (7 + i) - nI (eaP P) then z (7 + i) - nI (eaP P) else 0) := by
        unfold ti1
        rw [if_neg (fun q => q.2 c), max_n]
        have : (z (7 + i) - nI (eaP P)).toNatClampNeg = (z (7 + i)).toNatClampNeg - eaP P := by
          rw [t1, ← iI_n, ← iI_n, iI_sub, iI_cl (by omega) (by omega), iI_n, cl_no (by omega)]
          omega
        rw [this]
      rw [e]
      exact zh.u9 (by omega) _
    · rw [if_neg c, B_X1_goBeat_94, ob_no (by omega) (by omega), if_pos k1, cl_no (by omega), zh.a9 (by omega), k2.2.2.1, B_X1_goBeat_113]
      simp (disch := omega) only [ge_no, ob_no, ob_n2, cl_no, nI_1, le_self, zo_0, zo_1, bindI_some, bindV_some, bindL_some, ite_true, ite_false, if_true, if_false, or_true, true_or]
      refine ⟨_, rfl, zD.tr (Df.csA ⟨by decide, rfl, rfl⟩), ?_, zw', zm'⟩
      have e : ti1 P 63 i z = upd z (7 + i) (if z (7 + i) + nI (weP P) < 99 then z (7 + i) + nI (weP P) else 99) := by
        unfold ti1
        rw [if_pos ⟨bt_63 (by omega), c⟩]
        have a99 : (99 : Int32) = nI 99 := rfl
        have : (if z (7 + i) + nI (weP P) < 99 then z (7 + i) + nI (weP P) else 99) = nI (min 99 ((z (7 + i)).toNatClampNeg + weP P)) := by
          rw [t1, nI_add, a99, cl_no (by omega)]
          by_cases l : (z (7 + i)).toNatClampNeg + weP P < 99
          · rw [if_pos (nI_lt l (by omega)), Nat.min_eq_right (by omega)]
          · rw [if_neg (nI_nlt (by omega) (by omega)), Nat.min_eq_left (by omega)]
        rw [this]
      rw [e]
      exact zh.u9 (by omega) _)
  have q2 : X (d + 5) jX1_goBeat 50 [some (vR 1 n 0), some (vI (nI L)), some (vI 0)] [] M2 = _ := e3
  rw [q2]
  try dsimp only
  rw [B_X1_goBeat_50, h3.c0, m3.1, hn, le_self, B_X1_goBeat_120]
  try dsimp only
  rw [J6_bitCount (d + 4) _ hL, bindI_some]
  refine ⟨_, rfl, D3.tr (Df.csI ⟨by decide, rfl, rfl⟩), ?_⟩
  rw [h3.c2]
  exact h3.v2 _
