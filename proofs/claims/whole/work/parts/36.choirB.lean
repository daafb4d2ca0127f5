/-! how much is borne -/
def apx (x y : Int32) : Int32 := (if 0 ≤ x - y then x - y else 0 - (x - y)) - (if 0 ≤ x - y then x - y else 0 - (x - y)) / 12 * 12
theorem tune_eq : ∀ a, a < 24 → ∀ b, b < 24 → decide ((((953 : Int32) >>> (apx (nI a) (nI b) &&& 31)) &&& 1) = 0) = !tuS (nI a) (nI b) := by decide +kernel
theorem X5_hasBitT (d : Nat) (M : Mem) {x y : Int32} (hx : NtOk x) (hy : NtOk y) (h1 : ¬ x = -1) (h2 : ¬ y = -1) : XC (d + 1) jX5_hasBit [vI 953, vI ((if 0 ≤ x - y then x - y else 0 - (x - y)) - (if 0 ≤ x - y then x - y else 0 - (x - y)) / 12 * 12)] M = some (some (vI (if tuS x y = true then 1 else 0)), M) := by
  rcases hx with hx | ⟨a, ha, rfl⟩
  · exact absurd hx h1
  rcases hy with hy | ⟨b, hb, rfl⟩
  · exact absurd hy h2
  have e := tune_eq a (by omega) b (by omega)
  refine Eq.trans (X5_hasBitG d M 953 (apx (nI a) (nI b))) ?_
  by_cases h : tuS (nI a) (nI b) = true
  · rw [h] at e
    rw [if_neg (of_decide_eq_false e), if_pos h]
  · rw [Bool.eq_false_iff.mpr h] at e
    rw [if_pos (of_decide_eq_true e), if_neg h]
/-- a set of those that sing -/
def Sub (s : St) (a : Nat) : Prop := a < 64 ∧ ∀ q, q < 6 → bt a q → sg s q
theorem Wf.note {B : Nat} {s : St} (hs : Wf B s) {i : Nat} (hi : i < 6) : NtOk (s (1 + i)) := hs.2.2.2.2.2.1 i hi
theorem nI_ne {a b : Nat} (ha : a < 2 ^ 31) (hb : b < 2 ^ 31) (h : ¬ a = b) : ¬ nI a = nI b := fun q => h ((nI_eq ha hb).mp q)
theorem X1_partners (d n : Nat) (M : Mem) {B : Nat} {s : St} (hs : Wf B s) (h : Ch M n s) {a p : Nat} (ha : Sub s a) (hp : p < 6) (hsg : sg s p) : XC (d + 2) jX1_partners [vR 1 n 0, vI (nI p), vI (nI a)] M = some (some (vI (nI (paS s a p))), M) := by
  obtain ⟨hn, h6⟩ := hs.ns
  rw [E_X1_partners]
  refine Eq.trans (loop_all (fun i (z : Nat) => X (d + 1) jX1_partners 5 [some (vR 1 n 0), some (vI (nI p)), some (vI (nI a)), some (vI (nI z)), some (vI (nI i)), none] [] M) (fun q z => if q ≠ p ∧ bt a q ∧ sg s q ∧ tuS (s (1 + p)) (s (1 + q)) = true then z + 1 else z) (nsS s) 0 (fun q z hi => ?_)) ?_
  · try dsimp only
    rw [B_X1_partners_5, h.c0, hn]
    simp (disch := omega) only [ge_no, ob_no, ob_n2, cl_no, nI_1, le_self, zo_0, zo_1, bindI_some, bindV_some, bindL_some, ite_true, ite_false, if_true, if_false, or_true, true_or, h.a8]
    by_cases h1 : q = p
    · subst h1
      rw [if_pos rfl, if_neg (fun z => z.1 rfl), B_X1_partners_65, nI_1]
    · rw [if_neg (nI_ne (by omega) (by omega) h1), X5_hasBit _ _ ha.1 (by omega)]
      by_cases h2 : bt a q
      · have h3 := ha.2 q (by omega) h2
        simp only [if_pos h2, ge_no, ob_no, ob_n2, cl_no, nI_1, le_self, zo_0, zo_1, bindI_some, bindV_some, bindL_some, ite_true, ite_false, if_true, if_false, or_true, true_or, ne_10, X5_hasBitT _ _ (hs.note hp) (hs.note (i := q) (by omega)) hsg h3]
        by_cases h4 : tuS (s (1 + p)) (s (1 + q)) = true
        · rw [if_pos h4, ne_10, if_pos ⟨h1, h2, h3, h4⟩, B_X1_partners_65, nI_1]
        · rw [if_neg h4, eq_00, if_neg (fun z => h4 z.2.2.2), B_X1_partners_65, nI_1]
      · simp only [if_neg h2, ge_no, ob_no, ob_n2, cl_no, nI_1, le_self, zo_0, zo_1, bindI_some, bindV_some, bindL_some, ite_true, ite_false, if_true, if_false, or_true, true_or, eq_00]
        rw [if_neg (fun z => h2 z.2.1), B_X1_partners_65, nI_1]
  · try dsimp only
    rw [B_X1_partners_5, h.c0, hn, le_self, B_X1_partners_71]; rfl
theorem paS_le (s : St) (a p : Nat) : paS s a p ≤ nsS s := itr_inv (fun i z => z ≤ i) (nsS s) (Nat.le_refl _) (fun i z hi hz => by
  try dsimp only
  split <;> omega)
/-- the forces as measured -/
def Fo (M : Mem) (n : Nat) (s : St) (f : Nat → Nat) : Prop := ∀ i, i < nsS s → cA M 1 n 14 i = nI (f i) ∧ f i ≤ 2100
theorem X1_bearing (d n : Nat) (M : Mem) {B : Nat} {s : St} {f : Nat → Nat} (hs : Wf B s) (h : Ch M n s) (hf : Fo M n s f) {a p : Nat} (ha : Sub s a) (hp : p < nsS s) (hb : bt a p) : XC (d + 3) jX1_bearing [vR 1 n 0, vI (nI p), vI (nI a)] M = some (some (vI (nI (beS s f a p))), M) := by
  obtain ⟨hn, h6⟩ := hs.ns
  obtain ⟨f1, f2⟩ := hf p hp
  have hsg := ha.2 p (by omega) hb
  have hpa := paS_le s a p
  rw [E_X1_bearing, X1_partners d n M hs h ha (by omega) hsg]
  simp (disch := omega) only [ge_no, ob_no, ob_n2, cl_no, nI_1, le_self, zo_0, zo_1, bindI_some, bindV_some, bindL_some, ite_true, ite_false, if_true, if_false, or_true, true_or, f1, B_X1_bearing_22, B_X1_bearing_30]
  have e9 : beS s f a p = if paS s a p = 0 then f p / 2 else f p * paS s a p := if_pos ⟨hb, hsg⟩
  rw [e9]
  by_cases h0 : paS s a p = 0
  · have e : nI (paS s a p) = 0 := by rw [h0]; rfl
    have e2 : (2 : Int32) = nI 2 := rfl
    rw [if_pos e, if_pos h0, e2, nI_div (by omega) (by omega) (by omega)]
  · rw [if_neg (nI_ne0 (by omega) (by omega)), if_neg h0, nI_mul]
theorem beS_le {s : St} {f : Nat → Nat} (a : Nat) {p : Nat} (h6 : nsS s ≤ 6) (hf : f p ≤ 2100) : beS s f a p ≤ 12600 := by
  have hpa := paS_le s a p
  unfold beS
  split
  · split
    · omega
    · exact Nat.le_trans (Nat.mul_le_mul hf (Nat.le_trans hpa h6)) (by omega)
  · omega
theorem alS_le {s : St} {f : Nat → Nat} (a : Nat) (h6 : nsS s ≤ 6) (hf : ∀ i, i < nsS s → f i ≤ 2100) : alS s f a ≤ 75600 := by
  have := itr_inv (f := fun p z => z + beS s f a p) (s := 0) (fun i z => z ≤ 12600 * i) (nsS s) (Nat.le_refl _) (fun i z hi hz => by
    have := beS_le a (p := i) h6 (hf i hi)
    try dsimp only
    omega)
  exact Nat.le_trans this (by omega)
theorem X1_allOf (d n : Nat) (M : Mem) {B : Nat} {s : St} {f : Nat → Nat} (hs : Wf B s) (h : Ch M n s) (hf : Fo M n s f) {a : Nat} (ha : Sub s a) : XC (d + 4) jX1_allOf [vR 1 n 0, vI (nI a)] M = some (some (vI (nI (alS s f a))), M) := by
  obtain ⟨hn, h6⟩ := hs.ns
  rw [E_X1_allOf]
  refine Eq.trans (loop_all (fun i (z : Nat) => X (d + 3) jX1_allOf 4 [some (vR 1 n 0), some (vI (nI a)), some (vI (nI z)), some (vI (nI i))] [] M) (fun p z => z + beS s f a p) (nsS s) 0 (fun q z hi => ?_)) ?_
  · try dsimp only
    rw [B_X1_allOf_4, h.c0, hn, X5_hasBit _ _ ha.1 (by omega)]
    by_cases hb : bt a q
    · simp (disch := omega) only [ge_no, ob_no, ob_n2, cl_no, nI_1, le_self, zo_0, zo_1, bindI_some, bindV_some, bindL_some, ite_true, ite_false, if_true, if_false, or_true, true_or, if_pos hb, ne_10, X1_bearing d n M hs h hf ha hi hb]
      rw [B_X1_allOf_29, nI_add, nI_1]
    · simp (disch := omega) only [ge_no, ob_no, ob_n2, cl_no, nI_1, le_self, zo_0, zo_1, bindI_some, bindV_some, bindL_some, ite_true, ite_false, if_true, if_false, or_true, true_or, if_neg hb, eq_00]
      have e : beS s f a q = 0 := if_neg (fun z => hb z.1)
      rw [B_X1_allOf_29, nI_1, e]; rfl
  · try dsimp only
    rw [B_X1_allOf_4, h.c0, hn, le_self, B_X1_allOf_35]; rfl
