/-! chord -/
def abv (i : Nat) : Nat := if i = 0 then 0 else if i = 1 then 2 else if i = 2 then 4 else if i = 3 then 5 else 7
def cN (s : St) (p i : Nat) : Nat := min 23 (loS' s p + abv i)
def cF (P : List Cl) (s : St) (p i : Nat) : Nat := foS P (upd s (1 + p) (nI (cN s p i))) p
/-- all but the notes -/
def agr (s z : St) (n : Nat) : Prop := ∀ k, k = 0 ∨ 7 ≤ k ∨ n < k → z k = s k
theorem cN_le (s : St) (p i : Nat) : cN s p i ≤ 23 := Nat.min_le_left _ _
theorem foS_own (P : List Cl) {z y : St} {p : Nat} (h : ∀ k, k = 0 ∨ 7 ≤ k ∨ k = 1 + p → z k = y k) : foS P z p = foS P y p := by
  have e2 : strS z p = strS y p := by
    unfold strS
    rw [h (1 + p) (by omega), h (27 + p) (by omega), h (33 + p) (by omega), h 0 (by omega), h (45 + (4 * p + (y 0).toNatClampNeg % 4)) (by omega)]
  have e3 : ∀ k, k < 6 → abS z p k = abS y p k := fun k hk => by
    unfold abS
    rw [h (1 + p) (by omega), h (27 + p) (by omega), h (33 + p) (by omega), h (7 + p) (by omega), h 0 (by omega)]
  unfold foS sg
  rw [h (1 + p) (by omega), e2, gnP_cg e3, h (7 + p) (by omega)]
theorem cF_eq (P : List Cl) {s z : St} {n p i : Nat} (h : agr s z n) (hz : z (1 + p) = nI (cN s p i)) : foS P z p = cF P s p i := foS_own P (fun k hk => by
  by_cases e : k = 1 + p
  · subst e; rw [upd_same, hz]
  · rw [upd_ne e]; exact h k (by omega))
theorem cF_le {B : Nat} (hB : B < 2 ^ 30) {s : St} (hs : Wf B s) {P : List Cl} (hP : WfP P) {p : Nat} (hp : p < 6) (i : Nat) : cF P s p i ≤ 2100 := foS_le hB (hs.u8 hp (Or.inr ⟨_, cN_le s p i, rfl⟩)) hP hp
theorem abv_sta : ∀ i, i < 5 → staB 0 i = nI (abv i) := by decide +kernel
theorem abv_le : ∀ i, i < 5 → abv i ≤ 7 := by decide +kernel
theorem cN_p {B : Nat} {s : St} (hs : Wf B s) {p i : Nat} (hp : p < 6) (hi : i < 5) : (if s (39 + p) + staB 0 i < 23 then s (39 + p) + staB 0 i else 23) = nI (cN s p i) := by
  obtain ⟨l1, l2⟩ := hs.2.2.2.2.1.val (i := p) hp (by decide)
  have ht := abv_le i hi
  rw [abv_sta i hi]
  unfold cN loS'
  generalize abv i = t at ht ⊢
  generalize (s (39 + p)).toNatClampNeg = l at l1 l2 ⊢
  rw [l1, nI_add]
  by_cases c : l + t < 23
  · have c2 : nI (l + t) < 23 := nI_lt (b := 23) c (by omega)
    rw [if_pos c2, Nat.min_eq_right (by omega)]
  · have c2 : ¬ nI (l + t) < 23 := nI_nlt (b := 23) (by omega) (by omega)
    rw [if_neg c2, Nat.min_eq_left (by omega)]
    rfl
theorem X5_chordNote (d : Nat) {M : Mem} {B : Nat} {s : St} (hs : Wf B s) (hC : Ch M 0 s) {p i : Nat} (hp : p < 6) (hi : i < 5) : XC (d + 1) jX5_chordNote [vR 5 0 0, vI (nI p), vI (nI i)] M = some (some (vI (nI (cN s p i))), M) := by
  rw [E_X5_chordNote, ob_no (by omega) (by omega), ob_no (by omega) (by omega), cl_no (by omega), cl_no (by omega), hC.a7 hp, cN_p hs hp hi]
theorem X6_noteAbove (d : Nat) {M : Mem} {B : Nat} {s : St} (hs : Wf B s) {p : Nat} (hA : rA M 2 (39 + p) = s (39 + p)) (hp : p < 6) {i : Nat} (hi : i < 5) : XC (d + 1) jX6_noteAbove [vR 6 0 0, vI (nI p), vI (nI i)] M = some (some (vI (nI (cN s p i))), M) := by
  obtain ⟨l1, l2⟩ := hs.2.2.2.2.1.val (i := p) hp (by decide)
  have fin : ∀ (t : Nat) (x : Int32), x = nI t → t ≤ 7 → X d jX6_noteAbove 46 [none, none, none, none] [vI x, vI (s (39 + p))] M = some (some (vI (nI (min 23 (loS' s p + t)))), M) := fun t x hx ht => by
    subst hx
    unfold loS'
    generalize (s (39 + p)).toNatClampNeg = l at l1 l2 ⊢
    rw [B_X6_noteAbove_46, l1, nI_add]
    by_cases c : l + t ≤ 23
    · have c2 : nI (l + t) ≤ 23 := nI_le (b := 23) c (by omega)
      rw [if_pos c2, B_X6_noteAbove_59, B_X6_noteAbove_60, Nat.min_eq_right c]
    · have c2 : ¬ nI (l + t) ≤ 23 := nI_ge (a := 23) (by omega) (by omega)
      rw [if_neg c2, B_X6_noteAbove_60, Nat.min_eq_left (by omega)]
      rfl
  have n0 : nI 0 = 0 := rfl
  have n1 : nI 1 = 1 := rfl
  have n2 : nI 2 = 2 := rfl
  have n3 : nI 3 = 3 := rfl
  have n4 : nI 4 = 4 := rfl
  have m40 : ¬ (4 : Int32) = 0 := by decide
  have m41 : ¬ (4 : Int32) = 1 := by decide
  have m42 : ¬ (4 : Int32) = 2 := by decide
  have m43 : ¬ (4 : Int32) = 3 := by decide
  have m30 : ¬ (3 : Int32) = 0 := by decide
  have m31 : ¬ (3 : Int32) = 1 := by decide
  have m32 : ¬ (3 : Int32) = 2 := by decide
  have m20 : ¬ (2 : Int32) = 0 := by decide
  have m21 : ¬ (2 : Int32) = 1 := by decide
  rw [E_X6_noteAbove, la39, ob_no (by omega) (by omega), cl_no (by omega), hA]
  unfold cN
  rcases (by omega : i = 0 ∨ i = 1 ∨ i = 2 ∨ i = 3 ∨ i = 4) with rfl | rfl | rfl | rfl | rfl
  · rw [n0, eq_00]; exact fin (abv 0) 0 (by decide +kernel) (by decide +kernel)
  · rw [n1, ne_10, B_X6_noteAbove_17, eq_00]; exact fin (abv 1) 2 (by decide +kernel) (by decide +kernel)
  · rw [n2, if_neg m20, B_X6_noteAbove_17, if_neg m21, B_X6_noteAbove_26, eq_00]; exact fin (abv 2) 4 (by decide +kernel) (by decide +kernel)
  · rw [n3, if_neg m30, B_X6_noteAbove_17, if_neg m31, B_X6_noteAbove_26, if_neg m32, B_X6_noteAbove_35, eq_00]; exact fin (abv 3) 5 (by decide +kernel) (by decide +kernel)
  · rw [n4, if_neg m40, B_X6_noteAbove_17, if_neg m41, B_X6_noteAbove_26, if_neg m42, B_X6_noteAbove_35, if_neg m43, B_X6_noteAbove_44]; exact fin (abv 4) 7 (by decide +kernel) (by decide +kernel)
/-- digits of a chord's number -/
def dg (p c q : Nat) : Nat := c / 5 ^ (p - 1 - q) % 5
theorem dg_lt (p c q : Nat) : dg p c q < 5 := Nat.mod_lt _ (by decide)
theorem dg_old {p c i q : Nat} (hq : q < p) (hi : i < 5) : dg (p + 1) (5 * c + i) q = dg p c q := by
  unfold dg
  have e : p + 1 - 1 - q = (p - 1 - q) + 1 := by omega
  have e2 : (5 * c + i) / 5 = c := by omega
  rw [e, Nat.pow_succ, Nat.mul_comm (5 ^ (p - 1 - q)) 5, ← Nat.div_div_eq_div_mul, e2]
theorem dg_new {p c i : Nat} (hi : i < 5) : dg (p + 1) (5 * c + i) p = i := by
  unfold dg
  have e : p + 1 - 1 - p = 0 := by omega
  rw [e, Nat.pow_zero, Nat.div_one]
  omega
def chR (s : St) (n c : Nat) : St := fun k => if 1 ≤ k ∧ k < 1 + n then nI (cN s (k - 1) (dg n c (k - 1))) else s k
def chF (P : List Cl) (s : St) (n c q : Nat) : Nat := cF P s q (dg n c q)
def chV (P : List Cl) (s : St) (n c : Nat) : Nat := alS (chR s n c) (chF P s n c) 63
def ch1 (P : List Cl) (s : St) (n c : Nat) (o : Option (Nat × Nat)) : Option (Nat × Nat) := match o with
  | none => some (c, chV P s n c)
  | some (f, m) => if m < chV P s n c then some (c, chV P s n c) else some (f, m)
def chS (P : List Cl) (s : St) (n m : Nat) : Option (Nat × Nat) := itr (ch1 P s n) m none
theorem ch1_new {P : List Cl} {s : St} {n c f m : Nat} (h : m < chV P s n c) : ch1 P s n c (some (f, m)) = some (c, chV P s n c) := if_pos h
theorem ch1_old {P : List Cl} {s : St} {n c f m : Nat} (h : ¬ m < chV P s n c) : ch1 P s n c (some (f, m)) = some (f, m) := if_neg h
theorem chR_at (s : St) (n c : Nat) {q : Nat} (hq : q < n) : chR s n c (1 + q) = nI (cN s q (dg n c q)) := by
  unfold chR
  rw [if_pos (show 1 ≤ 1 + q ∧ 1 + q < 1 + n from ⟨by omega, by omega⟩), show 1 + q - 1 = q by omega]
theorem chR_agr (s : St) {n : Nat} (hn : n ≤ 6) (c : Nat) : agr s (chR s n c) n := fun k hk => if_neg (fun q => by omega)
theorem chR_eq {s z : St} {n c : Nat} (hn : n ≤ 6) (h : agr s z n) (hz : ∀ q, q < n → z (1 + q) = nI (cN s q (dg n c q))) : z = chR s n c := by
  funext k
  by_cases e : 1 ≤ k ∧ k < 1 + n
  · have h1 := hz (k - 1) (by omega)
    have h2 := chR_at s n c (q := k - 1) (by omega)
    rw [show 1 + (k - 1) = k by omega] at h1 h2
    rw [h1, h2]
  · have h2 : chR s n c k = s k := if_neg e
    rw [h2]
    exact h k (by omega)
theorem chV_le {B : Nat} (hB : B < 2 ^ 30) {s : St} (hs : Wf B s) {P : List Cl} (hP : WfP P) {n : Nat} (hn : n = nsS s) (h5 : n ≤ 5) (c : Nat) : chV P s n c ≤ 75600 := by
  have e : nsS (chR s n c) = nsS s := by unfold nsS; rw [chR_agr s (by omega) c 19 (by omega)]
  exact alS_le 63 (by omega) (fun i hi => cF_le hB hs hP (by omega) _)
def chO (P : List Cl) (s : St) (n m : Nat) (o : Option (Nat × Nat)) : Prop := match o with
  | none => m = 0
  | some (f, v) => f < m ∧ v = chV P s n f
theorem chS_ok (P : List Cl) (s : St) (n : Nat) : ∀ m, chO P s n m (chS P s n m)
  | 0 => rfl
  | m + 1 => by
    have ih := chS_ok P s n m
    have e : chS P s n (m + 1) = ch1 P s n m (chS P s n m) := rfl
    rw [e]
    match chS P s n m, ih with
    | none, _ => exact ⟨Nat.lt_succ_self m, rfl⟩
    | some (f, v), ih =>
      by_cases c : v < chV P s n m
      · rw [ch1_new c]; exact ⟨Nat.lt_succ_self m, rfl⟩
      · rw [ch1_old c]; exact ⟨Nat.lt_succ_of_lt ih.1, ih.2⟩
theorem chS_some (P : List Cl) (s : St) (n : Nat) {m : Nat} (hm : 0 < m) : ∃ f, chS P s n m = some (f, chV P s n f) ∧ f < m := by
  have h := chS_ok P s n m
  match hc : chS P s n m, h with
  | none, h => exact absurd h (by show ¬ m = 0; omega)
  | some (f, v), h => exact ⟨f, by rw [h.2], h.1⟩
