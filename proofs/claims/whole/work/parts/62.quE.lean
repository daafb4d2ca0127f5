/-! best, ill, canon -/
theorem upd_upd {f : Nat → Int32} {k : Nat} {x y : Int32} : upd (upd f k x) k y = upd f k y := by
  funext j
  by_cases q : j = k
  · subst q; rw [upd_same, upd_same]
  · rw [upd_ne q, upd_ne q, upd_ne q]
theorem upd_comm {f : Nat → Int32} {k j : Nat} {x y : Int32} (h : ¬ k = j) : upd (upd f k x) j y = upd (upd f j y) k x := by
  funext i
  by_cases q : i = k
  · subst q; rw [upd_ne h, upd_same, upd_same]
  · rw [upd_ne (k := k) q]
    by_cases q2 : i = j
    · subst q2; rw [upd_same, upd_same]
    · rw [upd_ne q2, upd_ne q2, upd_ne q]
theorem rng {α : Type} {x lo hi : Int32} {A B : α} : (if x < lo then A else (if x ≤ hi then B else A)) = if lo ≤ x ∧ x ≤ hi then B else A := by
  by_cases a : x < lo
  · rw [if_pos a, if_neg (fun q => absurd (Int32.lt_of_le_of_lt q.1 a) (Int32.lt_irrefl))]
  · rw [if_neg a]
    by_cases b : x ≤ hi
    · rw [if_pos b, if_pos ⟨Int32.not_lt.mp a, b⟩]
    · rw [if_neg b, if_neg (fun q => b q.2)]
def loS' (s : St) (p : Nat) : Nat := (s (39 + p)).toNatClampNeg
def bnV (P : List Cl) (z : St) (p n : Nat) : Nat := nowS P (upd z (1 + p) (nI n))
def bn1 (P : List Cl) (z : St) (p i : Nat) (o : Option (Nat × Nat)) : Option (Nat × Nat) := match o with
  | none => some (loS' z p + i, bnV P z p (loS' z p + i))
  | some (n, a) => if a < bnV P z p (loS' z p + i) then some (loS' z p + i, bnV P z p (loS' z p + i)) else some (n, a)
def bnS (P : List Cl) (z : St) (p k : Nat) : Option (Nat × Nat) := itr (bn1 P z p) k none
def neX (o : Option (Nat × Nat)) : Int32 := match o with
  | none => -1
  | some (n, _) => nI n
def bnO (P : List Cl) (z : St) (p : Nat) (o : Option (Nat × Nat)) : Prop := match o with
  | none => True
  | some (n, a) => n ≤ 23 ∧ a ≤ 75600 ∧ a = bnV P z p n
theorem hiS_ge {B : Nat} {s : St} (hs : Wf B s) {p : Nat} (hp : p < 6) : s (39 + p) = nI (loS' s p) ∧ loS' s p ≤ hiS s p ∧ hiS s p ≤ 23 := by
  obtain ⟨l1, l2⟩ := hs.2.2.2.2.1.val (i := p) hp (by decide)
  refine ⟨l1, ?_, ?_⟩
  · unfold hiS loS'
    omega
  · unfold hiS
    omega
theorem bnV_le {B : Nat} (hB : B < 2 ^ 30) {z : St} (hs : Wf B z) {P : List Cl} (hP : WfP P) {p : Nat} (hp : p < 6) {n : Nat} (hn : n ≤ 23) : bnV P z p n ≤ 75600 := (hs.u8 hp (Or.inr ⟨n, hn, rfl⟩)).now hB hP
theorem bn1_ok {B : Nat} (hB : B < 2 ^ 30) {z : St} (hs : Wf B z) {P : List Cl} (hP : WfP P) {p : Nat} (hp : p < 6) {i : Nat} (hi : i < hiS z p + 1 - loS' z p) {o : Option (Nat × Nat)} (ho : bnO P z p o) : bnO P z p (bn1 P z p i o) := by
  obtain ⟨g1, g2, g3⟩ := hiS_ge hs hp
  have hn : loS' z p + i ≤ 23 := by omega
  have hl := bnV_le hB hs hP hp hn
  unfold bn1
  match o, ho with
  | none, _ => exact ⟨hn, hl, rfl⟩
  | some (n, a), ho =>
    simp only
    split
    · exact ⟨hn, hl, rfl⟩
    · exact ho
/-- behind the first note there is a best one -/
theorem bnS_some {B : Nat} (hB : B < 2 ^ 30) {z : St} (hs : Wf B z) {P : List Cl} (hP : WfP P) {p : Nat} (hp : p < 6) : ∃ n a, bnS P z p (hiS z p + 1 - loS' z p) = some (n, a) ∧ n ≤ 23 ∧ a ≤ 75600 ∧ a = bnV P z p n := by
  obtain ⟨g1, g2, g3⟩ := hiS_ge hs hp
  have h1 := itr_inv (f := bn1 P z p) (s := none) (fun i o => bnO P z p o ∧ (0 < i → ¬ o = none)) (hiS z p + 1 - loS' z p) ⟨trivial, fun h => absurd h (by omega)⟩ (fun i o hi ho => ⟨bn1_ok hB hs hP hp hi ho.1, fun _ => by
    unfold bn1
    match o with
    | none => simp
    | some (n, a) =>
      simp only
      split <;> simp⟩)
  have e : itr (bn1 P z p) (hiS z p + 1 - loS' z p) none = bnS P z p (hiS z p + 1 - loS' z p) := rfl
  rw [e] at h1
  match bnS P z p (hiS z p + 1 - loS' z p), h1 with
  | none, h1 => exact absurd rfl (h1.2 (by omega))
  | some (n, a), h1 => exact ⟨n, a, rfl, h1.1⟩
theorem nI_m1 {w : Nat} (h : w < 2 ^ 31) : ¬ nI w = -1 := fun q => absurd (q ▸ (by decide : (-1 : Int32) < 0)) (nI_pos h)
theorem nI_gm1 {w : Nat} (h : w < 2 ^ 31) : ¬ nI w ≤ -1 := fun q => absurd (Int32.lt_of_le_of_lt q (by decide : (-1 : Int32) < 0)) (nI_pos h)
theorem bestNote_cls (d : Nat) {B : Nat} (hB : B < 2 ^ 30) {s z : St} {P : List Cl} {M0 M : Mem} (hs : Wf B s) (hC : Ch M0 0 s) (T : TC M0 B z P M) {p : Nat} (hp : p < 6) (hz : z (39 + p) = s (39 + p)) {n a : Nat} (hb : bnS P z p (hiS z p + 1 - loS' z p) = some (n, a)) : ∃ M', XC (d + 8) jX5_bestNote [vR 5 0 0, vI (nI p)] M = some (some (vI (nI n)), M') ∧ TC M0 B z P M' := by
  have hw := T.2.2.2
  have hP := T.2.2.1.2.2
  obtain ⟨g1, g2, g3⟩ := hiS_ge hw hp
  have hh : hiS s p = hiS z p := by unfold hiS; rw [hz]
  obtain ⟨M', e, ⟨x, T'⟩, _⟩ := loop_ex (fun i (zM : Mem) => X (d + 7) jX5_bestNote 26 [some (vR 5 0 0), some (vI (nI p)), some (vI (z (1 + p))), some (vI (neX (bnS P z p i))), some (vI (neL 0 (bnS P z p i))), some (vI (nI (loS' z p + i))), none] [] zM) (fun i zM => (∃ x, TC M0 B (upd z (1 + p) x) P zM) ∧ bnO P z p (bnS P z p i)) (hiS z p + 1 - loS' z p) M ⟨⟨z (1 + p), by rw [upd_self rfl]; exact T⟩, trivial⟩ (fun i zM hi I => by
    obtain ⟨⟨x, zT⟩, ho⟩ := I
    have hn : loS' z p + i ≤ 23 := by omega
    have T1 := zT.note hp (x := nI (loS' z p + i)) (Or.inr ⟨_, hn, rfl⟩)
    rw [upd_upd] at T1
    obtain ⟨M2, e2, T2, _⟩ := T1.allNow (d + 1) hB
    refine ⟨M2, ?_, ⟨_, T2⟩, bn1_ok hB hw hP hp hi ho⟩
    have hl := bnV_le hB hw hP hp hn
    have ev : nowS P (upd z (1 + p) (nI (loS' z p + i))) = bnV P z p (loS' z p + i) := rfl
    try dsimp only
    have es : bnS P z p (i + 1) = bn1 P z p i (bnS P z p i) := rfl
    rw [B_X5_bestNote_26, X1_highOf (d + 6) 0 zM hs (zT.now hC) hp, bindI_some, hh, if_neg (nI_nlt (by omega) (by omega)), ob_no (by omega) (by omega), cl_no (by omega)]
    try dsimp only
    rw [e2, bindI_some, es, ev]
    unfold bn1
    match hm : bnS P z p i, ho with
    | none, _ => rw [show neX none = -1 from rfl, if_pos rfl, B_X5_bestNote_71, B_X5_bestNote_78, nI_1]; rfl
    | some (m, b), ho =>
      have h1 : m ≤ 23 := ho.1
      have h2 : b ≤ 75600 := ho.2.1
      have em : neX (some (m, b)) = nI m := rfl
      have eb : neL 0 (some (m, b)) = nI b := rfl
      rw [em, if_neg (nI_m1 (by omega)), eb]
      by_cases c : b < bnV P z p (loS' z p + i)
      · rw [if_neg (nI_ge c (by omega)), B_X5_bestNote_71, B_X5_bestNote_78, nI_1]
        simp only [if_pos c]
        rfl
      · rw [if_pos (nI_le (by omega) (by omega)), B_X5_bestNote_78, nI_1]
        simp only [if_neg c]
        rfl)
  have T3 := T'.note hp (x := z (1 + p)) (hw.note hp)
  rw [upd_upd, upd_self rfl] at T3
  refine ⟨_, ?_, T3⟩
  rw [E_X5_bestNote, ob_no (by omega) (by omega), cl_no (by omega), ob_n2 (by omega) (by omega), T.2.1.a8 hp]
  try dsimp only
  rw [(T.now hC).a7 hp, ← hz, g1]
  have e' : X (d + 7) jX5_bestNote 26 [some (vR 5 0 0), some (vI (nI p)), some (vI (z (1 + p))), some (vI (-1)), some (vI 0), some (vI (nI (loS' z p))), none] [] M = _ := e
  rw [e', hb]
  try dsimp only
  rw [B_X5_bestNote_26, X1_highOf (d + 6) 0 M' hs (T'.now hC) hp, bindI_some, hh, if_pos (nI_lt (by omega) (by omega)), B_X5_bestNote_84, ob_no (by omega) (by omega), cl_no (by omega)]
  rfl
theorem looksForNote_ref (d : Nat) {B : Nat} (hB : B < 2 ^ 30) {s z : St} {P : List Cl} {N0 N : Mem} (T : TR N0 B s z P N) {p : Nat} (hp : p < 6) {n a : Nat} (hb : bnS P z p (hiS z p + 1 - loS' z p) = some (n, a)) : ∃ N', XC (d + 7) jX6_looksForNote [vR 6 0 0, vI (nI p)] N = some (none, N') ∧ TR N0 B s z P N' ∧ rI N' 13 = nI n ∧ rI N' 14 = nI a := by
  have hw := T.2.2.2.2
  have hP := T.2.2.2.1.1
  have hA := T.2.1
  obtain ⟨g1, g2, g3⟩ := hiS_ge hw hp
  have hT0 : TR N0 B s z P (rsI (rsI N 13 (-1)) 14 (-1)) := (T.I (Or.inl rfl) _).I (Or.inr rfl) _
  obtain ⟨N', e, ⟨x, T'⟩, _, r13, r14⟩ := loop_ex (fun i (zM : Mem) => X (d + 6) jX6_looksForNote 29 [some (vR 6 0 0), some (vI (nI p)), some (vI (z (1 + p))), some (vI (nI (loS' z p + i))), none] [] zM) (fun i zM => (∃ x, TR N0 B s (upd z (1 + p) x) P zM) ∧ bnO P z p (bnS P z p i) ∧ rI zM 13 = neX (bnS P z p i) ∧ rI zM 14 = neL (-1) (bnS P z p i)) (hiS z p + 1 - loS' z p) (rsI (rsI N 13 (-1)) 14 (-1)) ⟨⟨z (1 + p), by rw [upd_self rfl]; exact hT0⟩, trivial, rfl, rfl⟩ (fun i zM hi I => by
    obtain ⟨⟨x, zT⟩, ho, q13, q14⟩ := I
    have hn : loS' z p + i ≤ 23 := by omega
    have T1 := zT.note hp (x := nI (loS' z p + i)) (Or.inr ⟨_, hn, rfl⟩)
    rw [upd_upd] at T1
    obtain ⟨M2, e2, T2, _, ri⟩ := T1.allNow d hB
    have i13 : rI M2 13 = rI zM 13 := ri 13
    have i14 : rI M2 14 = rI zM 14 := ri 14
    have hl := bnV_le hB hw hP hp hn
    have ev : nowS P (upd z (1 + p) (nI (loS' z p + i))) = bnV P z p (loS' z p + i) := rfl
    have es : bnS P z p (i + 1) = bn1 P z p i (bnS P z p i) := rfl
    have hh : hiS (upd z (1 + p) x) p = hiS z p := by unfold hiS; rw [upd_ne (by omega)]
    try dsimp only
    rw [es, B_X6_looksForNote_29, X6_highOf (d + 5) zT.2.2.2.2 zT.2.1 hp, bindI_some, hh, if_neg (nI_nlt (by omega) (by omega)), la1, ob_no (by omega) (by omega), cl_no (by omega)]
    try dsimp only
    rw [e2, bindI_some, i14, q14, ev]
    unfold bn1
    have new : ∀ o : Option (Nat × Nat), ¬ nI (bnV P z p (loS' z p + i)) ≤ neL (-1) o → neL (-1) o = neL (-1) (bnS P z p i) → ∃ s', (if nI (bnV P z p (loS' z p + i)) ≤ neL (-1) (bnS P z p i) then X (d + 6) jX6_looksForNote 67 [some (vR 6 0 0), some (vI (nI p)), some (vI (z (1 + p))), some (vI (nI (loS' z p + i))), some (vI (nI (bnV P z p (loS' z p + i))))] [vR 6 0 0] M2 else X (d + 6) jX6_looksForNote 71 [some (vR 6 0 0), some (vI (nI p)), some (vI (z (1 + p))), some (vI (nI (loS' z p + i))), some (vI (nI (bnV P z p (loS' z p + i))))] [vI (nI (loS' z p + i)), vR 6 0 0] M2) = X (d + 6) jX6_looksForNote 29 [some (vR 6 0 0), some (vI (nI p)), some (vI (z (1 + p))), some (vI (nI (loS' z p + (i + 1)))), none] [] s' ∧ (∃ x, TR N0 B s (upd z (1 + p) x) P s') ∧ rI s' 13 = nI (loS' z p + i) ∧ rI s' 14 = nI (bnV P z p (loS' z p + i)) := fun o c eo => by
      rw [eo] at c
      rw [if_neg c, B_X6_looksForNote_71]
      try dsimp only
      have r : rI (rsI M2 13 (nI (loS' z p + i))) 14 = neL (-1) (bnS P z p i) := by
        rw [rI_rsI, if_neg (by decide), i14, q14]
      rw [r, if_neg c, B_X6_looksForNote_93, nI_1]
      refine ⟨_, rfl, ⟨_, (T2.I (Or.inl rfl) _).I (Or.inr rfl) _⟩, rfl, rfl⟩
    have old : ∀ m b, bnS P z p i = some (m, b) → nI (bnV P z p (loS' z p + i)) ≤ nI b → ∃ s', (if nI (bnV P z p (loS' z p + i)) ≤ neL (-1) (bnS P z p i) then X (d + 6) jX6_looksForNote 67 [some (vR 6 0 0), some (vI (nI p)), some (vI (z (1 + p))), some (vI (nI (loS' z p + i))), some (vI (nI (bnV P z p (loS' z p + i))))] [vR 6 0 0] M2 else X (d + 6) jX6_looksForNote 71 [some (vR 6 0 0), some (vI (nI p)), some (vI (z (1 + p))), some (vI (nI (loS' z p + i))), some (vI (nI (bnV P z p (loS' z p + i))))] [vI (nI (loS' z p + i)), vR 6 0 0] M2) = X (d + 6) jX6_looksForNote 29 [some (vR 6 0 0), some (vI (nI p)), some (vI (z (1 + p))), some (vI (nI (loS' z p + (i + 1)))), none] [] s' ∧ (∃ x, TR N0 B s (upd z (1 + p) x) P s') ∧ rI s' 13 = nI m ∧ rI s' 14 = nI b := fun m b eo c => by
      rw [eo] at q13 q14
      have q13' : rI zM 13 = nI m := q13
      have q14' : rI zM 14 = nI b := q14
      rw [eo, show neL (-1) (some (m, b)) = nI b from rfl, if_pos c, B_X6_looksForNote_67, B_X6_looksForNote_71, i13, q13']
      try dsimp only
      have r : rI (rsI M2 13 (nI m)) 14 = nI b := by
        rw [rI_rsI, if_neg (by decide), i14, q14']
      rw [r, if_pos c, B_X6_looksForNote_89, B_X6_looksForNote_93, nI_1, r]
      refine ⟨_, rfl, ⟨_, (T2.I (Or.inl rfl) _).I (Or.inr rfl) _⟩, rfl, rfl⟩
    have ok := bn1_ok hB hw hP hp hi ho
    match hm : bnS P z p i, ho with
    | none, _ =>
      obtain ⟨s', z1, z2, z3, z4⟩ := new none (nI_gm1 (by omega)) (by rw [hm])
      rw [hm] at z1 ok
      exact ⟨s', z1, z2, ok, z3, z4⟩
    | some (m, b), ho =>
      have h2 : b ≤ 75600 := ho.2.1
      by_cases c : b < bnV P z p (loS' z p + i)
      · obtain ⟨s', z1, z2, z3, z4⟩ := new (some (m, b)) (nI_ge c (by omega)) (by rw [hm])
        rw [hm] at z1 ok
        refine ⟨s', z1, z2, ok, ?_⟩
        simp only [if_pos c]
        exact ⟨z3, z4⟩
      · obtain ⟨s', z1, z2, z3, z4⟩ := old m b hm (nI_le (by omega) (by omega))
        rw [hm] at z1 ok
        refine ⟨s', z1, z2, ok, ?_⟩
        simp only [if_neg c]
        exact ⟨z3, z4⟩)
  have T3 := T'.note hp (x := z (1 + p)) (hw.note hp)
  rw [upd_upd, upd_self rfl] at T3
  rw [hb] at r13 r14
  refine ⟨_, ?_, T3, r13, r14⟩
  rw [E_X6_looksForNote, la1, ob_no (by omega) (by omega), cl_no (by omega), la39]
  try dsimp only
  rw [ob_no (by omega) (by omega), cl_no (by omega), rA_rsI, rA_rsI, hA, g1]
  rw [show nI (loS' z p) = nI (loS' z p + 0) from rfl]
  rw [e]
  try dsimp only
  have hh : hiS (upd z (1 + p) x) p = hiS z p := by unfold hiS; rw [upd_ne (by omega)]
  rw [B_X6_looksForNote_29, X6_highOf (d + 5) T'.2.2.2.2 T'.2.1 hp, bindI_some, hh, if_pos (nI_lt (by omega) (by omega)), B_X6_looksForNote_102, la1, ob_no (by omega) (by omega), cl_no (by omega)]
theorem q_best (d : Nat) (x y : Int32) {B : Nat} {s : St} {P : List Cl} {M : Mem} (h : QC B s P M) : Ans M s (XC (d + 20) jX5_best [vR 5 0 0, vI x, vI y] M) (fun N => XC (d + 20) jX6_best [vR 6 0 0, vI x, vI y] N) := by
  obtain ⟨hB, hs, hC, hH, hR⟩ := h
  obtain ⟨hn, h6⟩ := hs.ns
  by_cases a : isSg s x
  · by_cases b : 0 ≤ y ∧ y ≤ 1
    · obtain ⟨p, hp, rfl⟩ := a.num hs
      obtain ⟨n, al, eb, n23, al7, ev⟩ := bnS_some (by omega) hs hH.2.2 (p := p) (by omega)
      obtain ⟨M1, e1, T1⟩ := TC.become (d + 18) hs hC hH
      obtain ⟨M2, e2, T2⟩ := bestNote_cls (d + 11) (by omega) hs hC T1 (p := p) (by omega) rfl eb
      have cls : XC (d + 20) jX5_best [vR 5 0 0, vI (nI p), vI y] M = if y = 0 then some (some (vI (nI n)), M2) else X (d + 19) jX5_best 42 [some (vR 5 0 0), some (vI (nI p)), none, some (vI (nI n))] [] M2 := by
        rw [E_X5_best, X5_isSinger (d + 18) hC, bindI_some, if_pos a, ne_10, rng, if_pos b, B_X5_best_19, e1, bindV_some, e2, bindI_some]
      have ref : ∀ N, rA N 2 = s → ∃ N', XC (d + 20) jX6_best [vR 6 0 0, vI (nI p), vI y] N = some (some (vI (if y = 0 then nI n else nI al)), N') ∧ RQ N N' := fun N hN => by
        obtain ⟨N', e, T, r13, r14⟩ := looksForNote_ref (d + 12) (by omega) (TR.start hs hN hR) (p := p) (by omega) eb
        refine ⟨N', ?_, T.fin hN⟩
        rw [E_X6_best, X6_isSinger (d + 17) hs hN, bindI_some, if_pos a, ne_10, X6_in, bindI_some, if_pos b, ne_10, B_X6_best_19, e, bindV_some]
        by_cases c : y = 0
        · rw [if_pos c, if_pos c, B_X6_best_39, r13]
        · rw [if_neg c, if_neg c, B_X6_best_35, B_X6_best_39, r14]
      rw [cls]
      by_cases c : y = 0
      · simp only [if_pos c] at ref ⊢
        exact ⟨_, M2, rfl, T2.1, ref⟩
      · simp only [if_neg c] at ref ⊢
        have T3 := T2.note (p := p) (by omega) (x := nI n) (Or.inr ⟨n, n23, rfl⟩)
        obtain ⟨M4, e4, T4, _⟩ := T3.allNow (d + 13) (by omega)
        refine ⟨_, M4, ?_, T4.1, ref⟩
        rw [B_X5_best_42, ob_no (by omega) (by omega), cl_no (by omega)]
        try dsimp only
        rw [e4, bindI_some, ev]
        rfl
    · refine Ans.pure (vI (-1)) ?_ (fun N hN => ?_)
      · rw [E_X5_best, X5_isSinger (d + 18) hC, bindI_some, if_pos a, ne_10, rng, if_neg b, B_X5_best_17]
      · rw [E_X6_best, X6_isSinger (d + 17) hs hN, bindI_some, if_pos a, ne_10, X6_in, bindI_some, if_neg b, eq_00, B_X6_best_17]
  · refine Ans.pure (vI (-1)) ?_ (fun N hN => ?_)
    · rw [E_X5_best, X5_isSinger (d + 18) hC, bindI_some, if_neg a, eq_00, B_X5_best_17]
    · rw [E_X6_best, X6_isSinger (d + 17) hs hN, bindI_some, if_neg a, eq_00, B_X6_best_17]
