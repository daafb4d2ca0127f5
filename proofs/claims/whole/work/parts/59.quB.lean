/-! small questions -/
def QC (B : Nat) (s : St) (P : List Cl) (M : Mem) : Prop := B < 2 ^ 29 ∧ Wf B s ∧ Ch M 0 s ∧ Hd M 0 P ∧ HdR s P
def Ans (M : Mem) (s : St) (x : Res) (y : Mem → Res) : Prop := ∃ v M', x = some (some v, M') ∧ Df SCR M M' ∧ ∀ N, rA N 2 = s → ∃ N', y N = some (some v, N') ∧ RQ N N'
theorem Ans.pure {M : Mem} {s : St} {x : Res} {y : Mem → Res} (v : AV) (h1 : x = some (some v, M)) (h2 : ∀ N, rA N 2 = s → y N = some (some v, N)) : Ans M s x y := ⟨v, M, h1, Df.rf, fun N hN => ⟨N, h2 N hN, RQ.rf⟩⟩
theorem i10 {c : Prop} [Decidable c] : ((if c then (1 : Int32) else 0) = 0) = ¬ c := by
  by_cases h : c
  · rw [if_pos h]; exact propext ⟨fun q => absurd q (by decide), fun q => absurd h q⟩
  · rw [if_neg h]; exact propext ⟨fun _ => h, fun _ => rfl⟩
theorem i1le0 {c : Prop} [Decidable c] : ((if c then (1 : Int32) else 0) ≤ 0) = ¬ c := by
  by_cases h : c
  · rw [if_pos h]; exact propext ⟨fun q => absurd q (by decide), fun q => absurd h q⟩
  · rw [if_neg h]; exact propext ⟨fun _ => h, fun _ => by decide⟩
def wo (a k : Nat) : Nat := a &&& (63 ^^^ 2 ^ k)
theorem wo_p {a k : Nat} (ha : a < 64) (hk : k < 6) : nI a &&& (((1 : Int32) <<< (nI k &&& 31)) ^^^ (-1)) = nI (wo a k) := by
  have h9 : ∀ a, a < 64 → ∀ k, k < 6 → nI a &&& (((1 : Int32) <<< (nI k &&& 31)) ^^^ (-1)) = nI (wo a k) := by decide +kernel
  exact h9 a ha k hk
theorem wo_63 {k : Nat} (hk : k < 6) : (63 : Int32) &&& (((1 : Int32) <<< (nI k &&& 31)) ^^^ (-1)) = nI (wo 63 k) := wo_p (a := 63) (by decide) hk
theorem wo_lt {a k : Nat} (ha : a < 64) (hk : k < 6) : wo a k < 64 := by
  have h9 : ∀ a, a < 64 → ∀ k, k < 6 → wo a k < 64 := by decide +kernel
  exact h9 a ha k hk
theorem wo_bt {a k q : Nat} (ha : a < 64) (hk : k < 6) (hq : q < 6) : bt (wo a k) q ↔ bt a q ∧ q ≠ k := by
  have h9 : ∀ a, a < 64 → ∀ k, k < 6 → ∀ q, q < 6 → (wo a k).testBit q = (a.testBit q && !(q == k)) := by decide +kernel
  unfold bt
  rw [h9 a ha k hk q hq]
  simp
theorem Sub.wo {s : St} {a k : Nat} (h : Sub s a) (hk : k < 6) : Sub s (wo a k) := ⟨wo_lt h.1 hk, fun q hq hb => h.2 q hq ((wo_bt h.1 hk hq).mp hb).1⟩
def lmS (s : St) (f : Nat → Nat) (a : Nat) : Nat := pop (loS s (alS s f a)).1
theorem pop_le (a : Nat) : pop a ≤ 6 := itr_inv (fun i z => z ≤ i) 6 (Nat.le_refl _) (fun i z hi hz => by
  try dsimp only
  split <;> omega)
theorem lmS_le (s : St) (f : Nat → Nat) (a : Nat) : lmS s f a ≤ 6 := pop_le _
theorem alS_wo {s : St} (h : nsS s ≤ 6) (f : Nat → Nat) {k : Nat} (hk : k < 6) : alS s f (wo (siS s) k) = alS s f (wo 63 k) := alS_cg (fun q hq hs => by
  rw [wo_bt (siS_lt h) hk (by omega), wo_bt (by decide) hk (by omega)]
  exact and_congr_left (fun _ => ⟨fun _ => bt_63 (by omega), fun _ => (siS_bt s q).mpr ⟨hq, hs⟩⟩)) (fun _ _ => rfl)
theorem lmS_wo {s : St} (h : nsS s ≤ 6) (f : Nat → Nat) {k : Nat} (hk : k < 6) : lmS s f (wo (siS s) k) = lmS s f (wo 63 k) := by
  unfold lmS
  rw [alS_wo h f hk]
theorem lmS_si {s : St} (h : nsS s ≤ 6) (f : Nat → Nat) : lmS s f (siS s) = lmS s f 63 := by
  unfold lmS
  rw [alS_si h f]
theorem siS_i {s : St} {i : Nat} (h : i < nsS s) : bt (siS s) i ↔ sg s i := (siS_bt s i).trans ⟨fun q => q.2, fun q => ⟨h, q⟩⟩
theorem X5_looseOf (d : Nat) {M : Mem} {B : Nat} {s : St} {f : Nat → Nat} (hs : Wf B s) (h : Ch M 0 s) (hf : Fo M 0 s f) {a : Nat} (ha : Sub s a) : XC (d + 5) jX5_looseOf [vR 5 0 0, vI (nI a)] M = some (some (vI (nI (lmS s f a))), M) := by
  have hl := alS_le (s := s) (f := f) a hs.ns.2 (fun i hi => (hf i hi).2)
  rw [E_X5_looseOf, X1_allOf d 0 M hs h hf ha, bindI_some]
  try dsimp only
  rw [X1_looseBits (d + 2) 0 (by omega) M hs h, bindI_some]
  try dsimp only
  rw [J6_bitCount (d + 3) M (loS_lt hs.nt.2), bindI_some]
  rfl
theorem X6_looseMany (d : Nat) {M : Mem} {B : Nat} {s : St} {f : Nat → Nat} (hs : Wf B s) (hA : rA M 2 = s) (hf : FoR M s f) {a : Nat} (ha : a < 64) : XC (d + 6) jX6_looseMany [vR 6 0 0, vI (nI a)] M = some (some (vI (nI (lmS s f a))), M) := by
  have hl := alS_le (s := s) (f := f) a hs.ns.2 (fun i hi => (hf i hi).2)
  rw [E_X6_looseMany, X6_allBy d M hs hA hf ha, bindI_some]
  try dsimp only
  rw [X6_looseBy (d + 3) (by omega) M hs hA, bindI_some]
  try dsimp only
  rw [X6_sizeOf (d + 4) M (loS_lt hs.nt.2), bindI_some]
  rfl
theorem X6_loose63 (d : Nat) {M : Mem} {B : Nat} {s : St} {f : Nat → Nat} (hs : Wf B s) (hA : rA M 2 = s) (hf : FoR M s f) : XC (d + 6) jX6_looseMany [vR 6 0 0, vI 63] M = some (some (vI (nI (lmS s f 63))), M) := X6_looseMany d hs hA hf (a := 63) (by decide)
def sp1 (s : St) (f : Nat → Nat) (i z : Nat) : Nat := if sg s i ∧ lmS s f (wo 63 i) ≤ lmS s f 63 then z ||| 2 ^ i else z
def spS (s : St) (f : Nat → Nat) : Nat := itr (sp1 s f) (nsS s) 0
theorem sp1_lt {s : St} {f : Nat → Nat} {i z : Nat} (hi : i < 6) (hz : z < 64) : sp1 s f i z < 64 := by
  unfold sp1
  split
  · exact or_lt hz hi
  · exact hz
theorem spS_lt {s : St} {f : Nat → Nat} (h : nsS s ≤ 6) : spS s f < 64 := itr_inv (fun _ z => z < 64) (nsS s) (by decide) (fun i z hi hz => sp1_lt (by omega) hz)
theorem X5_spareBits (d : Nat) {M : Mem} {B : Nat} {s : St} {f : Nat → Nat} (hs : Wf B s) (h : Ch M 0 s) (hf : Fo M 0 s f) : XC (d + 6) jX5_spareBits [vR 5 0 0, vI (nI (siS s))] M = some (some (vI (nI (spS s f))), M) := by
  obtain ⟨hn, h6⟩ := hs.ns
  have hS := siS_sub (s := s) h6
  rw [E_X5_spareBits, X5_looseOf d hs h hf hS, bindI_some]
  try dsimp only
  have L := (loop_itr (fun i (z : Nat) => X (d + 5) jX5_spareBits 11 [some (vR 5 0 0), some (vI (nI (siS s))), some (vI (nI (lmS s f (siS s)))), some (vI (nI z)), some (vI (nI i))] [] M) (sp1 s f) (fun _ z => z < 64) (nsS s) 0 (by decide) (fun i z hi hz => by
    refine ⟨?_, sp1_lt (by omega) hz⟩
    try dsimp only
    have hi6 : i < 6 := by omega
    have l1 := lmS_le s f (siS s)
    have l2 := lmS_le s f (wo (siS s) i)
    rw [B_X5_spareBits_11, h.c0, hn, ge_no hi (by omega), X5_hasBit _ _ hS.1 hi6, bindI_some]
    try dsimp only
    by_cases c : sg s i
    · rw [if_pos ((siS_i hi).mpr c), ne_10, wo_p hS.1 hi6, X5_looseOf d hs h hf (hS.wo hi6), bindI_some]
      try dsimp only
      by_cases l : lmS s f (wo (siS s) i) ≤ lmS s f (siS s)
      · rw [if_neg (nI_nlt l (by omega)), shl_p hi6, or_p hz hi6, B_X5_spareBits_55, nI_1]
        unfold sp1
        rw [lmS_wo h6 f hi6, lmS_si h6 f] at l
        rw [if_pos ⟨c, l⟩]
      · rw [if_pos (nI_lt (by omega) (by omega)), B_X5_spareBits_55, nI_1]
        unfold sp1
        rw [lmS_wo h6 f hi6, lmS_si h6 f] at l
        rw [if_neg (fun q => l q.2)]
    · rw [if_neg (fun q => c ((siS_i hi).mp q)), eq_00, B_X5_spareBits_55, nI_1]
      unfold sp1
      rw [if_neg (fun q => c q.1)]) (nsS s) (Nat.le_refl _)).1
  refine Eq.trans L ?_
  try dsimp only
  rw [B_X5_spareBits_11, h.c0, hn, le_self, B_X5_spareBits_61]
  rfl
theorem X6_spare (d : Nat) {N : Mem} {B : Nat} (hB : B < 2 ^ 30) {s : St} {P : List Cl} (hs : Wf B s) (hA : rA N 2 = s) (hP : HdR s P) : ∃ N', XC (d + 7) jX6_spare [vR 6 0 0] N = some (some (vI (nI (spS s (foS P s)))), N') ∧ Rf scR N N' ∧ FoR N' s (foS P s) := by
  obtain ⟨hn, h6⟩ := hs.ns
  obtain ⟨N', e, D, F⟩ := X6_looksForForces (d + 2) N hB hs hA hP
  have hA' := D.s2.trans hA
  refine ⟨N', ?_, D, F⟩
  rw [E_X6_spare, e, bindV_some, X6_loose63 d hs hA' F, bindI_some]
  try dsimp only
  have L := (loop_itr (fun i (z : Nat) => X (d + 6) jX6_spare 15 [some (vR 6 0 0), some (vI (nI (lmS s (foS P s) 63))), some (vI (nI z)), some (vI (nI i))] [] N') (sp1 s (foS P s)) (fun _ z => z < 64) (nsS s) 0 (by decide) (fun i z hi hz => by
    refine ⟨?_, sp1_lt (by omega) hz⟩
    try dsimp only
    have hi6 : i < 6 := by omega
    have l1 := lmS_le s (foS P s) 63
    have l2 := lmS_le s (foS P s) (wo 63 i)
    rw [B_X6_spare_15, hA', hn, ge_no hi (by omega), X6_doesSing _ _ hA' hi6, bindI_some]
    try dsimp only
    by_cases c : sg s i
    · rw [if_pos c, ne_10, wo_63 hi6, X6_looseMany d hs hA' F (wo_lt (by decide) hi6), bindI_some]
      try dsimp only
      by_cases l : lmS s (foS P s) (wo 63 i) ≤ lmS s (foS P s) 63
      · rw [if_neg (nI_nlt l (by omega)), shl_p hi6, B_X6_spare_58, or_p hz hi6, nI_1]
        unfold sp1
        rw [if_pos ⟨c, l⟩]
      · rw [if_pos (nI_lt (by omega) (by omega)), B_X6_spare_57, B_X6_spare_58, or_0, nI_1]
        unfold sp1
        rw [if_neg (fun q => l q.2)]
    · rw [if_neg c, eq_00, B_X6_spare_57, B_X6_spare_58, or_0, nI_1]
      unfold sp1
      rw [if_neg (fun q => c q.1)]) (nsS s) (Nat.le_refl _)).1
  refine Eq.trans L ?_
  try dsimp only
  rw [B_X6_spare_15, hA', hn, le_self, B_X6_spare_66]
  rfl
theorem q_spare (d : Nat) {B : Nat} {s : St} {P : List Cl} {M : Mem} (h : QC B s P M) : Ans M s (XC (d + 20) jX5_spare [vR 5 0 0] M) (fun N => XC (d + 20) jX6_spare [vR 6 0 0] N) := by
  obtain ⟨hB, hs, hC, hH, hR⟩ := h
  obtain ⟨M1, e1, D1, F1⟩ := X1_measure (d + 14) 0 M (by omega) hs hC hH
  have hC1 := hC.sc D1
  refine ⟨vI (nI (spS s (foS P s))), M1, ?_, D1.mono scr_SCR, fun N hN => ?_⟩
  · rw [E_X5_spare, e1, bindV_some, X1_singing (d + 18) 0 M1 hs hC1, bindI_some]
    try dsimp only
    rw [X5_spareBits (d + 13) hs hC1 F1, bindI_some]
  · obtain ⟨N', e, D, _⟩ := X6_spare (d + 13) (N := N) (by omega) hs hN hR
    exact ⟨N', e, D.sc⟩
