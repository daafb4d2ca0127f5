def chW (o : Option (Nat × Nat)) : Int32 := match o with
  | none => 0
  | some (f, _) => nI f
theorem pow5_lt : ∀ n, n < 6 → 5 ^ n < 4000 := by decide
theorem bestChord_cls (d : Nat) {B : Nat} (hB : B < 2 ^ 30) {s : St} {P : List Cl} {M0 M : Mem} (hs : Wf B s) (hC : Ch M0 0 s) (hP : WfP P) (h5 : nsS s ≤ 5) (I : CC M0 B s P (nsS s) (5 * nsS s) M) {f : Nat} (hf : chS P s (nsS s) (5 ^ nsS s) = some (f, chV P s (nsS s) f)) : ∃ M', XC (d + 7) jX5_bestChord [vR 5 0 0] M = some (some (vI (nI f)), M') ∧ CC M0 B s P (nsS s) (5 * nsS s) M' := by
  obtain ⟨hn, h6⟩ := hs.ns
  have hC1 : Ch M 0 s := by
    obtain ⟨⟨z, T, A⟩, tab⟩ := I
    exact T.now hC
  have L1 := chain (fun i => X (d + 6) jX5_bestChord 4 [some (vR 5 0 0), some (vI (nI (5 ^ i))), some (vI (nI i)), none, none, none] [] M) (nsS s) (fun i hi => by
    try dsimp only
    rw [B_X5_bestChord_4, hC1.c0, hn, ge_no hi (by omega), nI_1, show (5 : Int32) = nI 5 from rfl, nI_mul, Nat.pow_succ])
  have hp5 := pow5_lt (nsS s) (by omega)
  obtain ⟨M', e, I'⟩ := loop_ex (fun i (zM : Mem) => X (d + 6) jX5_bestChord 32 [some (vR 5 0 0), some (vI (nI (5 ^ nsS s))), some (vI (chW (chS P s (nsS s) i))), some (vI (neL (-1) (chS P s (nsS s) i))), some (vI (nI i)), none] [] zM) (fun i zM => CC M0 B s P (nsS s) (5 * nsS s) zM) (5 ^ nsS s) M I (fun i zM hi zI => by
    obtain ⟨m2, f2, I2, _⟩ := singChord_cls d hB hs hC hP h5 zI (c := i) (by omega)
    refine ⟨m2, ?_, I2⟩
    have hv := chV_le hB hs hP rfl h5 i
    have ok := chS_ok P s (nsS s) i
    have es : chS P s (nsS s) (i + 1) = ch1 P s (nsS s) i (chS P s (nsS s) i) := rfl
    try dsimp only
    rw [B_X5_bestChord_32, ge_no hi (by omega), f2, bindI_some, es]
    match hm : chS P s (nsS s) i, ok with
    | none, _ =>
      rw [show neL (-1) none = -1 from rfl, if_neg (nI_gm1 (by omega)), B_X5_bestChord_58, nI_1]
      rfl
    | some (g, v), ok =>
      have hv2 : v ≤ 75600 := by rw [ok.2]; exact chV_le hB hs hP rfl h5 g
      have el : neL (-1) (some (g, v)) = nI v := rfl
      rw [el]
      by_cases c : v < chV P s (nsS s) i
      · rw [ch1_new c, if_neg (nI_ge c (by omega)), B_X5_bestChord_58, nI_1]
        rfl
      · rw [ch1_old c, if_pos (nI_le (by omega) (by omega)), B_X5_bestChord_58, nI_1]
        rfl)
  refine ⟨M', ?_, I'⟩
  rw [E_X5_bestChord]
  refine Eq.trans L1 ?_
  try dsimp only
  rw [B_X5_bestChord_4, hC1.c0, hn, le_self, B_X5_bestChord_25]
  refine Eq.trans e ?_
  try dsimp only
  rw [B_X5_bestChord_32, le_self, B_X5_bestChord_64, hf]
  rfl
