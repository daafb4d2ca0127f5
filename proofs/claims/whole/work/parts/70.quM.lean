/-! critical -/
def crC (s : St) (f : Nat → Nat) (i j : Nat) : Prop := bt (spS s f) i ∧ bt (spS s f) j ∧ lmS s f 63 < lmS s f (wo (wo 63 i) j)
def cr1 (i j : Nat) (b : Bool) (z : Nat × Int32) : Nat × Int32 := if b = true then (z.1 + 1, if z.1 = 0 then nI (10 * i + j) else z.2) else z
def crB (s : St) (f : Nat → Nat) (i j : Nat) : Bool := (spS s f).testBit i && (spS s f).testBit j && decide (lmS s f 63 < lmS s f (wo (wo 63 i) j))
def crI (s : St) (f : Nat → Nat) (i m : Nat) (z : Nat × Int32) : Nat × Int32 := itr (fun k z => cr1 i (i + 1 + k) (crB s f i (i + 1 + k)) z) m z
def crS (s : St) (f : Nat → Nat) (n : Nat) : Nat × Int32 := itr (fun i z => crI s f i (nsS s - (i + 1)) z) n ((0, -5) : Nat × Int32)
theorem cr1_le (i j : Nat) (b : Bool) (z : Nat × Int32) : (cr1 i j b z).1 ≤ z.1 + 1 := by
  unfold cr1
  split
  · exact Nat.le_refl _
  · exact Nat.le_succ _
theorem crI_le (s : St) (f : Nat → Nat) (i : Nat) (z : Nat × Int32) : ∀ m, (crI s f i m z).1 ≤ z.1 + m
  | 0 => Nat.le_refl _
  | m + 1 => Nat.le_trans (cr1_le _ _ _ _) (Nat.succ_le_succ (crI_le s f i z m))
theorem crS_le (s : St) (f : Nat → Nat) (h6 : nsS s ≤ 6) : ∀ n, (crS s f n).1 ≤ 6 * n
  | 0 => Nat.le_refl _
  | n + 1 => by
    have h1 := crS_le s f h6 n
    have h2 := crI_le s f n (crS s f n) (nsS s - (n + 1))
    have e : (crS s f (n + 1)) = crI s f n (nsS s - (n + 1)) (crS s f n) := rfl
    rw [e]
    omega
theorem alS_wo2 {s : St} (h : nsS s ≤ 6) (f : Nat → Nat) {i j : Nat} (hi : i < 6) (hj : j < 6) : alS s f (wo (wo (siS s) i) j) = alS s f (wo (wo 63 i) j) := alS_cg (fun q hq hs => by
  rw [wo_bt (wo_lt (siS_lt h) hi) hj (by omega), wo_bt (siS_lt h) hi (by omega), wo_bt (wo_lt (by decide) hi) hj (by omega), wo_bt (by decide) hi (by omega)]
  exact and_congr_left (fun _ => and_congr_left (fun _ => ⟨fun _ => bt_63 (by omega), fun _ => (siS_bt s q).mpr ⟨hq, hs⟩⟩))) (fun _ _ => rfl)
theorem lmS_wo2 {s : St} (h : nsS s ≤ 6) (f : Nat → Nat) {i j : Nat} (hi : i < 6) (hj : j < 6) : lmS s f (wo (wo (siS s) i) j) = lmS s f (wo (wo 63 i) j) := by
  unfold lmS
  rw [alS_wo2 h f hi hj]
theorem q_critical (d : Nat) (x : Int32) {B : Nat} {s : St} {P : List Cl} {M : Mem} (h : QC B s P M) : Ans M s (XC (d + 20) jX5_critical [vR 5 0 0, vI x] M) (fun N => XC (d + 20) jX6_critical [vR 6 0 0, vI x] N) := by
  obtain ⟨hB, hs, hC, hH, hR⟩ := h
  obtain ⟨hn, h6⟩ := hs.ns
  by_cases b : 0 ≤ x ∧ x ≤ 1
  · obtain ⟨M1, e1, D1, F1⟩ := X1_measure (d + 14) 0 M (by omega) hs hC hH
    have hC1 := hC.sc D1
    have hS := siS_sub (s := s) h6
    have hsp := spS_lt (s := s) (f := foS P s) h6
    have hle := crS_le s (foS P s) h6 (nsS s)
    have hl63 := lmS_le s (foS P s) 63
    have fin : ∀ z : Nat × Int32, (if x = 0 then X (d + 19) jX5_critical 167 [none, none, none, none, none, none, none, none, none] [vI (nI z.1)] M1 else X (d + 19) jX5_critical 165 [none, none, none, none, none, none, some (vI z.2), none, none] [] M1) = some (some (vI (if x = 0 then nI z.1 else z.2)), M1) := fun z => by
      by_cases c : x = 0
      · rw [if_pos c, if_pos c, B_X5_critical_167]
      · rw [if_neg c, if_neg c, B_X5_critical_165, B_X5_critical_167]
    refine ⟨vI (if x = 0 then nI (crS s (foS P s) (nsS s)).1 else (crS s (foS P s) (nsS s)).2), M1, ?_, D1.mono scr_SCR, fun N hN => ?_⟩
    · have inner : ∀ i (z : Nat × Int32), i < nsS s → z.1 ≤ 100 → X (d + 19) jX5_critical 67 [some (vR 5 0 0), some (vI x), some (vI (nI (siS s))), some (vI (nI (spS s (foS P s)))), some (vI (nI (lmS s (foS P s) 63))), some (vI (nI z.1)), some (vI z.2), some (vI (nI i)), some (vI (nI (i + 1)))] [] M1 = X (d + 19) jX5_critical 49 [some (vR 5 0 0), some (vI x), some (vI (nI (siS s))), some (vI (nI (spS s (foS P s)))), some (vI (nI (lmS s (foS P s) 63))), some (vI (nI (crI s (foS P s) i (nsS s - (i + 1)) z).1)), some (vI (crI s (foS P s) i (nsS s - (i + 1)) z).2), some (vI (nI (i + 1))), none] [] M1 := fun i z hi hz => by
        have hi6 : i < 6 := by omega
        have L := chain (fun k => X (d + 19) jX5_critical 67 [some (vR 5 0 0), some (vI x), some (vI (nI (siS s))), some (vI (nI (spS s (foS P s)))), some (vI (nI (lmS s (foS P s) 63))), some (vI (nI (crI s (foS P s) i k z).1)), some (vI (crI s (foS P s) i k z).2), some (vI (nI i)), some (vI (nI (i + 1 + k)))] [] M1) (nsS s - (i + 1)) (fun k hk => by
          have hj6 : i + 1 + k < 6 := by omega
          have hl := lmS_le s (foS P s) (wo (wo 63 i) (i + 1 + k))
          have hcl := crI_le s (foS P s) i z k
          have es : crI s (foS P s) i (k + 1) z = cr1 i (i + 1 + k) (crB s (foS P s) i (i + 1 + k)) (crI s (foS P s) i k z) := rfl
          try dsimp only
          rw [es]
          generalize crI s (foS P s) i k z = y at hcl
          have skip : crB s (foS P s) i (i + 1 + k) = false → X (d + 19) jX5_critical 144 [some (vR 5 0 0), some (vI x), some (vI (nI (siS s))), some (vI (nI (spS s (foS P s)))), some (vI (nI (lmS s (foS P s) 63))), some (vI (nI y.1)), some (vI y.2), some (vI (nI i)), some (vI (nI (i + 1 + k)))] [] M1 = X (d + 19) jX5_critical 67 [some (vR 5 0 0), some (vI x), some (vI (nI (siS s))), some (vI (nI (spS s (foS P s)))), some (vI (nI (lmS s (foS P s) 63))), some (vI (nI (cr1 i (i + 1 + k) (crB s (foS P s) i (i + 1 + k)) y).1)), some (vI (cr1 i (i + 1 + k) (crB s (foS P s) i (i + 1 + k)) y).2), some (vI (nI i)), some (vI (nI (i + 1 + (k + 1))))] [] M1 := fun q => by
            have e9 : cr1 i (i + 1 + k) (crB s (foS P s) i (i + 1 + k)) y = y := if_neg (by rw [q]; decide)
            rw [e9, B_X5_critical_144, nI_1]
            rfl
          rw [B_X5_critical_67, hC1.c0, hn, ge_no (by omega) (by omega), X5_hasBit _ _ hsp hi6, bindI_some]
          by_cases c1 : (spS s (foS P s)).testBit i = true
          · rw [if_pos c1, ne_10, X5_hasBit _ _ hsp hj6, bindI_some]
            by_cases c2 : (spS s (foS P s)).testBit (i + 1 + k) = true
            · rw [if_pos c2, ne_10, wo_p hS.1 hi6, wo_p (wo_lt hS.1 hi6) hj6, X5_looseOf (d + 14) hs hC1 F1 ((hS.wo hi6).wo hj6), bindI_some, lmS_wo2 h6 _ hi6 hj6]
              by_cases c3 : lmS s (foS P s) 63 < lmS s (foS P s) (wo (wo 63 i) (i + 1 + k))
              · have eb : crB s (foS P s) i (i + 1 + k) = true := by unfold crB; rw [c1, c2, decide_eq_true c3]; rfl
                have e9 : cr1 i (i + 1 + k) (crB s (foS P s) i (i + 1 + k)) y = (y.1 + 1, if y.1 = 0 then nI (10 * i + (i + 1 + k)) else y.2) := if_pos eb
                have e10 : (10 : Int32) * nI i + nI (i + 1 + k) = nI (10 * i + (i + 1 + k)) := by rw [show (10 : Int32) = nI 10 from rfl, nI_mul, nI_add]
                rw [if_neg (nI_ge c3 (by omega)), e9]
                by_cases c4 : y.1 = 0
                · have c5 : nI y.1 = 0 := by rw [c4]; rfl
                  rw [if_pos c5, B_X5_critical_139, B_X5_critical_144, nI_1, nI_1, e10, if_pos c4]
                  rfl
                · rw [if_neg (nI_ne0 (by omega) (by omega)), B_X5_critical_137, B_X5_critical_139, B_X5_critical_144, nI_1, nI_1, if_neg c4]
                  rfl
              · rw [if_pos (nI_le (by omega) (by omega))]
                exact skip (by unfold crB; rw [decide_eq_false c3, Bool.and_false])
            · rw [if_neg c2, eq_00]
              exact skip (by unfold crB; rw [Bool.eq_false_iff.mpr c2, Bool.and_false, Bool.false_and])
          · rw [if_neg c1, eq_00]
            exact skip (by unfold crB; rw [Bool.eq_false_iff.mpr c1, Bool.false_and, Bool.false_and]))
        refine Eq.trans L ?_
        try dsimp only
        have e0 : i + 1 + (nsS s - (i + 1)) = nsS s := by omega
        rw [e0, B_X5_critical_67, hC1.c0, hn, le_self, B_X5_critical_150, nI_1]
      rw [E_X5_critical, rng, if_pos b, B_X5_critical_11, e1, bindV_some, X1_singing (d + 18) 0 M1 hs hC1, bindI_some, X5_spareBits (d + 13) hs hC1 F1, bindI_some, X5_looseOf (d + 14) hs hC1 F1 hS, bindI_some, lmS_si h6]
      refine Eq.trans (chain (fun i => X (d + 19) jX5_critical 49 [some (vR 5 0 0), some (vI x), some (vI (nI (siS s))), some (vI (nI (spS s (foS P s)))), some (vI (nI (lmS s (foS P s) 63))), some (vI (nI (crS s (foS P s) i).1)), some (vI (crS s (foS P s) i).2), some (vI (nI i)), none] [] M1) (nsS s) (fun i hi => ?_)) ?_
      · have hcl := crS_le s (foS P s) h6 i
        try dsimp only
        rw [B_X5_critical_49, hC1.c0, hn, ge_no hi (by omega), nI_1, inner i _ hi (by omega)]
        rfl
      · try dsimp only
        rw [B_X5_critical_49, hC1.c0, hn, le_self, B_X5_critical_156, fin]
    · obtain ⟨N', e, D, F⟩ := X6_spare (d + 12) (N := N) (by omega) hs hN hR
      have hA' := D.s2.trans hN
      refine ⟨N', ?_, D.sc⟩
      have inner : ∀ i (z : Nat × Int32), i < nsS s → z.1 ≤ 100 → X (d + 19) jX6_critical 51 [some (vR 6 0 0), some (vI x), some (vI (nI (spS s (foS P s)))), some (vI (nI (lmS s (foS P s) 63))), some (vI (nI z.1)), some (vI z.2), some (vI (nI i)), some (vI (nI (i + 1))), none] [] N' = X (d + 19) jX6_critical 33 [some (vR 6 0 0), some (vI x), some (vI (nI (spS s (foS P s)))), some (vI (nI (lmS s (foS P s) 63))), some (vI (nI (crI s (foS P s) i (nsS s - (i + 1)) z).1)), some (vI (crI s (foS P s) i (nsS s - (i + 1)) z).2), some (vI (nI (i + 1))), none, none] [] N' := fun i z hi hz => by
        have hi6 : i < 6 := by omega
        have L := chain (fun k => X (d + 19) jX6_critical 51 [some (vR 6 0 0), some (vI x), some (vI (nI (spS s (foS P s)))), some (vI (nI (lmS s (foS P s) 63))), some (vI (nI (crI s (foS P s) i k z).1)), some (vI (crI s (foS P s) i k z).2), some (vI (nI i)), some (vI (nI (i + 1 + k))), none] [] N') (nsS s - (i + 1)) (fun k hk => by
          have hj6 : i + 1 + k < 6 := by omega
          have hl := lmS_le s (foS P s) (wo (wo 63 i) (i + 1 + k))
          have hcl := crI_le s (foS P s) i z k
          have es : crI s (foS P s) i (k + 1) z = cr1 i (i + 1 + k) (crB s (foS P s) i (i + 1 + k)) (crI s (foS P s) i k z) := rfl
          try dsimp only
          rw [es]
          generalize crI s (foS P s) i k z = y at hcl
          have z0 : nI y.1 + 0 = nI y.1 := nI_add y.1 0
          have skip : crB s (foS P s) i (i + 1 + k) = false → X (d + 19) jX6_critical 111 [some (vR 6 0 0), some (vI x), some (vI (nI (spS s (foS P s)))), some (vI (nI (lmS s (foS P s) 63))), some (vI (nI y.1)), some (vI y.2), some (vI (nI i)), some (vI (nI (i + 1 + k))), none] [] N' = X (d + 19) jX6_critical 51 [some (vR 6 0 0), some (vI x), some (vI (nI (spS s (foS P s)))), some (vI (nI (lmS s (foS P s) 63))), some (vI (nI (cr1 i (i + 1 + k) (crB s (foS P s) i (i + 1 + k)) y).1)), some (vI (cr1 i (i + 1 + k) (crB s (foS P s) i (i + 1 + k)) y).2), some (vI (nI i)), some (vI (nI (i + 1 + (k + 1)))), none] [] N' := fun q => by
            have e9 : cr1 i (i + 1 + k) (crB s (foS P s) i (i + 1 + k)) y = y := if_neg (by rw [q]; decide)
            rw [e9, B_X6_critical_111, B_X6_critical_112, eq_00, B_X6_critical_135, B_X6_critical_137, eq_00, B_X6_critical_150, B_X6_critical_151, nI_1, z0]
            rfl
          rw [B_X6_critical_51, hA', hn, ge_no (by omega) (by omega), bit_p hsp hi6]
          by_cases c1 : (spS s (foS P s)).testBit i = true
          · rw [if_pos c1, if_pos rfl, bit_p hsp hj6]
            by_cases c2 : (spS s (foS P s)).testBit (i + 1 + k) = true
            · rw [if_pos c2, if_pos rfl, wo_63 hi6, wo_p (wo_lt (by decide) hi6) hj6, X6_looseMany (d + 13) hs hA' F (wo_lt (wo_lt (by decide) hi6) hj6), bindI_some]
              by_cases c3 : lmS s (foS P s) 63 < lmS s (foS P s) (wo (wo 63 i) (i + 1 + k))
              · have eb : crB s (foS P s) i (i + 1 + k) = true := by unfold crB; rw [c1, c2, decide_eq_true c3]; rfl
                have e9 : cr1 i (i + 1 + k) (crB s (foS P s) i (i + 1 + k)) y = (y.1 + 1, if y.1 = 0 then nI (10 * i + (i + 1 + k)) else y.2) := if_pos eb
                have e10 : (10 : Int32) * nI i + nI (i + 1 + k) = nI (10 * i + (i + 1 + k)) := by rw [show (10 : Int32) = nI 10 from rfl, nI_mul, nI_add]
                rw [if_neg (nI_ge c3 (by omega)), e9, B_X6_critical_112, ne_10]
                by_cases c4 : y.1 = 0
                · have c5 : nI y.1 = 0 := by rw [c4]; rfl
                  rw [if_pos c5, B_X6_critical_137, ne_10, B_X6_critical_151, nI_1, nI_1, e10, if_pos c4]
                  rfl
                · rw [if_neg (nI_ne0 (by omega) (by omega)), B_X6_critical_135, B_X6_critical_137, ne_10, B_X6_critical_151, nI_1, nI_1, if_neg c4]
                  rfl
              · rw [if_pos (nI_le (by omega) (by omega))]
                exact skip (by unfold crB; rw [decide_eq_false c3, Bool.and_false])
            · rw [if_neg c2, if_neg (by decide)]
              exact skip (by unfold crB; rw [Bool.eq_false_iff.mpr c2, Bool.and_false, Bool.false_and])
          · rw [if_neg c1, if_neg (by decide)]
            exact skip (by unfold crB; rw [Bool.eq_false_iff.mpr c1, Bool.false_and, Bool.false_and]))
        refine Eq.trans L ?_
        try dsimp only
        have e0 : i + 1 + (nsS s - (i + 1)) = nsS s := by omega
        rw [e0, B_X6_critical_51, hA', hn, le_self, B_X6_critical_160, nI_1]
      try dsimp only
      rw [E_X6_critical, X6_in, bindI_some, if_pos b, ne_10, B_X6_critical_11, e, bindI_some, X6_loose63 (d + 13) hs hA' F, bindI_some]
      refine Eq.trans (chain (fun i => X (d + 19) jX6_critical 33 [some (vR 6 0 0), some (vI x), some (vI (nI (spS s (foS P s)))), some (vI (nI (lmS s (foS P s) 63))), some (vI (nI (crS s (foS P s) i).1)), some (vI (crS s (foS P s) i).2), some (vI (nI i)), none, none] [] N') (nsS s) (fun i hi => ?_)) ?_
      · have hcl := crS_le s (foS P s) h6 i
        try dsimp only
        rw [B_X6_critical_33, hA', hn, ge_no hi (by omega), nI_1, inner i _ hi (by omega)]
        rfl
      · try dsimp only
        rw [B_X6_critical_33, hA', hn, le_self, B_X6_critical_166]
        by_cases c : x = 0
        · rw [if_pos c, if_pos c, B_X6_critical_177]
        · rw [if_neg c, if_neg c, B_X6_critical_175, B_X6_critical_177]
  · refine Ans.pure (vI (-1)) ?_ (fun N hN => ?_)
    · rw [E_X5_critical, rng, if_neg b, B_X5_critical_9]
    · rw [E_X6_critical, X6_in, bindI_some, if_neg b, eq_00]
