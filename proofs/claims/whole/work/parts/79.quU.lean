/-! props -/
theorem X6_weightOf (d : Nat) {B : Nat} {s : St} {N : Mem} (hs : Wf B s) (hN : rA N 2 = s) {S : Nat} (hS : S < 64) : XC (d + 2) jX6_weightOf [vR 6 0 0, vI (nI S)] N = some (some (vI (nI (Ws s S))), N) := by
  obtain ⟨hn, h6⟩ := hs.nt
  rw [E_X6_weightOf]
  refine Eq.trans (chain (fun r => X (d + 1) jX6_weightOf 4 [some (vR 6 0 0), some (vI (nI S)), some (vI (nI (smw (outP s S) (wtS s) r))), some (vI (nI r))] [] N) (ntS s) (fun r hr => ?_)) ?_
  · have wr := hs.wt (i := r) (by omega)
    have up : smw (outP s S) (wtS s) (r + 1) = smw (outP s S) (wtS s) r + (if outP s S r = true then wtS s r else 0) := rfl
    have z0 : nI (smw (outP s S) (wtS s) r) + 0 = nI (smw (outP s S) (wtS s) r) := nI_add _ 0
    try dsimp only
    rw [up, B_X6_weightOf_4, hN, hn, ge_no hr (by omega), X6_doesHang d N hN (by omega), bindI_some]
    by_cases c : hg s r
    · rw [if_pos c, ne_10, bit_p hS (by omega)]
      by_cases c2 : S.testBit r = true
      · rw [if_pos c2, ne_10, B_X6_weightOf_44, B_X6_weightOf_45, z0, nI_1, if_neg (fun h => (outP_i.mp h).2 c2)]
        rfl
      · rw [if_neg c2, eq_00, la69, ob_no (by omega) (by omega), cl_no (by omega), hN, wr.1, B_X6_weightOf_45, nI_add, nI_1, if_pos (outP_i.mpr ⟨c, c2⟩)]
    · rw [if_neg c, eq_00, B_X6_weightOf_44, B_X6_weightOf_45, z0, nI_1, if_neg (fun h => c (outP_i.mp h).1)]
      rfl
  · try dsimp only
    rw [B_X6_weightOf_4, hN, hn, le_self, B_X6_weightOf_53]
    rfl
theorem smw_60 {B : Nat} {s : St} (hs : Wf B s) (p : Nat → Bool) : ∀ n, n ≤ 6 → smw p (wtS s) n ≤ 60 * n
  | 0, _ => Nat.le_refl _
  | n + 1, h => by
    have ih := smw_60 hs p n (by omega)
    have := (hs.wt (i := n) (by omega)).2
    show smw p (wtS s) n + (if p n = true then wtS s n else 0) ≤ _
    split <;> omega
def pfO (s : St) (all i : Nat) (x : Int32) : Prop := (x = 100000000 ∧ ∀ S, S < i → ¬ Ws s S ≤ all) ∨ ∃ c, x = nI c ∧ c ≤ 6 ∧ (∃ S, S < i ∧ Ws s S ≤ all ∧ pop S = c) ∧ ∀ S, S < i → Ws s S ≤ all → c ≤ pop S
theorem q_props (d : Nat) (x : Int32) {B : Nat} {s : St} {P : List Cl} {M : Mem} (h : QC B s P M) : Ans M s (XC (d + 20) jX5_props [vR 5 0 0, vI x] M) (fun N => XC (d + 20) jX6_props [vR 6 0 0, vI x] N) := by
  obtain ⟨hBn, hs, hC, hH, hR⟩ := h
  obtain ⟨hn, h6⟩ := hs.nt
  have hcl := cnt_le (hB s) (ntS s)
  have hcl' : hct s (ntS s) ≤ ntS s := hcl
  by_cases b : 0 ≤ x ∧ x ≤ 3
  · obtain ⟨n, hn3, rfl⟩ := in_le (n := 3) (by omega) rfl b
    have hw := hs.now (by omega) hH.2.2
    -- the fewest
    obtain ⟨c, hc1, hc2, hc3⟩ : ∃ c, c ≤ hct s (ntS s) ∧ Rw_ s c ≤ nowS P s ∧ ∀ c', c' < c → ¬ Rw_ s c' ≤ nowS P s := by
      rcases first_hit (fun c => Rw_ s c ≤ nowS P s) (hct s (ntS s) + 1) with g | ⟨c, g1, g2, g3⟩
      · exact absurd (by rw [R_h]; exact Nat.zero_le _) (g (hct s (ntS s)) (by omega))
      · exact ⟨c, by omega, g2, g3⟩
    have least : ∀ S, Ws s S ≤ nowS P s → c ≤ pop S := fun S hS => by
      rcases Nat.lt_or_ge (pop S) c with g | g
      · have := W_ge hs (S := S) (by omega)
        exact absurd (Nat.le_trans this hS) (hc3 _ g)
      · exact g
    obtain ⟨S0, s1, s2, s3⟩ := R_set hs hc1
    obtain ⟨M1, e1, D1, F1⟩ := X1_allNow (d + 13) 0 M (by omega) hs hC hH
    have hC1 := hC.sc D1
    obtain ⟨M2, e2, D2, F2⟩ := sort_cls (d + 17) hs hC1
    have hC2 := hC1.S D2
    have srt : ∀ j, j < hct s (ntS s) → cA M2 5 0 10 j = nI (rkS s j) := fun j hj => by
      obtain ⟨r1, r2, r3⟩ := rk_ok hj
      have := F2 _ r1 r2
      rw [r3] at this
      exact this
    have R60 : ∀ k, Rw_ s k ≤ 360 := fun k => Nat.le_trans (smw_60 hs _ _ h6) (by omega)
    refine ⟨vI (if c ≤ n then nI c else -5), M2, ?_, (D1.mono scr_SCR).tr D2, fun N hN => ?_⟩
    · have L := chain (fun k => X (d + 19) jX5_props 37 [some (vR 5 0 0), some (vI (nI n)), some (vI (nI (nowS P s))), some (vI (nI (hct s (ntS s)))), some (vI (nI (Rw_ s k))), some (vI (nI k))] [] M2) c (fun k hk => by
        obtain ⟨r1, r2, r3⟩ := rk_ok (s := s) (j := hct s (ntS s) - 1 - k) (by omega)
        have hu := R_up s (c := k) (by omega)
        have g1 := R60 k
        have wr := hs.wt (i := rkS s (hct s (ntS s) - 1 - k)) (by omega)
        have ei : nI (hct s (ntS s)) - 1 - nI k = nI (hct s (ntS s) - 1 - k) := by
          rw [show nI (hct s (ntS s)) - 1 = nI (hct s (ntS s) - 1) from nI_sub (a := hct s (ntS s)) (b := 1) (by omega), nI_sub (by omega)]
        try dsimp only
        rw [B_X5_props_37, if_neg (nI_ge (by have := hc3 k hk; omega) (by omega)), if_neg (nI_ge (by omega) (by omega)), ei, ob_no (by omega) (by omega), cl_no (by omega), srt _ (by omega), ob_no (by omega) (by omega), cl_no (by omega), hC2.a11 (by omega), wr.1, nI_sub (by omega), nI_1]
        try dsimp only
        rw [show Rw_ s k - wtS s (rkS s (hct s (ntS s) - 1 - k)) = Rw_ s (k + 1) by omega])
      have g1 := R60 c
      rw [E_X5_props, rng, if_pos b, B_X5_props_12, e1, bindI_some, e2, bindI_some, X1_sumHanging (d + 17) 0 M2 hs hC2, bindI_some, ← R_0]
      refine Eq.trans L ?_
      try dsimp only
      rw [B_X5_props_37, if_pos (nI_le hc2 (by omega)), B_X5_props_79]
      by_cases w : c ≤ n
      · rw [if_pos (nI_le w (by omega)), if_pos w, B_X5_props_90, B_X5_props_92]
      · rw [if_neg (nI_ge (by omega) (by omega)), if_neg w, B_X5_props_92]
    · obtain ⟨N', e, D, _⟩ := X6_allNow (d + 13) N (by omega) hs hN hR
      have hA := D.s2.trans hN
      refine ⟨N', ?_, D.sc⟩
      obtain ⟨y, ey, Iy⟩ := loop_ex (fun i (y : Int32) => X (d + 19) jX6_props 23 [some (vR 6 0 0), some (vI (nI n)), some (vI (nI (nowS P s))), some (vI y), some (vI (nI i))] [] N') (fun i y => pfO s (nowS P s) i y) 64 (100000000 : Int32) (Or.inl ⟨rfl, fun S hS => absurd hS (by omega)⟩) (fun i y hi I => by
        have g64 : ¬ (64 : Int32) ≤ nI i := nI_ge (b := 64) hi (by omega)
        have hp6 := pop_le i
        have gw : Ws s i ≤ 360 := Nat.le_trans (smw_60 hs _ _ h6) (by omega)
        try dsimp only
        rw [B_X6_props_23, if_neg g64, X6_weightOf (d + 17) hs hA hi, bindI_some]
        by_cases w : Ws s i ≤ nowS P s
        · rw [if_neg (nI_nlt w (by omega)), X6_sizeOf (d + 18) N' hi, bindI_some]
          rcases I with ⟨rfl, I⟩ | ⟨c', rfl, i1, ⟨S, i2, i3, i4⟩, i5⟩
          · have g : ¬ (100000000 : Int32) ≤ nI (pop i) := nI_ge (b := 100000000) (by omega) (by omega)
            rw [if_neg g, X6_sizeOf (d + 18) N' hi, bindI_some, B_X6_props_58, nI_1]
            refine ⟨_, rfl, Or.inr ⟨pop i, rfl, hp6, ⟨i, by omega, w, rfl⟩, fun S hS hW => ?_⟩⟩
            by_cases q : S = i
            · subst q; exact Nat.le_refl _
            · exact absurd hW (I S (by omega))
          · by_cases q : c' ≤ pop i
            · rw [if_pos (nI_le q (by omega)), B_X6_props_57, B_X6_props_58, nI_1]
              refine ⟨_, rfl, Or.inr ⟨c', rfl, i1, ⟨S, by omega, i3, i4⟩, fun S' hS hW => ?_⟩⟩
              by_cases q2 : S' = i
              · subst q2; exact q
              · exact i5 S' (by omega) hW
            · rw [if_neg (nI_ge (by omega) (by omega)), X6_sizeOf (d + 18) N' hi, bindI_some, B_X6_props_58, nI_1]
              refine ⟨_, rfl, Or.inr ⟨pop i, rfl, hp6, ⟨i, by omega, w, rfl⟩, fun S' hS hW => ?_⟩⟩
              by_cases q2 : S' = i
              · subst q2; exact Nat.le_refl _
              · have := i5 S' (by omega) hW
                omega
        · rw [if_pos (nI_lt (by omega) (by omega)), B_X6_props_57, B_X6_props_58, nI_1]
          refine ⟨_, rfl, ?_⟩
          rcases I with ⟨rfl, I⟩ | ⟨c', rfl, i1, ⟨S, i2, i3, i4⟩, i5⟩
          · refine Or.inl ⟨rfl, fun S hS hW => ?_⟩
            by_cases q2 : S = i
            · subst q2; exact w hW
            · exact I S (by omega) hW
          · refine Or.inr ⟨c', rfl, i1, ⟨S, by omega, i3, i4⟩, fun S' hS hW => ?_⟩
            by_cases q2 : S' = i
            · subst q2; exact absurd hW w
            · exact i5 S' (by omega) hW)
      have ec : y = nI c := by
        rcases Iy with ⟨_, I⟩ | ⟨c', rfl, i1, ⟨S, i2, i3, i4⟩, i5⟩
        · exact absurd (by rw [s2]; exact hc2) (I S0 s1)
        · have a1 := i5 S0 s1 (by rw [s2]; exact hc2)
          have a2 := least S i3
          have : c' = c := by omega
          rw [this]
      subst ec
      try dsimp only
      have ey' : X (d + 19) jX6_props 23 [some (vR 6 0 0), some (vI (nI n)), some (vI (nI (nowS P s))), some (vI 100000000), some (vI 0)] [] N' = _ := ey
      rw [E_X6_props, X6_in, bindI_some, if_pos b, ne_10, B_X6_props_12, e, bindI_some, ey']
      try dsimp only
      rw [B_X6_props_23, if_pos (by decide), B_X6_props_65]
      by_cases w : c ≤ n
      · rw [if_pos (nI_le w (by omega)), if_pos w, B_X6_props_75, B_X6_props_76]
      · rw [if_neg (nI_ge (by omega) (by omega)), if_neg w, B_X6_props_76]
  · refine Ans.pure (vI (-2)) ?_ (fun N hN => ?_)
    · rw [E_X5_props, rng, if_neg b, B_X5_props_9]
    · rw [E_X6_props, X6_in, bindI_some, if_neg b, eq_00]
