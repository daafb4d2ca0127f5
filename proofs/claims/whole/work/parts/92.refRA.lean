/-! the reference's reader: signs, words, numbers -/
def RP (Z : Nat → Prop) (M M' : Mem) : Prop := M'.1 = M.1 ∧ M'.2.2 = M.2.2 ∧ (∀ k, ¬ (6 ≤ k ∧ k ≤ 9 ∧ ¬ k = 7) → rI M' k = rI M k) ∧ (∀ k, ¬ k = 2 → rA M' k = rA M k) ∧ ∀ p, ¬ Z p → rA M' 2 p = rA M 2 p
def Z1 (a p : Nat) : Prop := p = 235 + a ∨ (240 + 140 * a ≤ p ∧ p < 380 + 140 * a)
theorem RP.rf {Z : Nat → Prop} {M : Mem} : RP Z M M := ⟨rfl, rfl, fun _ _ => rfl, fun _ _ => rfl, fun _ _ => rfl⟩
theorem RP.tr {Z : Nat → Prop} {M M' M'' : Mem} (h : RP Z M M') (g : RP Z M' M'') : RP Z M M'' := ⟨g.1.trans h.1, g.2.1.trans h.2.1, fun k hk => (g.2.2.1 k hk).trans (h.2.2.1 k hk), fun k hk => (g.2.2.2.1 k hk).trans (h.2.2.2.1 k hk), fun p hp => (g.2.2.2.2 p hp).trans (h.2.2.2.2 p hp)⟩
theorem RP.mono {Z Y : Nat → Prop} {M M' : Mem} (h : RP Z M M') (hZ : ∀ p, Z p → Y p) : RP Y M M' := ⟨h.1, h.2.1, h.2.2.1, h.2.2.2.1, fun p hp => h.2.2.2.2 p (fun q => hp (hZ p q))⟩
theorem RP.i {Z : Nat → Prop} {M : Mem} {k : Nat} {x : Int32} (hk : 6 ≤ k ∧ k ≤ 9 ∧ ¬ k = 7) : RP Z M (rsI M k x) := ⟨rfl, rfl, fun k' h => by rw [rI_rsI, if_neg (fun q => h (by omega))], fun _ _ => rfl, fun _ _ => rfl⟩
theorem RP.a {Z : Nat → Prop} {M : Mem} {p : Nat} {x : Int32} (hp : Z p) : RP Z M (rsA M 2 (upd (rA M 2) p x)) := ⟨rfl, rfl, fun _ _ => rfl, fun k hk => by rw [rA_rsA, if_neg hk], fun p' h => by
  rw [rA_rsA, if_pos rfl, upd_ne (fun q => h (by rw [q]; exact hp))]⟩
def RB (a N : Nat) (g : Nat → Int32) (M : Mem) : Prop := rI M 5 = nI a ∧ rI M 7 = nI N ∧ ∀ i, i < 100 → rA M 2 (125 + i) = g i
theorem RB.rp {a N : Nat} {g : Nat → Int32} {Z : Nat → Prop} {M M' : Mem} (h : RB a N g M) (D : RP Z M M') (hZ : ∀ i, i < 100 → ¬ Z (125 + i)) : RB a N g M' := by
  obtain ⟨h1, h2, h3⟩ := h
  refine ⟨?_, ?_, fun i hi => ?_⟩
  · rw [D.2.2.1 5 (by omega)]; exact h1
  · rw [D.2.2.1 7 (by omega)]; exact h2
  · rw [D.2.2.2.2 _ (hZ i hi)]; exact h3 i hi
theorem Z1.t {a i : Nat} (hi : i < 100) : ¬ Z1 a (125 + i) := fun q => by unfold Z1 at q; omega
def RT (M0 : Mem) (a q o : Nat) (L : List Int32) (M : Mem) : Prop := RP (Z1 a) M0 M ∧ rI M 6 = nI q ∧ rI M 8 = 0 ∧ rI M 9 = nI o ∧ rA M 2 (235 + a) = nI L.length ∧ ∀ k, (h : k < L.length) → rA M 2 (240 + 140 * a + k) = L[k]
def RX (M0 : Mem) (a q : Nat) (M : Mem) : Prop := RP (Z1 a) M0 M ∧ rI M 6 = nI q ∧ rI M 8 = 1
theorem RT.i6 {M0 M : Mem} {a q q' o : Nat} {L : List Int32} (h : RT M0 a q o L M) : RT M0 a q' o L (rsI M 6 (nI q')) := by
  obtain ⟨D, h1, h2, h3, h4⟩ := h
  refine ⟨D.tr (RP.i (by decide)), ?_, ?_, ?_, h4⟩
  · rw [rI_rsI, if_pos rfl]
  · rw [rI_rsI, if_neg (by decide)]; exact h2
  · rw [rI_rsI, if_neg (by decide)]; exact h3
theorem RT.i8 {M0 M : Mem} {a q o : Nat} {L : List Int32} (h : RT M0 a q o L M) : RT M0 a q o L (rsI M 8 0) := by
  obtain ⟨D, h1, h2, h3, h4⟩ := h
  refine ⟨D.tr (RP.i (by decide)), ?_, ?_, ?_, h4⟩
  · rw [rI_rsI, if_neg (by decide)]; exact h1
  · rw [rI_rsI, if_pos rfl]
  · rw [rI_rsI, if_neg (by decide)]; exact h3
theorem RT.i9 {M0 M : Mem} {a q o o' : Nat} {L : List Int32} (h : RT M0 a q o L M) : RT M0 a q o' L (rsI M 9 (nI o')) := by
  obtain ⟨D, h1, h2, h3, h4⟩ := h
  refine ⟨D.tr (RP.i (by decide)), ?_, ?_, ?_, h4⟩
  · rw [rI_rsI, if_neg (by decide)]; exact h1
  · rw [rI_rsI, if_neg (by decide)]; exact h2
  · rw [rI_rsI, if_pos rfl]
theorem RT.bad {M0 M : Mem} {a q o : Nat} {L : List Int32} (h : RT M0 a q o L M) : RX M0 a q (rsI M 8 1) := ⟨h.1.tr (RP.i (by decide)), by rw [rI_rsI, if_neg (by decide)]; exact h.2.1, by rw [rI_rsI, if_pos rfl]⟩
theorem RX.i8 {M0 M : Mem} {a q : Nat} (h : RX M0 a q M) : RX M0 a q (rsI M 8 1) := ⟨h.1.tr (RP.i (by decide)), by rw [rI_rsI, if_neg (by decide)]; exact h.2.1, by rw [rI_rsI, if_pos rfl]⟩
theorem RX.i9 {M0 M : Mem} {a q : Nat} {x : Int32} (h : RX M0 a q M) : RX M0 a q (rsI M 9 x) := ⟨h.1.tr (RP.i (by decide)), by rw [rI_rsI, if_neg (by decide)]; exact h.2.1, by rw [rI_rsI, if_neg (by decide)]; exact h.2.2⟩
theorem RX.i6 {M0 M : Mem} {a q : Nat} (h : RX M0 a q M) : RX M0 a q (rsI M 6 (nI q)) := ⟨h.1.tr (RP.i (by decide)), by rw [rI_rsI, if_pos rfl], by rw [rI_rsI, if_neg (by decide)]; exact h.2.2⟩
theorem RX.b {M0 M : Mem} {a q : Nat} (h : RX M0 a q M) : ¬ rI M 8 = 0 := by rw [h.2.2]; exact n10
theorem here_ref (d : Nat) {M0 M : Mem} {N a q o : Nat} {g : Nat → Int32} {L : List Int32} (c : RB a N g M0) (hN : N ≤ 100) (h : RT M0 a q o L M) (hq : q ≤ N) : XC (d + 1) jX6_here [vR 6 0 0] M = some (some (vI (pkG g N q)), M) := by
  obtain ⟨c1, c2, c3⟩ := c.rp h.1 (fun i hi => Z1.t hi)
  have e125 : (125 : Int32) + nI q = nI (125 + q) := nI_add 125 q
  rw [E_X6_here, c2, h.2.1]
  by_cases w : q < N
  · have e : pkG g N q = g q := if_pos w
    rw [ge_no w (by omega), e125, ob_no (by omega) (by omega), cl_no (by omega), B_X6_here_27, c3 q (by omega), e]
  · have e : pkG g N q = -1 := if_neg w
    rw [if_pos (nI_le (by omega) (by omega)), B_X6_here_26, B_X6_here_27, e]
theorem must_ref (d : Nat) {M0 M : Mem} {N a q o : Nat} {g : Nat → Int32} {L : List Int32} (c : RB a N g M0) (hN : N ≤ 100) (h : RT M0 a q o L M) (hq : q ≤ N) (x : Int32) : ∃ M', XC (d + 2) jX6_must [vR 6 0 0, vI x] M = some (none, M') ∧ (if pkG g N q = x then RT M0 a (q + 1) o L M' else RX M0 a q M') := by
  rw [E_X6_must, if_pos h.2.2.1, here_ref d c hN h hq, bindI_some]
  by_cases e : pkG g N q = x
  · rw [if_pos e, B_X6_must_20, B_X6_must_21, if_pos (Or.inl rfl)]
    try dsimp only
    have e8 : rI (rsI M 8 0) 8 = 0 := by rw [rI_rsI, if_pos rfl]
    rw [if_pos e8, B_X6_must_40, B_X6_must_41, h.i8.2.1, nI_1]
    exact ⟨_, rfl, by rw [if_pos e]; exact h.i8.i6⟩
  · rw [if_neg e, B_X6_must_16, B_X6_must_21, if_pos (Or.inr rfl)]
    try dsimp only
    rw [if_neg h.bad.b, B_X6_must_41, h.bad.2.1, Int32.add_zero]
    exact ⟨_, rfl, by rw [if_neg e]; exact h.bad.i6⟩
theorem must_bad (d : Nat) {M0 M : Mem} {a q : Nat} (h : RX M0 a q M) (x : Int32) : ∃ M', XC (d + 2) jX6_must [vR 6 0 0, vI x] M = some (none, M') ∧ RX M0 a q M' := by
  rw [E_X6_must, if_neg h.b, B_X6_must_16, B_X6_must_21, if_pos (Or.inr rfl)]
  try dsimp only
  rw [if_neg h.i8.b, B_X6_must_41, h.i8.2.1, Int32.add_zero]
  exact ⟨_, rfl, h.i8.i6⟩
/-- what a part of the reader leaves -/
def OW (M0 : Mem) (a o : Nat) (L : List Int32) {α : Type} (r : Nat × Option α) (M' : Mem) : Prop := match r with
  | (q', none) => RX M0 a q' M'
  | (q', some _) => RT M0 a q' o L M'
theorem spells_bad (d : Nat) {M0 : Mem} {a : Nat} {n : Nat} (hn : n < 6) : ∀ k i q M, i + k = (wN n).length → RX M0 a q M → ∃ M', X (d + 4) jX6_spells 2 [some (vR 6 0 0), some (vR 20 n 0), some (vI (nI i))] [] M = some (none, M') ∧ RX M0 a q M'
  | 0, i, q, M, hi, h => by
    have hi : i = (wN n).length := hi
    exact ⟨M, by rw [B_X6_spells_2, J0_length (d + 2) hn, bindI_some, hi, le_self, B_X6_spells_25], h⟩
  | k + 1, i, q, M, hi, h => by
    have hl : i < (wN n).length := by omega
    obtain ⟨l1, l2⟩ := wN_len n hn
    obtain ⟨M1, e1, h1⟩ := must_bad (d + 2) h (strB n i)
    rw [B_X6_spells_2, J0_length (d + 2) hn, bindI_some, ge_no hl (by omega), J0_charAt d hn hl, bindI_some, e1, bindV_some, nI_1]
    exact spells_bad d hn k (i + 1) q M1 (by omega) h1
theorem spells_ref (d : Nat) {M0 : Mem} {N a o : Nat} {g : Nat → Int32} {L : List Int32} (c : RB a N g M0) (hN : N ≤ 100) {n : Nat} (hn : n < 6) (h0 : ∀ x, x ∈ wN n → (0 : Int32) ≤ x) (hg : ∀ i, i < N → ∃ c, c ≤ 127 ∧ g i = nI c) : ∀ k i q M, i + k = (wN n).length → RT M0 a q o L M → q ≤ N → ∃ M', X (d + 4) jX6_spells 2 [some (vR 6 0 0), some (vR 20 n 0), some (vI (nI i))] [] M = some (none, M') ∧ OW M0 a o L (pWd (pkG g N) ((wN n).drop i) q) M'
  | 0, i, q, M, hi, h, hq => by
    have hi : i = (wN n).length := hi
    refine ⟨M, ?_, ?_⟩
    · rw [B_X6_spells_2, J0_length (d + 2) hn, bindI_some, hi, le_self, B_X6_spells_25]
    · rw [hi, List.drop_length]; exact h
  | k + 1, i, q, M, hi, h, hq => by
    have hl : i < (wN n).length := by omega
    obtain ⟨l1, l2⟩ := wN_len n hn
    have eg : strB n i = (wN n)[i] := by rw [strB_at, List.getD_eq_getElem?_getD, List.getElem?_eq_getElem hl]; rfl
    obtain ⟨M1, e1, h1⟩ := must_ref (d + 2) c hN h hq (wN n)[i]
    rw [List.drop_eq_getElem_cons hl, pWd_cons, B_X6_spells_2, J0_length (d + 2) hn, bindI_some, ge_no hl (by omega), J0_charAt d hn hl, bindI_some, eg, e1, bindV_some, nI_1]
    by_cases e : pkG g N q = (wN n)[i]
    · have hqN : q < N := (pkG_Tp hg).in e (h0 _ (List.getElem_mem hl))
      rw [if_pos e] at h1
      rw [if_pos e]
      exact spells_ref d c hN hn h0 hg k (i + 1) (q + 1) M1 (by omega) h1 hqN
    · rw [if_neg e] at h1
      rw [if_neg e]
      exact spells_bad d hn k (i + 1) q M1 (by omega) h1
theorem in_fig (d : Nat) {x : Int32} (M : Mem) : XC (d + 1) jX6_in [vI x, vI 48, vI 57] M = some (some (vI (if isD x then 1 else 0)), M) := by
  rw [E_X6_in]
  by_cases a : x < 48
  · rw [if_pos a, if_neg (fun q => absurd a (Int32.not_lt.mpr q.1)), B_X6_in_14, B_X6_in_15, zo_0]
  · rw [if_neg a]
    by_cases b : 57 < x
    · rw [if_pos b, if_neg (fun q => absurd b (Int32.not_lt.mpr q.2)), B_X6_in_14, B_X6_in_15, zo_0]
    · rw [if_neg b, if_pos ⟨Int32.not_lt.mp a, Int32.not_lt.mp b⟩, B_X6_in_15, zo_1]
theorem fig_bad (d : Nat) {M0 M : Mem} {a q : Nat} (h : RX M0 a q M) : ∃ M', XC (d + 2) jX6_figures [vR 6 0 0] M = some (some (vI 0), M') ∧ RX M0 a q M' := by
  rw [E_X6_figures, if_neg h.b, B_X6_figures_22, B_X6_figures_27, if_pos (Or.inr rfl)]
  try dsimp only
  rw [B_X6_figures_34, if_neg (by decide), if_neg h.i8.b, B_X6_figures_97]
  exact ⟨_, rfl, h.i8⟩
def figV (r : Nat × Option Nat) : Int32 := match r.2 with
  | none => 0
  | some v => nI v
theorem fig_ref (d : Nat) {M0 M : Mem} {N a q o : Nat} {g : Nat → Int32} {L : List Int32} (c : RB a N g M0) (hN : N ≤ 100) (hg : ∀ i, i < N → ∃ c, c ≤ 127 ∧ g i = nI c) (h : RT M0 a q o L M) (hq : q ≤ N) : ∃ M', XC (d + 2) jX6_figures [vR 6 0 0] M = some (some (vI (figV (pNm (pkG g N) q))), M') ∧ OW M0 a o L (pNm (pkG g N) q) M' := by
  have Tpk := pkG_Tp hg
  obtain ⟨d1, d2⟩ := dig_ok (pk_or Tpk q)
  rw [E_X6_figures, if_pos h.2.2.1, here_ref d c hN h hq, bindI_some, in_fig, bindI_some]
  unfold pNm
  by_cases w : isD (pkG g N q)
  · have hqN := isD_in Tpk w
    obtain ⟨f1, f2⟩ := dig_ok (pk_or Tpk (q + 1))
    have dl := dv_le w
    have e1 : (10 : Int32) * 0 + pkG g N q - 48 = nI (dv (pkG g N q)) := by rw [Int32.mul_zero, Int32.zero_add]; exact d2 w
    have h8 := h.i8
    have h1 : RT M0 a (q + 1) o L (rsI (rsI M 8 0) 6 (nI (q + 1))) := h8.i6
    rw [if_pos w, if_pos w, if_neg n10, B_X6_figures_26, B_X6_figures_27, if_pos (Or.inl rfl)]
    try dsimp only
    rw [B_X6_figures_34, if_neg (by decide), if_pos h8.2.2.1, here_ref d c hN h8 hq, bindI_some, in_fig, bindI_some, if_pos w, if_neg n10, if_pos rfl, B_X6_figures_68, here_ref d c hN h8 hq, bindI_some]
    try dsimp only
    rw [h8.2.1, nI_1, e1, B_X6_figures_34, if_neg (by decide), if_pos h1.2.2.1, here_ref d c hN h1 hqN, bindI_some, in_fig, bindI_some]
    by_cases v2 : isD (pkG g N (q + 1))
    · have hqN2 := isD_in Tpk v2
      rw [if_pos v2, if_neg n10, if_neg (by decide)]
      by_cases v0 : dv (pkG g N q) = 0
      · have l0 : nI (dv (pkG g N q)) ≤ 0 := by rw [v0]; decide
        rw [if_pos l0, if_pos (Or.inl v0), B_X6_figures_97]
        exact ⟨_, rfl, h1⟩
      · have l0 : ¬ nI (dv (pkG g N q)) ≤ 0 := nI_ge (show 0 < dv (pkG g N q) by omega) (by omega)
        have dl2 := dv_le v2
        have e2 : (10 : Int32) * nI (dv (pkG g N q)) + pkG g N (q + 1) - 48 = nI (10 * dv (pkG g N q) + dv (pkG g N (q + 1))) := by
          rw [show (10 : Int32) * nI (dv (pkG g N q)) = nI (10 * dv (pkG g N q)) from nI_mul 10 _, ← nI_add, ← f2 v2, Int32.sub_eq_add_neg, Int32.sub_eq_add_neg, Int32.add_assoc]
        rw [if_neg l0, if_neg (fun z => z.elim v0 (fun y => y v2)), B_X6_figures_68, here_ref d c hN h1 hqN, bindI_some]
        try dsimp only
        rw [e2, h1.2.1, nI_1, B_X6_figures_34, if_pos (by decide), B_X6_figures_97]
        exact ⟨_, rfl, h1.i6⟩
    · rw [if_neg v2, if_pos rfl, if_pos (Or.inr v2), B_X6_figures_97]
      exact ⟨_, rfl, h1⟩
  · rw [if_neg w, if_neg w, if_pos rfl, B_X6_figures_22, B_X6_figures_27, if_pos (Or.inr rfl)]
    try dsimp only
    rw [B_X6_figures_34, if_neg (by decide), if_neg h.bad.b, B_X6_figures_97]
    exact ⟨_, rfl, h.bad⟩
theorem among_ref (d : Nat) {M0 M : Mem} {N a q o : Nat} {g : Nat → Int32} {L : List Int32} (c : RB a N g M0) (hN : N ≤ 100) (h : RT M0 a q o L M) (hq : q ≤ N) {n : Nat} (hn : n < 6) : ∃ M', XC (d + 5) jX6_among [vR 6 0 0, vR 20 n 0] M = some (some (vI (ixV (ixW (wN n) (pkG g N q)))), M') ∧ RT M0 a (pAm (pkG g N) (wN n) q).1 o L M' := by
  obtain ⟨l1, l2⟩ := wN_len n hn
  have go : ∀ m, m ≤ (wN n).length → (∀ j, j < m → ¬ (wN n).getD j 0 = pkG g N q) → XC (d + 5) jX6_among [vR 6 0 0, vR 20 n 0] M = X (d + 4) jX6_among 2 [some (vR 6 0 0), some (vR 20 n 0), some (vI (nI m))] [] M := fun m hm hh => by
    rw [E_X6_among]
    refine chain (fun i => X (d + 4) jX6_among 2 [some (vR 6 0 0), some (vR 20 n 0), some (vI (nI i))] [] M) m (fun i hi => ?_)
    try dsimp only
    have ne : ¬ pkG g N q = strB n i := fun z => hh i hi z.symm
    rw [B_X6_among_2, J0_length (d + 2) hn, bindI_some, ge_no (by omega) (by omega), here_ref (d + 3) c hN h hq, bindI_some, J0_charAt d hn (by omega), bindI_some, if_neg ne, B_X6_among_34, nI_1]
  unfold pAm
  match hx : ixW (wN n) (pkG g N q) with
  | none =>
    rw [go _ (Nat.le_refl _) (ixW_none _ _ hx), B_X6_among_2, J0_length (d + 2) hn, bindI_some, le_self, B_X6_among_40]
    exact ⟨M, rfl, h⟩
  | some i =>
    obtain ⟨h1, h2⟩ := ixW_some _ _ _ hx
    have hi := (ixW_in _ _ _ hx).1
    have ee : pkG g N q = strB n i := h1.symm
    rw [go i (by omega) h2, B_X6_among_2, J0_length (d + 2) hn, bindI_some, ge_no hi (by omega), here_ref (d + 3) c hN h hq, bindI_some, J0_charAt d hn hi, bindI_some, if_pos ee]
    try dsimp only
    rw [h.2.1, nI_1]
    exact ⟨_, rfl, h.i6⟩
theorem emits_bad (d : Nat) {M0 M : Mem} {a q : Nat} (h : RX M0 a q M) (x : Int32) : XC (d + 1) jX6_emits [vR 6 0 0, vI x] M = some (none, M) := by
  rw [E_X6_emits, if_neg h.b, B_X6_emits_56]
theorem emits_ref (d : Nat) {M0 M : Mem} {N a q o : Nat} {g : Nat → Int32} {L : List Int32} (c : RB a N g M0) (ha : a < 5) (h : RT M0 a q o L M) (hL : L.length < 140) (x : Int32) : ∃ M', XC (d + 1) jX6_emits [vR 6 0 0, vI x] M = some (none, M') ∧ RT M0 a q o (L ++ [x]) M' := by
  obtain ⟨c1, _, _⟩ := c.rp h.1 (fun i hi => Z1.t hi)
  have e235 : (235 : Int32) + nI a = nI (235 + a) := nI_add 235 a
  have e240 : (240 : Int32) + 140 * nI a + nI L.length = nI (240 + 140 * a + L.length) := by
    rw [show (140 : Int32) * nI a = nI (140 * a) from nI_mul 140 a, show (240 : Int32) + nI (140 * a) = nI (240 + 140 * a) from nI_add 240 (140 * a), nI_add]
  obtain ⟨D, h1, h2, h3, h4, h5⟩ := h
  rw [E_X6_emits, if_pos h2, c1, e235, ob_no (by omega) (by omega), cl_no (by omega), h4, e240, ob_no (by omega) (by omega), cl_no (by omega)]
  try dsimp only
  rw [rI_rsA, c1, e235, ob_no (by omega) (by omega), ob_no (by omega) (by omega), cl_no (by omega), B_X6_emits_56]
  have eA : rA (rsA M 2 (upd (rA M 2) (240 + 140 * a + L.length) x)) 2 = upd (rA M 2) (240 + 140 * a + L.length) x := by rw [rA_rsA, if_pos rfl]
  rw [eA, upd_ne (by omega), h4, nI_1]
  refine ⟨_, rfl, ?_, h1, h2, h3, ?_, fun k hk => ?_⟩
  · have D1 := (D.tr (RP.a (Z := Z1 a) (p := 240 + 140 * a + L.length) (x := x) (Or.inr ⟨by omega, by omega⟩))).tr (RP.a (Z := Z1 a) (p := 235 + a) (x := nI (L.length + 1)) (Or.inl rfl))
    rw [eA] at D1
    exact D1
  · rw [rA_rsA, if_pos rfl, upd_same, List.length_append]; rfl
  · rw [rA_rsA, if_pos rfl, upd_ne (by omega)]
    by_cases e : k = L.length
    · subst e
      rw [upd_same, List.getElem_append_right (Nat.le_refl _)]
      simp
    · have hk2 : k < L.length := by simp only [List.length_append, List.length_cons, List.length_nil] at hk; omega
      rw [upd_ne (by omega), h5 k hk2, List.getElem_append_left hk2]
