/-! the reference's reader: clauses and settings -/
def Z2 (a p : Nat) : Prop := p = 225 + a ∨ p = 230 + a ∨ Z1 a p
theorem Z2.t {a i : Nat} (ha : a < 5) (hi : i < 100) : ¬ Z2 a (125 + i) := fun q => by unfold Z2 Z1 at q; omega
theorem stR_app (P : List Cl) (c : Cl) : stR (P ++ [c]) = stR P ++ stC c := by
  unfold stR
  simp only [List.flatMap_append, List.flatMap_cons, List.flatMap_nil, List.append_nil]
def RQs (M : Mem) (a q : Nat) (P : List Cl) : Prop := RT M a q 0 (stR P) M ∧ rA M 2 (225 + a) = nI (eaP P) ∧ rA M 2 (230 + a) = nI (weP P) ∧ (stR P).length ≤ q
def OCl (M : Mem) (a : Nat) (P : List Cl) (r : PC) (x : Res) : Prop := match r with
  | (q', none) => ∃ M', x = some (none, M') ∧ RP (Z2 a) M M' ∧ rI M' 6 = nI q' ∧ rI M' 8 = 1
  | (q', some c) => ∃ M', x = some (none, M') ∧ RP (Z2 a) M M' ∧ RQs M' a q' (P ++ [c])
theorem RP.z2 {a : Nat} {M M' : Mem} (h : RP (Z1 a) M M') : RP (Z2 a) M M' := h.mono (fun p q => Or.inr (Or.inr q))
theorem RX.cl {M M' : Mem} {a q : Nat} {P : List Cl} {x : Res} (h : RX M a q M') (e : x = some (none, M')) : OCl M a P (q, none) x := ⟨M', e, h.1.z2, h.2⟩
theorem RT.self {M0 M : Mem} {a q o : Nat} {L : List Int32} (h : RT M0 a q o L M) : RT M a q o L M := ⟨RP.rf, h.2⟩
theorem much_ref (d : Nat) {M : Mem} {N a q : Nat} {g : Nat → Int32} {P : List Cl} (c : RB a N g M) (ha : a < 5) (hN : N ≤ 100) (hg : ∀ i, i < N → ∃ c, c ≤ 127 ∧ g i = nI c) (h0 : RQs M a q P) (hq : q ≤ N) {w : Nat} (hw : w = 2 ∨ w = 3) {x1 : Int32} (hx : ∀ n : Nat, x1 - nI n = (if w = 2 then iI (-10 - n) else iI (-200 - n))) : OCl M a P (bd (pWd (pkG g N) (wN w) q) fun q1 _ => pRe (pkG g N) w q1) (XC (d + 24) jX6_much [vR 6 0 0, vI x1, vR 20 w 0] M) := by
  have Tpk := pkG_Tp hg
  obtain ⟨h0, hea, hwe, hL⟩ := h0
  obtain ⟨M1, e1, h1⟩ := spells_ref (d + 18) c hN (n := w) (by omega) (wN_0 w (by omega)) hg (wN w).length 0 q M (Nat.zero_add _) h0 hq
  rw [List.drop_zero] at h1
  have e2 : XC (d + 23) jX6_spells [vR 6 0 0, vR 20 w 0] M = some (none, M1) := (E_X6_spells (d + 22) w M).trans e1
  have gg := pWd_go Tpk (wN w) (wN_0 w (by omega)) q
  rw [E_X6_much, e2, bindV_some]
  match hr : pWd (pkG g N) (wN w) q with
  | (q1, none) =>
    rw [hr] at h1
    have h1 : RX M a q1 M1 := h1
    obtain ⟨M2, f2, h2⟩ := fig_bad (d + 21) h1
    obtain ⟨M3, f3, h3⟩ := must_bad (d + 21) h2 32
    refine h3.cl ?_
    rw [f2, bindI_some, f3, bindV_some, some_bad (d + 20) h3, bindV_some, emits_bad (d + 22) h3, bindV_some]
  | (q1, some u) =>
    rw [hr] at h1 gg
    have h1 : RT M a q1 0 (stR P) M1 := h1
    have hq1 : q1 ≤ N := gg.2 hq
    have gl : q ≤ q1 := gg.1
    obtain ⟨M2, f2, h2⟩ := fig_ref (d + 21) c hN hg h1 hq1
    have gn := pNm_go Tpk q1
    rw [f2, bindI_some]
    show OCl M a P (pRe (pkG g N) w q1) _
    unfold pRe
    match hp : pNm (pkG g N) q1 with
    | (q2, none) =>
      rw [hp] at h2
      have h2 : RX M a q2 M2 := h2
      obtain ⟨M3, f3, h3⟩ := must_bad (d + 21) h2 32
      refine h3.cl ?_
      rw [f3, bindV_some, some_bad (d + 20) h3, bindV_some, emits_bad (d + 22) h3, bindV_some]
    | (q2, some n) =>
      rw [hp] at h2 gn
      have h2 : RT M a q2 0 (stR P) M2 := h2
      have hq2 : q2 ≤ N := gn.2 hq1
      have ln := (pNm_some hp).1
      obtain ⟨M3, f3, h3⟩ := must_ref (d + 21) c hN h2 hq2 32
      rw [f3, bindV_some]
      show OCl M a P (if w < 2 then (q2, some (w, n, [])) else if pkG g N q2 = 32 then bd (pEi (pkG g N) (pFa (pkG g N) 5) (q2 + 1)) (fun q3 l => (q3, some (w, n, l))) else (q2, none)) _
      rw [if_neg (show ¬ w < 2 by omega)]
      by_cases e : pkG g N q2 = 32
      · have hq3 : q2 < N := Tpk.in e (by decide)
        rw [if_pos e] at h3
        rw [if_pos e]
        have o := some0_ref d c ha hN hg (q2 + 1) (stR P) M3 h3 hq3 (by omega)
        have tt := pEi_tg (pk := pkG g N) (pFa_tg (pk := pkG g N) 5) (q2 + 1)
        have gE := pEi_go Tpk (pFa_go Tpk 5) (q2 + 1)
        match hs : pEi (pkG g N) (pFa (pkG g N) 5) (q2 + 1), o with
        | (q3, none), o =>
          obtain ⟨M4, f4, h4⟩ := o
          refine h4.cl ?_
          rw [f4, bindV_some, emits_bad (d + 22) h4, bindV_some]
        | (q3, some l), o =>
          obtain ⟨M4, f4, h4⟩ := o
          rw [hs] at gE
          have hq4 : q3 ≤ N := gE.2 hq3
          have t1 := (tt q3 l hs).1
          have hlen : (stR P ++ l.map enR).length = (stR P).length + l.length := by rw [List.length_append, List.length_map]
          obtain ⟨M5, f5, h5⟩ := emits_ref (d + 22) c ha h4 (by omega) (x1 - figV (q2, some n))
          have es : stR P ++ l.map enR ++ [x1 - figV (q2, some n)] = stR (P ++ [(w, n, l)]) := by
            rw [stR_app, show figV (q2, some n) = nI n from rfl, hx n, List.append_assoc]
            unfold stC
            rw [if_neg (show ¬ (w, n, l).1 < 2 by show ¬ w < 2; omega)]
          have el : (stR (P ++ [(w, n, l)])).length = (stR P).length + l.length + 1 := by rw [← es, List.length_append, hlen]; rfl
          rw [es] at h5
          refine ⟨M5, ?_, h5.1.z2, h5.self, ?_, ?_, by omega⟩
          · rw [f4, bindV_some, f5, bindV_some]
          · rw [h5.1.2.2.2.2 _ (fun q => by unfold Z1 at q; omega), hea, eaP_app, if_neg (show ¬ (w, n, l).1 = 0 by show ¬ w = 0; omega)]
          · rw [h5.1.2.2.2.2 _ (fun q => by unfold Z1 at q; omega), hwe, weP_app, if_neg (show ¬ (w, n, l).1 = 1 by show ¬ w = 1; omega)]
      · rw [if_neg e] at h3
        rw [if_neg e]
        refine h3.cl ?_
        rw [some_bad (d + 20) h3, bindV_some, emits_bad (d + 22) h3, bindV_some]
theorem tells_ref (d : Nat) {M : Mem} {N a q : Nat} {g : Nat → Int32} {P : List Cl} (c : RB a N g M) (ha : a < 5) (hN : N ≤ 100) (hg : ∀ i, i < N → ∃ c, c ≤ 127 ∧ g i = nI c) (h0 : RQs M a q P) (hq : q ≤ N) {w : Nat} (hw : w < 2) : OCl M a P (bd (pWd (pkG g N) (wN w) q) fun q1 _ => pRe (pkG g N) w q1) (XC (d + 24) jX6_tellsHere [vR 6 0 0, vI (nI (225 + 5 * w)), vR 20 w 0] M) := by
  have Tpk := pkG_Tp hg
  obtain ⟨h0, hea, hwe, hL⟩ := h0
  obtain ⟨M1, e1, h1⟩ := spells_ref (d + 18) c hN (n := w) (by omega) (wN_0 w (by omega)) hg (wN w).length 0 q M (Nat.zero_add _) h0 hq
  rw [List.drop_zero] at h1
  have e2 : XC (d + 23) jX6_spells [vR 6 0 0, vR 20 w 0] M = some (none, M1) := (E_X6_spells (d + 22) w M).trans e1
  have gg := pWd_go Tpk (wN w) (wN_0 w (by omega)) q
  rw [E_X6_tellsHere, e2, bindV_some]
  match hr : pWd (pkG g N) (wN w) q with
  | (q1, none) =>
    rw [hr] at h1
    have h1 : RX M a q1 M1 := h1
    obtain ⟨M2, f2, h2⟩ := fig_bad (d + 21) h1
    refine h2.cl ?_
    rw [f2, bindI_some, if_neg h2.b, B_X6_tellsHere_29]
  | (q1, some u) =>
    rw [hr] at h1 gg
    have h1 : RT M a q1 0 (stR P) M1 := h1
    have hq1 : q1 ≤ N := gg.2 hq
    have gl : q ≤ q1 := gg.1
    obtain ⟨M2, f2, h2⟩ := fig_ref (d + 21) c hN hg h1 hq1
    rw [f2, bindI_some]
    show OCl M a P (pRe (pkG g N) w q1) _
    unfold pRe
    match hp : pNm (pkG g N) q1 with
    | (q2, none) =>
      rw [hp] at h2
      have h2 : RX M a q2 M2 := h2
      refine h2.cl ?_
      rw [if_neg h2.b, B_X6_tellsHere_29]
    | (q2, some n) =>
      rw [hp] at h2
      have h2 : RT M a q2 0 (stR P) M2 := h2
      have ln := (pNm_some hp).1
      have c5 := (c.rp h2.1 (fun i hi => Z1.t hi)).1
      show OCl M a P (if w < 2 then (q2, some (w, n, [])) else if pkG g N q2 = 32 then bd (pEi (pkG g N) (pFa (pkG g N) 5) (q2 + 1)) (fun q3 l => (q3, some (w, n, l))) else (q2, none)) _
      rw [if_pos hw, if_pos h2.2.2.1, c5, nI_add, ob_no (show 225 + 5 * w + a < 940 by omega) (by omega), cl_no (by omega), show figV (q2, some n) = nI n from rfl]
      try dsimp only
      rw [B_X6_tellsHere_29]
      have es : stR (P ++ [(w, n, [])]) = stR P := by
        rw [stR_app]
        unfold stC
        rw [if_pos (show (w, n, ([] : List Tok)).1 < 2 from hw), List.append_nil]
      have ew : ∀ p, rA (rsA M2 2 (upd (rA M2 2) (225 + 5 * w + a) (nI n))) 2 p = upd (rA M2 2) (225 + 5 * w + a) (nI n) p := fun p => by rw [rA_rsA, if_pos rfl]
      have r225 : rA M2 2 (225 + a) = nI (eaP P) := by rw [h2.1.2.2.2.2 _ (fun q => by unfold Z1 at q; omega), hea]
      have r230 : rA M2 2 (230 + a) = nI (weP P) := by rw [h2.1.2.2.2.2 _ (fun q => by unfold Z1 at q; omega), hwe]
      refine ⟨_, rfl, h2.1.z2.tr (RP.a ?_), ⟨RP.rf, h2.2.1, h2.2.2.1, h2.2.2.2.1, ?_, fun k hk => ?_⟩, ?_, ?_, ?_⟩
      · unfold Z2; omega
      · rw [ew, upd_ne (by omega), es]; exact h2.2.2.2.2.1
      · have hk2 : k < (stR P).length := by rw [es] at hk; exact hk
        rw [ew, upd_ne (by omega)]
        have := h2.2.2.2.2.2 k hk2
        simp only [es]
        exact this
      · rw [ew, eaP_app]
        by_cases z : w = 0
        · subst z
          rw [upd_same, if_pos rfl]
        · rw [if_neg z, upd_ne (by omega), r225]
      · rw [ew, weP_app]
        by_cases z : w = 1
        · subst z
          rw [if_pos rfl]
          exact upd_same
        · rw [if_neg z, upd_ne (by omega), r230]
      · rw [es]; omega
theorem m200 : (-200 : Int32) = iI (-200) := by decide +kernel
theorem m10 : (-10 : Int32) = iI (-10) := by decide +kernel
theorem clause_ref (d : Nat) {M : Mem} {N a q : Nat} {g : Nat → Int32} {P : List Cl} (c : RB a N g M) (ha : a < 5) (hN : N ≤ 100) (hg : ∀ i, i < N → ∃ c, c ≤ 127 ∧ g i = nI c) (h0 : RQs M a q P) (hq : q ≤ N) : OCl M a P (pCl (pkG g N) q) (XC (d + 25) jX6_clauseHere [vR 6 0 0] M) := by
  have fin : ∀ {r : PC} {x : Res}, OCl M a P r x → OCl M a P r (bindV x fun M1 => X (d + 24) jX6_clauseHere 100 [none] [] M1) := fun {r x} h => by
    match r, h with
    | (q', none), h =>
      obtain ⟨M', e, h⟩ := h
      exact ⟨M', by rw [e, bindV_some, B_X6_clauseHere_100], h⟩
    | (q', some c), h =>
      obtain ⟨M', e, h⟩ := h
      exact ⟨M', by rw [e, bindV_some, B_X6_clauseHere_100], h⟩
  rw [E_X6_clauseHere, here_ref (d + 23) c hN h0.1 hq, bindI_some, pCl_re]
  by_cases e1 : pkG g N q = 100
  · rw [if_pos e1, if_pos e1, B_X6_clauseHere_83]
    exact fin (much_ref d c ha hN hg h0 hq (w := 3) (Or.inr rfl) (fun n => by rw [if_neg (by decide), m200, ← iI_n, iI_sub]))
  · rw [if_neg e1, if_neg e1]
    by_cases e2 : pkG g N q = 101
    · rw [if_pos e2, if_pos e2, B_X6_clauseHere_48]
      exact fin (tells_ref d c ha hN hg h0 hq (w := 0) (by decide))
    · rw [if_neg e2, if_neg e2]
      by_cases e3 : pkG g N q = 108
      · rw [if_pos e3, if_pos e3, B_X6_clauseHere_72]
        exact fin (much_ref d c ha hN hg h0 hq (w := 2) (Or.inl rfl) (fun n => by rw [if_pos rfl, m10, ← iI_n, iI_sub]))
      · rw [if_neg e3, if_neg e3]
        by_cases e4 : pkG g N q = 119
        · rw [if_pos e4, if_pos e4, B_X6_clauseHere_60]
          exact fin (tells_ref d c ha hN hg h0 hq (w := 1) (by decide))
        · rw [if_neg e4, if_neg e4, B_X6_clauseHere_95]
          try dsimp only
          rw [B_X6_clauseHere_100]
          exact h0.1.bad.cl rfl
def RZ (a : Nat) (M M' : Mem) : Prop := M'.1 = M.1 ∧ M'.2.2 = M.2.2 ∧ (∀ k, ¬ (5 ≤ k ∧ k ≤ 9) → rI M' k = rI M k) ∧ (∀ k, ¬ k = 2 → rA M' k = rA M k) ∧ ∀ p, ¬ (p = 21 ∨ p = 25 ∨ p = 26 ∨ Z2 a p) → rA M' 2 p = rA M 2 p
theorem RZ.tr {a : Nat} {M M' M'' : Mem} (h : RZ a M M') (g : RZ a M' M'') : RZ a M M'' := ⟨g.1.trans h.1, g.2.1.trans h.2.1, fun k hk => (g.2.2.1 k hk).trans (h.2.2.1 k hk), fun k hk => (g.2.2.2.1 k hk).trans (h.2.2.2.1 k hk), fun p hp => (g.2.2.2.2 p hp).trans (h.2.2.2.2 p hp)⟩
theorem RZ.i {a : Nat} {M : Mem} {k : Nat} {x : Int32} (hk : 5 ≤ k ∧ k ≤ 9) : RZ a M (rsI M k x) := ⟨rfl, rfl, fun k' h => by rw [rI_rsI, if_neg (fun q => h (by omega))], fun _ _ => rfl, fun _ _ => rfl⟩
theorem RZ.a {a : Nat} {M : Mem} {p : Nat} {x : Int32} (hp : p = 21 ∨ p = 25 ∨ p = 26 ∨ Z2 a p) : RZ a M (rsA M 2 (upd (rA M 2) p x)) := ⟨rfl, rfl, fun _ _ => rfl, fun k hk => by rw [rA_rsA, if_neg hk], fun p' h => by
  rw [rA_rsA, if_pos rfl, upd_ne (fun q => h (by rw [q]; exact hp))]⟩
theorem RP.z {a : Nat} {M M' : Mem} (h : RP (Z2 a) M M') : RZ a M M' := ⟨h.1, h.2.1, fun k hk => h.2.2.1 k (by omega), h.2.2.2.1, fun p hp => h.2.2.2.2 p (fun q => hp (Or.inr (Or.inr (Or.inr q))))⟩
def SeR (M : Mem) (a : Nat) (r : Nat × Option (List Cl)) (x : Res) : Prop := match r with
  | (q', none) => ∃ M', x = some (some (vI (-10 - nI q')), M') ∧ RZ a M M' ∧ rA M' 2 25 = 0 ∧ rA M' 2 21 = rA M 2 21 ∧ rA M' 2 26 = rA M 2 26
  | (_, some P) => ∃ M', x = some (some (vI (nI a)), M') ∧ RZ a M M' ∧ rA M' 2 25 = 0 ∧ rA M' 2 21 = nI (a + 1) ∧ rA M' 2 26 = nI a ∧ RepR (rA M' 2) a P
theorem good_end (d : Nat) {M M1 : Mem} {N a q q' : Nat} {g : Nat → Int32} {P : List Cl} (ha : a < 5) (hN : N ≤ 100) (c : RB a N g M1) (h : RQs M1 a q P) (hq : q ≤ N) (hw : N ≤ q) (D : RZ a M M1) (h25 : rA M1 2 25 = 0) (h21 : rA M1 2 21 = nI a) : SeR M a (q', some P) (X (d + 25) jX6_setting 149 [some (vR 6 0 0), none] [] M1) := by
  have e : q = N := by omega
  subst e
  obtain ⟨h0, hea, hwe, hL⟩ := h
  obtain ⟨c5, c7, _⟩ := c
  rw [B_X6_setting_149, if_pos h0.2.2.1, h0.2.1, c7, if_pos rfl, B_X6_setting_175]
  try dsimp only
  rw [rI_rsA, rI_rsA, c5, rA_rsA, if_pos rfl, h21, nI_1]
  have er : ∀ p, rA (rsA (rsA M1 2 (upd (rA M1 2) 21 (nI (a + 1)))) 2 (upd (upd (rA M1 2) 21 (nI (a + 1))) 26 (nI a))) 2 p = upd (upd (rA M1 2) 21 (nI (a + 1))) 26 (nI a) p := fun p => by rw [rA_rsA, if_pos rfl]
  have D1 := RZ.a (a := a) (M := M1) (p := 21) (x := nI (a + 1)) (Or.inl rfl)
  have D2 := RZ.a (a := a) (M := rsA M1 2 (upd (rA M1 2) 21 (nI (a + 1)))) (p := 26) (x := nI a) (Or.inr (Or.inr (Or.inl rfl)))
  rw [show rA (rsA M1 2 (upd (rA M1 2) 21 (nI (a + 1)))) 2 = upd (rA M1 2) 21 (nI (a + 1)) by rw [rA_rsA, if_pos rfl]] at D2
  refine ⟨_, rfl, D.tr (D1.tr D2), ?_, ?_, ?_, ?_, ?_, ?_, by omega, fun k hk => ?_⟩
  · rw [er, upd_ne (by decide), upd_ne (by decide)]; exact h25
  · rw [er, upd_ne (by decide), upd_same]
  · rw [er, upd_same]
  · rw [er, upd_ne (by omega), upd_ne (by omega)]; exact hea
  · rw [er, upd_ne (by omega), upd_ne (by omega)]; exact hwe
  · rw [er, upd_ne (by omega), upd_ne (by omega)]; exact h0.2.2.2.2.1
  · rw [er, upd_ne (by omega), upd_ne (by omega)]; exact h0.2.2.2.2.2 k hk
theorem bad_end (d : Nat) {M M1 : Mem} {a q : Nat} (D : RZ a M M1) (h6 : rI M1 6 = nI q) (h : ¬ (rI M1 8 = 0 ∧ rI M1 6 = rI M1 7)) (h25 : rA M1 2 25 = 0) (h21 : rA M1 2 21 = rA M 2 21) (h26 : rA M1 2 26 = rA M 2 26) : SeR M a (q, none) (X (d + 25) jX6_setting 149 [some (vR 6 0 0), none] [] M1) := by
  refine ⟨M1, ?_, D, h25, h21, h26⟩
  rw [B_X6_setting_149]
  by_cases e : rI M1 8 = 0
  · rw [if_pos e, if_neg (fun w => h ⟨e, w⟩), B_X6_setting_167, h6]
  · rw [if_neg e, B_X6_setting_167, h6]
theorem keep_ref {a : Nat} {M M' : Mem} (ha : a < 5) (D : RP (Z2 a) M M') : rA M' 2 25 = rA M 2 25 ∧ rA M' 2 21 = rA M 2 21 ∧ rA M' 2 26 = rA M 2 26 := ⟨D.2.2.2.2 _ (fun q => by unfold Z2 Z1 at q; omega), D.2.2.2.2 _ (fun q => by unfold Z2 Z1 at q; omega), D.2.2.2.2 _ (fun q => by unfold Z2 Z1 at q; omega)⟩
theorem seL_ref (d : Nat) {M : Mem} {N a : Nat} {g : Nat → Int32} (ha : a < 5) (hN : N ≤ 100) (hg : ∀ i, i < N → ∃ c, c ≤ 127 ∧ g i = nI c) (h21 : rA M 2 21 = nI a) : ∀ n q acc M1, n ≤ 9 → RB a N g M1 → RQs M1 a q acc → q ≤ N → RZ a M M1 → rA M1 2 25 = 0 → rA M1 2 21 = rA M 2 21 → rA M1 2 26 = rA M 2 26 → SeR M a (pSe (pkG g N) N n q acc) (bindV (XC (d + 25) jX6_clauseHere [vR 6 0 0] M1) fun M10 => X (d + 25) jX6_setting 107 [some (vR 6 0 0), some (vI (nI (10 - n)))] [] M10)
  | 0, q, acc, M1, hn, c, h, hq, D, k25, k21, k26 => by
    have Tpk := pkG_Tp hg
    have o := clause_ref d c ha hN hg h hq
    have gg := pCl_go Tpk q
    unfold pSe
    match hr : pCl (pkG g N) q, o with
    | (q1, none), o =>
      obtain ⟨M2, e, D2, h6, h8⟩ := o
      obtain ⟨j25, j21, j26⟩ := keep_ref ha D2
      have n8 : ¬ rI M2 8 = 0 := by rw [h8]; exact n10
      rw [e, bindV_some, B_X6_setting_107, if_neg n8]
      exact bad_end d (D.tr D2.z) h6 (fun w => n8 w.1) (j25.trans k25) (j21.trans k21) (j26.trans k26)
    | (q1, some k), o =>
      obtain ⟨M2, e, D2, h2⟩ := o
      obtain ⟨j25, j21, j26⟩ := keep_ref ha D2
      rw [hr] at gg
      have c2 := c.rp D2 (fun i hi => Z2.t ha hi)
      have hq1 : q1 ≤ N := gg.2 hq
      have t10 : (10 : Int32) ≤ nI (10 - 0) := by decide
      show SeR M a (if N ≤ q1 then (q1, some (acc ++ [k])) else (q1, none)) _
      rw [e, bindV_some, B_X6_setting_107, if_pos h2.1.2.2.1, if_pos t10]
      by_cases w : N ≤ q1
      · rw [if_pos w]
        exact good_end d ha hN c2 h2 hq1 w (D.tr D2.z) (j25.trans k25) ((j21.trans k21).trans h21)
      · rw [if_neg w]
        exact bad_end d (D.tr D2.z) h2.1.2.1 (fun z => by rw [h2.1.2.1, c2.2.1] at z; exact nI_ne (by omega) (by omega) (by omega) z.2) (j25.trans k25) (j21.trans k21) (j26.trans k26)
  | n + 1, q, acc, M1, hn, c, h, hq, D, k25, k21, k26 => by
    have Tpk := pkG_Tp hg
    have o := clause_ref d c ha hN hg h hq
    have gg := pCl_go Tpk q
    unfold pSe
    match hr : pCl (pkG g N) q, o with
    | (q1, none), o =>
      obtain ⟨M2, e, D2, h6, h8⟩ := o
      obtain ⟨j25, j21, j26⟩ := keep_ref ha D2
      have n8 : ¬ rI M2 8 = 0 := by rw [h8]; exact n10
      rw [e, bindV_some, B_X6_setting_107, if_neg n8]
      exact bad_end d (D.tr D2.z) h6 (fun w => n8 w.1) (j25.trans k25) (j21.trans k21) (j26.trans k26)
    | (q1, some k), o =>
      obtain ⟨M2, e, D2, h2⟩ := o
      obtain ⟨j25, j21, j26⟩ := keep_ref ha D2
      rw [hr] at gg
      have c2 := c.rp D2 (fun i hi => Z2.t ha hi)
      have hq1 : q1 ≤ N := gg.2 hq
      have t10 : ¬ (10 : Int32) ≤ nI (10 - (n + 1)) := nI_ge (b := 10) (show 10 - (n + 1) < 10 by omega) (by omega)
      show SeR M a (if N ≤ q1 then (q1, some (acc ++ [k])) else if pkG g N q1 = 59 then pSe (pkG g N) N n (q1 + 1) (acc ++ [k]) else (q1, none)) _
      rw [e, bindV_some, B_X6_setting_107, if_pos h2.1.2.2.1, if_neg t10, here_ref (d + 24) c2 hN h2.1 hq1, bindI_some]
      by_cases w : N ≤ q1
      · have em : ¬ pkG g N q1 = 59 := by rw [show pkG g N q1 = -1 from if_neg (by omega)]; decide
        rw [if_pos w, if_neg em]
        exact good_end d ha hN c2 h2 hq1 w (D.tr D2.z) (j25.trans k25) ((j21.trans k21).trans h21)
      · rw [if_neg w]
        by_cases e2 : pkG g N q1 = 59
        · rw [if_pos e2, if_pos e2]
          try dsimp only
          rw [h2.1.2.1, nI_1, nI_1, show 10 - (n + 1) + 1 = 10 - n by omega]
          exact seL_ref d ha hN hg h21 n (q1 + 1) (acc ++ [k]) (rsI M2 6 (nI (q1 + 1))) (by omega) (c2.rp (RP.i (Z := Z2 a) (by decide)) (fun i hi => Z2.t ha hi)) ⟨h2.1.i6.self, h2.2.1, h2.2.2.1, by have := h2.2.2.2; omega⟩ (by omega) ((D.tr D2.z).tr (RZ.i (by decide))) (j25.trans k25) (j21.trans k21) (j26.trans k26)
        · rw [if_neg e2, if_neg e2]
          exact bad_end d (D.tr D2.z) h2.1.2.1 (fun z => by rw [h2.1.2.1, c2.2.1] at z; exact nI_ne (by omega) (by omega) (by omega) z.2) (j25.trans k25) (j21.trans k21) (j26.trans k26)
def set0 (M : Mem) (a N : Nat) : Mem := rsI (rsI (rsI (rsA (rsI (rsI M 5 (nI a)) 7 (nI N)) 2 (upd (upd (upd (upd (rA M 2) 25 0) (225 + a) 3) (230 + a) 1) (235 + a) 0)) 6 0) 8 0) 9 0
theorem rsA_twice (M : Mem) (k : Nat) (f h : Nat → Int32) : rsA (rsA M k f) k h = rsA M k h := by
  have e : ∀ x : Nat → Nat → Int32, u1 (u1 x k f) k h = u1 x k h := fun x => by
    funext j
    unfold u1
    by_cases e : j = k
    · rw [if_pos e, if_pos e]
    · rw [if_neg e, if_neg e, if_neg e]
  unfold rsA
  rw [e]
theorem setting_ref (d : Nat) {M : Mem} {N a : Nat} {g : Nat → Int32} (ha : a < 5) (hN : N ≤ 100) (hg : ∀ i, i < N → ∃ c, c ≤ 127 ∧ g i = nI c) (ht : ∀ i, i < 100 → rA M 2 (125 + i) = g i) (h21 : rA M 2 21 = nI a) (h25 : rA M 2 25 = nI N) : SeR M a (pSe (pkG g N) N 9 0 []) (XC (d + 26) jX6_setting [vR 6 0 0] M) := by
  have n5 : ¬ nI a = 5 := nI_ne (b := 5) (by omega) (by omega) (by omega)
  have e225 : (225 : Int32) + nI a = nI (225 + a) := nI_add 225 a
  have e230 : (230 : Int32) + nI a = nI (230 + a) := nI_add 230 a
  have e235 : (235 : Int32) + nI a = nI (235 + a) := nI_add 235 a
  have st : XC (d + 26) jX6_setting [vR 6 0 0] M = (bindV (XC (d + 25) jX6_clauseHere [vR 6 0 0] (set0 M a N)) fun M10 => X (d + 25) jX6_setting 107 [some (vR 6 0 0), some (vI (nI (10 - 9)))] [] M10) := by
    rw [E_X6_setting, h21, if_neg n5, B_X6_setting_14]
    simp only [rI_rsI, rI_rsA, rA_rsI, rA_rsA, h21, h25, if_pos]
    simp only [if_true, if_false, show ¬ ((5 : Nat) = 7) by decide, e225, e230, e235, rsA_twice]
    rw [ob_no (show 225 + a < 940 by omega) (by omega), ob_no (show 230 + a < 940 by omega) (by omega), ob_no (show 235 + a < 940 by omega) (by omega), cl_no (by omega), cl_no (by omega), cl_no (by omega)]
    rfl
  have ew : ∀ p, rA (set0 M a N) 2 p = upd (upd (upd (upd (rA M 2) 25 0) (225 + a) 3) (230 + a) 1) (235 + a) 0 p := fun p => by
    unfold set0
    rw [rA_rsI, rA_rsI, rA_rsI, rA_rsA, if_pos rfl]
  have DZ : RZ a M (set0 M a N) := ⟨rfl, rfl, fun k hk => by
    unfold set0
    rw [rI_rsI, if_neg (by omega), rI_rsI, if_neg (by omega), rI_rsI, if_neg (by omega), rI_rsA, rI_rsI, if_neg (by omega), rI_rsI, if_neg (by omega)], fun k hk => by
    unfold set0
    rw [rA_rsI, rA_rsI, rA_rsI, rA_rsA, if_neg hk, rA_rsI, rA_rsI], fun p hp => by
    rw [ew, upd_ne (fun q => hp (by unfold Z2 Z1; omega)), upd_ne (fun q => hp (by unfold Z2 Z1; omega)), upd_ne (fun q => hp (by unfold Z2 Z1; omega)), upd_ne (fun q => hp (by omega))]⟩
  rw [st]
  refine seL_ref d ha hN hg h21 9 0 [] (set0 M a N) (Nat.le_refl _) ⟨rfl, rfl, fun i hi => ?_⟩ ⟨⟨RP.rf, rfl, rfl, rfl, ?_, fun k hk => absurd hk (Nat.not_lt_zero k)⟩, ?_, ?_, Nat.zero_le _⟩ (Nat.zero_le _) DZ ?_ ?_ ?_
  · rw [ew, upd_ne (by omega), upd_ne (by omega), upd_ne (by omega), upd_ne (by omega)]; exact ht i hi
  · rw [ew, upd_same]; rfl
  · rw [ew, upd_ne (by omega), upd_ne (by omega), upd_same]; rfl
  · rw [ew, upd_ne (by omega), upd_same]; rfl
  · rw [ew, upd_ne (by omega), upd_ne (by omega), upd_ne (by omega), upd_same]
  · rw [ew, upd_ne (by omega), upd_ne (by omega), upd_ne (by omega), upd_ne (by omega)]
  · rw [ew, upd_ne (by omega), upd_ne (by omega), upd_ne (by omega), upd_ne (by omega)]
