/-! the reference's reader: conditions -/
theorem nI_n1 {w : Nat} (hw : w < 2 ^ 31) : ¬ nI w = -1 := fun z => by
  have h := nI_pos hw
  rw [z] at h
  exact h (by decide)
theorem factor_bad (d : Nat) {M0 M : Mem} {a q : Nat} (h : RX M0 a q M) : XC (d + 1) jX6_factor [vR 6 0 0] M = some (none, M) := by
  rw [E_X6_factor, if_neg h.b]
theorem every_bad (d : Nat) {M0 M : Mem} {a q : Nat} (h : RX M0 a q M) : XC (d + 2) jX6_every [vR 6 0 0] M = some (none, M) := by
  rw [E_X6_every, factor_bad d h, bindV_some, B_X6_every_4, if_neg h.b, B_X6_every_43]
theorem some_bad (d : Nat) {M0 M : Mem} {a q : Nat} (h : RX M0 a q M) : XC (d + 3) jX6_some [vR 6 0 0] M = some (none, M) := by
  rw [E_X6_some, every_bad d h, bindV_some, B_X6_some_4, if_neg h.b, B_X6_some_43]
def OP (M0 : Mem) (a o : Nat) (L : List Int32) (r : PT) (x : Res) : Prop := match r with
  | (q', none) => ∃ M', x = some (none, M') ∧ RX M0 a q' M'
  | (q', some l) => ∃ M', x = some (none, M') ∧ RT M0 a q' o (L ++ l.map enR) M'
theorem testX_ref (d : Nat) {M0 M : Mem} {a q : Nat} (h : RX M0 a q M) (x2 x3 : Int32) : ∃ M', X (d + 5) jX6_factor 164 [some (vR 6 0 0), none, some (vI x2), some (vI x3), none] [vR 6 0 0] M = some (none, M') ∧ RX M0 a q M' := by
  obtain ⟨M1, e1, h1⟩ := fig_bad (d + 3) h.i8
  rw [B_X6_factor_164, B_X6_factor_169, if_pos (Or.inr rfl)]
  try dsimp only
  rw [e1, bindI_some, emits_bad (d + 4) h1, bindV_some]
  exact ⟨M1, rfl, h1⟩
theorem testB_ref (d : Nat) {M0 M : Mem} {a q o : Nat} {L : List Int32} (h : RT M0 a q o L M) (x2 x3 : Int32) : ∃ M', X (d + 5) jX6_factor 164 [some (vR 6 0 0), none, some (vI x2), some (vI x3), none] [vR 6 0 0] M = some (none, M') ∧ RX M0 a q M' := by
  obtain ⟨M1, e1, h1⟩ := fig_bad (d + 3) h.bad
  rw [B_X6_factor_164, B_X6_factor_169, if_pos (Or.inr rfl)]
  try dsimp only
  rw [e1, bindI_some, emits_bad (d + 4) h1, bindV_some]
  exact ⟨M1, rfl, h1⟩
theorem test_ref (d : Nat) {M0 M : Mem} {N a q o : Nat} {g : Nat → Int32} {L : List Int32} (c : RB a N g M0) (ha : a < 5) (hN : N ≤ 100) (hg : ∀ i, i < N → ∃ c, c ≤ 127 ∧ g i = nI c) (h : RT M0 a q o L M) (hq : q ≤ N) (hL : L.length ≤ q) : OP M0 a o L (pTs (pkG g N) q) (X (d + 5) jX6_factor 112 [some (vR 6 0 0), none, none, none, none] [] M) := by
  have Tpk := pkG_Tp hg
  obtain ⟨M1, e1, h1⟩ := among_ref d c hN h hq (n := 4) (by decide)
  have g1 := pAm_go Tpk wTe_0 q
  rw [wTe_N] at e1 h1
  rw [B_X6_factor_112, e1, bindI_some]
  unfold pTs pAm at *
  match hw : ixW wTe (pkG g N q) with
  | none =>
    rw [hw] at h1
    have h1 : RT M0 a q o L M1 := h1
    rw [show ixV none = -1 from rfl, if_pos rfl, B_X6_factor_130, if_pos (Or.inr rfl)]
    try dsimp only
    rw [if_neg h1.bad.b, B_X6_factor_150, if_neg h1.bad.b]
    exact testX_ref d h1.bad _ _
  | some w =>
    rw [hw] at h1 g1
    have hw6 : w < 6 := (ixW_in _ _ _ hw).1
    have hq1 : q + 1 ≤ N := g1.2 hq
    have h1 : RT M0 a (q + 1) o L M1 := h1
    have h18 := h1.i8
    obtain ⟨M2, e2, h2⟩ := among_ref d c hN h18 hq1 (n := 5) (by decide)
    rw [wCm_N] at e2 h2
    have g2 := pAm_go Tpk wCm_0 (q + 1)
    unfold pAm at g2 h2
    rw [show ixV (some w) = nI w from rfl, if_neg (nI_n1 (by omega)), B_X6_factor_129, B_X6_factor_130, if_pos (Or.inl rfl)]
    try dsimp only
    rw [if_pos h18.2.2.1, B_X6_factor_144, e2, bindI_some, B_X6_factor_150]
    show OP M0 a o L (bd (match ixW wCm (pkG g N (q + 1)) with
      | none => (q + 1, none)
      | some i => (q + 1 + 1, some i)) fun q2 hh => bd (pNm (pkG g N) q2) fun q3 v => (q3, some [(w, hh, v)])) _
    match hk : ixW wCm (pkG g N (q + 1)) with
    | none =>
      rw [hk] at h2
      have h2 : RT M0 a (q + 1) o L M2 := h2
      rw [if_pos h2.2.2.1, show ixV none = -1 from rfl, if_pos rfl]
      exact testB_ref d h2 _ _
    | some k =>
      rw [hk] at h2 g2
      have hk3 : k < 3 := (ixW_in _ _ _ hk).1
      have hq2 : q + 1 + 1 ≤ N := g2.2 hq1
      have h2 : RT M0 a (q + 1 + 1) o L M2 := h2
      have h28 := h2.i8
      obtain ⟨M3, e3, h3⟩ := fig_ref (d + 3) c hN hg h28 hq2
      have g3 := pNm_go Tpk (q + 1 + 1)
      rw [if_pos h2.2.2.1, show ixV (some k) = nI k from rfl, if_neg (nI_n1 (by omega)), B_X6_factor_168, B_X6_factor_169, if_pos (Or.inl rfl)]
      try dsimp only
      rw [e3, bindI_some]
      show OP M0 a o L (bd (pNm (pkG g N) (q + 1 + 1)) fun q3 v => (q3, some [(w, k, v)])) _
      match hp : pNm (pkG g N) (q + 1 + 1) with
      | (q3, none) =>
        rw [hp] at h3
        have h3 : RX M0 a q3 M3 := h3
        exact ⟨M3, by rw [emits_bad (d + 4) h3, bindV_some], h3⟩
      | (q3, some v) =>
        rw [hp] at h3 g3
        have h3 : RT M0 a q3 o L M3 := h3
        have v9 := (pNm_some hp).2
        have hq3 : q3 ≤ N := g3.2 hq2
        have l3 : q + 1 + 1 ≤ q3 := g3.1
        obtain ⟨M4, e4, h4⟩ := emits_ref (d + 4) c ha h3 (by omega) (enR (w, k, v))
        have ee : enR (w, k, v) = nI (w + 8 * k + 32 * v) := if_pos hw6
        have ex : nI w + 8 * nI k + 32 * figV (q3, some v) = enR (w, k, v) := by rw [ee, show figV (q3, some v) = nI v from rfl, show (8 : Int32) = nI 8 from rfl, show (32 : Int32) = nI 32 from rfl, nI_mul, nI_mul, nI_add, nI_add]
        refine ⟨M4, ?_, h4⟩
        rw [ex, e4, bindV_some]
theorem everyL_ref (d : Nat) {M0 : Mem} {N a o : Nat} {g : Nat → Int32} (c : RB a N g M0) (ha : a < 5) (hN : N ≤ 100) (hg : ∀ i, i < N → ∃ c, c ≤ 127 ∧ g i = nI c) {b : Nat} {f : Nat → PT} (fgo : ∀ q, Go N q (f q)) (ftg : ∀ q, Tg b q (f q)) (hf : ∀ q L M, RT M0 a q o L M → q ≤ N → L.length ≤ q → OP M0 a o L (f q) (XC (d + 1) jX6_factor [vR 6 0 0] M)) (L : List Int32) : ∀ n q acc M, RT M0 a q o (L ++ acc.map enR) M → q ≤ N → 100 ≤ q + n → L.length + acc.length ≤ q → OP M0 a o L (pLp (pkG g N) 38 tAnd f n q acc) (X (d + 1) jX6_every 4 [some (vR 6 0 0)] [] M)
  | 0, q, acc, M, h, hq, hn, hL => by
    have e : pkG g N q = -1 := if_neg (by omega)
    refine ⟨M, ?_, h⟩
    rw [B_X6_every_4, if_pos h.2.2.1, here_ref d c hN h hq, bindI_some, e, if_neg (by decide), B_X6_every_43]
  | n + 1, q, acc, M, h, hq, hn, hL => by
    have Tpk := pkG_Tp hg
    unfold pLp
    rw [B_X6_every_4, if_pos h.2.2.1, here_ref d c hN h hq, bindI_some]
    by_cases e : pkG g N q = 38
    · have hqN : q < N := Tpk.in e (by decide)
      rw [if_pos e, if_pos e]
      try dsimp only
      rw [h.2.1, nI_1]
      have h1 := h.i6 (q' := q + 1)
      have hl : (L ++ acc.map enR).length ≤ q + 1 := by simp only [List.length_append, List.length_map]; omega
      have o1 := hf (q + 1) _ _ h1 hqN hl
      have gg := fgo (q + 1)
      have tt := ftg (q + 1)
      match hr : f (q + 1), o1 with
      | (q1, none), o1 =>
        obtain ⟨M1, e1, r1⟩ := o1
        refine ⟨M1, ?_, r1⟩
        rw [e1, bindV_some, emits_bad d r1, bindV_some, B_X6_every_4, if_neg r1.b, B_X6_every_43]
      | (q1, some l1), o1 =>
        obtain ⟨M1, e1, r1⟩ := o1
        rw [hr] at gg
        have hq1 : q1 ≤ N := gg.2 hqN
        have gl : q + 1 ≤ q1 := gg.1
        have hl1 := (tt q1 l1 hr).1
        obtain ⟨M2, e2, r2⟩ := emits_ref d c ha r1 (by simp only [List.length_append, List.length_map]; omega) (enR tAnd)
        have eT : L ++ acc.map enR ++ l1.map enR ++ [enR tAnd] = L ++ (acc ++ (l1 ++ [tAnd])).map enR := by simp only [List.map_append, List.append_assoc, List.map_cons, List.map_nil]
        rw [eT] at r2
        have en : enR tAnd = -2 := by decide +kernel
        rw [en] at e2
        have ih := everyL_ref d c ha hN hg fgo ftg hf L n q1 (acc ++ (l1 ++ [tAnd])) M2 r2 hq1 (by omega) (by simp only [List.length_append, List.length_cons, List.length_nil]; omega)
        rw [e1, bindV_some, e2, bindV_some]
        exact ih
    · rw [if_neg e, if_neg e]
      refine ⟨M, ?_, h⟩
      rw [B_X6_every_43]
theorem every_ref (d : Nat) {M0 : Mem} {N a o : Nat} {g : Nat → Int32} (c : RB a N g M0) (ha : a < 5) (hN : N ≤ 100) (hg : ∀ i, i < N → ∃ c, c ≤ 127 ∧ g i = nI c) {b : Nat} {f : Nat → PT} (fgo : ∀ q, Go N q (f q)) (ftg : ∀ q, Tg b q (f q)) (hf : ∀ q L M, RT M0 a q o L M → q ≤ N → L.length ≤ q → OP M0 a o L (f q) (XC (d + 1) jX6_factor [vR 6 0 0] M)) (q : Nat) (L : List Int32) (M : Mem) (h : RT M0 a q o L M) (hq : q ≤ N) (hL : L.length ≤ q) : OP M0 a o L (bd (f q) fun q' l => pLp (pkG g N) 38 tAnd f 100 q' l) (XC (d + 2) jX6_every [vR 6 0 0] M) := by
  have o1 := hf q L M h hq hL
  have gg := fgo q
  have tt := ftg q
  rw [E_X6_every]
  match hr : f q, o1 with
  | (q1, none), o1 =>
    obtain ⟨M1, e1, r1⟩ := o1
    refine ⟨M1, ?_, r1⟩
    rw [e1, bindV_some, B_X6_every_4, if_neg r1.b, B_X6_every_43]
  | (q1, some l1), o1 =>
    obtain ⟨M1, e1, r1⟩ := o1
    rw [hr] at gg
    have hl1 := (tt q1 l1 hr).1
    rw [e1, bindV_some]
    exact everyL_ref d c ha hN hg fgo ftg hf L 100 q1 l1 M1 r1 (gg.2 hq) (by omega) (by omega)
theorem someL_ref (d : Nat) {M0 : Mem} {N a o : Nat} {g : Nat → Int32} (c : RB a N g M0) (ha : a < 5) (hN : N ≤ 100) (hg : ∀ i, i < N → ∃ c, c ≤ 127 ∧ g i = nI c) {b : Nat} {f : Nat → PT} (fgo : ∀ q, Go N q (f q)) (ftg : ∀ q, Tg b q (f q)) (hf : ∀ q L M, RT M0 a q o L M → q ≤ N → L.length ≤ q → OP M0 a o L (f q) (XC (d + 1) jX6_every [vR 6 0 0] M)) (L : List Int32) : ∀ n q acc M, RT M0 a q o (L ++ acc.map enR) M → q ≤ N → 100 ≤ q + n → L.length + acc.length ≤ q → OP M0 a o L (pLp (pkG g N) 124 tOr f n q acc) (X (d + 1) jX6_some 4 [some (vR 6 0 0)] [] M)
  | 0, q, acc, M, h, hq, hn, hL => by
    have e : pkG g N q = -1 := if_neg (by omega)
    refine ⟨M, ?_, h⟩
    rw [B_X6_some_4, if_pos h.2.2.1, here_ref d c hN h hq, bindI_some, e, if_neg (by decide), B_X6_some_43]
  | n + 1, q, acc, M, h, hq, hn, hL => by
    have Tpk := pkG_Tp hg
    unfold pLp
    rw [B_X6_some_4, if_pos h.2.2.1, here_ref d c hN h hq, bindI_some]
    by_cases e : pkG g N q = 124
    · have hqN : q < N := Tpk.in e (by decide)
      rw [if_pos e, if_pos e]
      try dsimp only
      rw [h.2.1, nI_1]
      have h1 := h.i6 (q' := q + 1)
      have hl : (L ++ acc.map enR).length ≤ q + 1 := by simp only [List.length_append, List.length_map]; omega
      have o1 := hf (q + 1) _ _ h1 hqN hl
      have gg := fgo (q + 1)
      have tt := ftg (q + 1)
      match hr : f (q + 1), o1 with
      | (q1, none), o1 =>
        obtain ⟨M1, e1, r1⟩ := o1
        refine ⟨M1, ?_, r1⟩
        rw [e1, bindV_some, emits_bad d r1, bindV_some, B_X6_some_4, if_neg r1.b, B_X6_some_43]
      | (q1, some l1), o1 =>
        obtain ⟨M1, e1, r1⟩ := o1
        rw [hr] at gg
        have hq1 : q1 ≤ N := gg.2 hqN
        have gl : q + 1 ≤ q1 := gg.1
        have hl1 := (tt q1 l1 hr).1
        obtain ⟨M2, e2, r2⟩ := emits_ref d c ha r1 (by simp only [List.length_append, List.length_map]; omega) (enR tOr)
        have eT : L ++ acc.map enR ++ l1.map enR ++ [enR tOr] = L ++ (acc ++ (l1 ++ [tOr])).map enR := by simp only [List.map_append, List.append_assoc, List.map_cons, List.map_nil]
        rw [eT] at r2
        have en : enR tOr = -3 := by decide +kernel
        rw [en] at e2
        have ih := someL_ref d c ha hN hg fgo ftg hf L n q1 (acc ++ (l1 ++ [tOr])) M2 r2 hq1 (by omega) (by simp only [List.length_append, List.length_cons, List.length_nil]; omega)
        rw [e1, bindV_some, e2, bindV_some]
        exact ih
    · rw [if_neg e, if_neg e]
      refine ⟨M, ?_, h⟩
      rw [B_X6_some_43]
theorem some_ref (d : Nat) {M0 : Mem} {N a o : Nat} {g : Nat → Int32} (c : RB a N g M0) (ha : a < 5) (hN : N ≤ 100) (hg : ∀ i, i < N → ∃ c, c ≤ 127 ∧ g i = nI c) {b : Nat} {f : Nat → PT} (fgo : ∀ q, Go N q (f q)) (ftg : ∀ q, Tg b q (f q)) (hf : ∀ q L M, RT M0 a q o L M → q ≤ N → L.length ≤ q → OP M0 a o L (f q) (XC (d + 1) jX6_every [vR 6 0 0] M)) (q : Nat) (L : List Int32) (M : Mem) (h : RT M0 a q o L M) (hq : q ≤ N) (hL : L.length ≤ q) : OP M0 a o L (bd (f q) fun q' l => pLp (pkG g N) 124 tOr f 100 q' l) (XC (d + 2) jX6_some [vR 6 0 0] M) := by
  have o1 := hf q L M h hq hL
  have gg := fgo q
  have tt := ftg q
  rw [E_X6_some]
  match hr : f q, o1 with
  | (q1, none), o1 =>
    obtain ⟨M1, e1, r1⟩ := o1
    refine ⟨M1, ?_, r1⟩
    rw [e1, bindV_some, B_X6_some_4, if_neg r1.b, B_X6_some_43]
  | (q1, some l1), o1 =>
    obtain ⟨M1, e1, r1⟩ := o1
    rw [hr] at gg
    have hl1 := (tt q1 l1 hr).1
    rw [e1, bindV_some]
    exact someL_ref d c ha hN hg fgo ftg hf L 100 q1 l1 M1 r1 (gg.2 hq) (by omega) (by omega)
theorem close_bad (d : Nat) {M0 M : Mem} {a q : Nat} (h : RX M0 a q M) : ∃ M', X (d + 3) jX6_factor 91 [some (vR 6 0 0), none, none, none, none] [] M = some (none, M') ∧ RX M0 a q M' := by
  obtain ⟨M1, e1, h1⟩ := must_bad (d + 1) h 41
  rw [B_X6_factor_91, some_bad d h, bindV_some, e1, bindV_some, B_X6_factor_101]
  exact ⟨_, rfl, h1.i9⟩
theorem factor_ref (d : Nat) {M0 : Mem} {N a : Nat} {g : Nat → Int32} (c : RB a N g M0) (ha : a < 5) (hN : N ≤ 100) (hg : ∀ i, i < N → ∃ c, c ≤ 127 ∧ g i = nI c) : ∀ k, k ≤ 5 → ∀ q L M, RT M0 a q (5 - k) L M → q ≤ N → L.length ≤ q → OP M0 a (5 - k) L (pFa (pkG g N) k q) (XC (d + 6 + 3 * k) jX6_factor [vR 6 0 0] M)
  | 0, _, q, L, M, h, hq, hL => by
    have Tpk := pkG_Tp hg
    have o := test_ref d c ha hN hg h hq hL
    rw [show d + 6 + 3 * 0 = (d + 5) + 1 from rfl, E_X6_factor, if_pos h.2.2.1, B_X6_factor_8, here_ref (d + 4) c hN h hq, bindI_some]
    unfold pFa
    have bad : ∀ y : Int32, ∃ M', X (d + 5) jX6_factor 25 [some (vR 6 0 0), some (vI y), none, none, none] [] M = some (none, M') ∧ RX M0 a q M' := fun y => by
      have h1 := h.bad.i9 (x := rI (rsI M 8 1) 9 + 1)
      have h2 := h1.i6
      rw [B_X6_factor_25, h.2.2.2.1, if_pos (show nI (5 - 0) = 5 from rfl), B_X6_factor_39, if_pos (Or.inr rfl)]
      try dsimp only
      rw [if_neg h1.b, B_X6_factor_69, h1.2.1, Int32.add_zero]
      try dsimp only
      by_cases y33 : y = 33
      · rw [if_pos y33, factor_bad (d + 4) h2, bindV_some, emits_bad (d + 4) h2, bindV_some, B_X6_factor_101]
        exact ⟨_, rfl, h2.i9⟩
      · rw [if_neg y33]
        exact close_bad (d + 2) h2
    by_cases e1 : pkG g N q = 33
    · rw [if_pos e1, if_pos (Or.inl e1)]
      exact bad _
    · rw [if_neg e1]
      by_cases e2 : pkG g N q = 40
      · rw [if_pos e2, if_pos (Or.inr e2)]
        exact bad _
      · rw [if_neg e2, if_neg (fun w => w.elim e1 e2)]
        exact o
  | k + 1, hk, q, L, M, h, hq, hL => by
    have Tpk := pkG_Tp hg
    have o := test_ref (d + 3 + 3 * k) c ha hN hg h hq hL
    have ep : XC (d + 8 + 3 * k) jX6_here [vR 6 0 0] M = some (some (vI (pkG g N q)), M) := by
      rw [show d + 8 + 3 * k = d + 7 + 3 * k + 1 by omega]
      exact here_ref (d + 7 + 3 * k) c hN h hq
    have em : ∀ {M q L}, RT M0 a q (5 - k) L M → L.length < 140 → ∀ x, ∃ M', XC (d + 8 + 3 * k) jX6_emits [vR 6 0 0, vI x] M = some (none, M') ∧ RT M0 a q (5 - k) (L ++ [x]) M' := fun {M q L} h hL x => by
      rw [show d + 8 + 3 * k = d + 7 + 3 * k + 1 by omega]
      exact emits_ref (d + 7 + 3 * k) c ha h hL x
    have emB : ∀ {M q}, RX M0 a q M → ∀ x, XC (d + 8 + 3 * k) jX6_emits [vR 6 0 0, vI x] M = some (none, M) := fun {M q} h x => by
      rw [show d + 8 + 3 * k = d + 7 + 3 * k + 1 by omega]
      exact emits_bad (d + 7 + 3 * k) h x
    have mu : ∀ {M q L}, RT M0 a q (5 - k) L M → q ≤ N → ∃ M', XC (d + 8 + 3 * k) jX6_must [vR 6 0 0, vI 41] M = some (none, M') ∧ (if pkG g N q = 41 then RT M0 a (q + 1) (5 - k) L M' else RX M0 a q M') := fun {M q L} h hq => by
      rw [show d + 8 + 3 * k = d + 6 + 3 * k + 2 by omega]
      exact must_ref (d + 6 + 3 * k) c hN h hq 41
    have muB : ∀ {M q}, RX M0 a q M → ∃ M', XC (d + 8 + 3 * k) jX6_must [vR 6 0 0, vI 41] M = some (none, M') ∧ RX M0 a q M' := fun {M q} h => by
      rw [show d + 8 + 3 * k = d + 6 + 3 * k + 2 by omega]
      exact must_bad (d + 6 + 3 * k) h 41
    have hf2 : ∀ q L M, RT M0 a q (5 - k) L M → q ≤ N → L.length ≤ q → OP M0 a (5 - k) L (pFa (pkG g N) k q) (XC (d + 8 + 3 * k) jX6_factor [vR 6 0 0] M) := fun q L M h hq hL => by
      have z := factor_ref (d + 2) c ha hN hg k (by omega) q L M h hq hL
      rw [show d + 2 + 6 + 3 * k = d + 8 + 3 * k by omega] at z
      exact z
    have hf0 : ∀ q L M, RT M0 a q (5 - k) L M → q ≤ N → L.length ≤ q → OP M0 a (5 - k) L (pFa (pkG g N) k q) (XC (d + 5 + 3 * k + 1) jX6_factor [vR 6 0 0] M) := fun q L M h hq hL => by
      have z := factor_ref d c ha hN hg k (by omega) q L M h hq hL
      rw [show d + 6 + 3 * k = d + 5 + 3 * k + 1 by omega] at z
      exact z
    have hs : ∀ q L M, RT M0 a q (5 - k) L M → q ≤ N → L.length ≤ q → OP M0 a (5 - k) L (pEi (pkG g N) (pFa (pkG g N) k) q) (XC (d + 8 + 3 * k) jX6_some [vR 6 0 0] M) := fun q L M h hq hL => by
      rw [show d + 8 + 3 * k = d + 6 + 3 * k + 2 by omega]
      exact some_ref (d + 6 + 3 * k) c ha hN hg (f := pBo (pkG g N) (pFa (pkG g N) k)) (fun q => pBo_go Tpk (pFa_go Tpk k) q) (fun q => pBo_tg (pk := pkG g N) (pFa_tg (pk := pkG g N) k) q) (fun q L M h hq hL => by
        rw [show d + 6 + 3 * k + 1 = d + 5 + 3 * k + 2 by omega]
        exact every_ref (d + 5 + 3 * k) c ha hN hg (f := pFa (pkG g N) k) (pFa_go Tpk k) (pFa_tg (pk := pkG g N) k) hf0 q L M h hq hL) q L M h hq hL
    have nfive : ¬ nI (5 - (k + 1)) = 5 := nI_ne (b := 5) (by omega) (by omega) (by omega)
    have eo : nI (5 - (k + 1)) + 1 = nI (5 - k) := by rw [nI_1, show 5 - (k + 1) + 1 = 5 - k by omega]
    have ec : nI (5 - k) - 1 = nI (5 - (k + 1)) := by
      rw [show nI (5 - k) - 1 = nI (5 - k - 1) from nI_sub (b := 1) (by omega), show 5 - k - 1 = 5 - (k + 1) by omega]
    have h1 : RT M0 a (q + 1) (5 - k) L (rsI (rsI (rsI M 8 0) 9 (nI (5 - k))) 6 (nI (q + 1))) := h.i8.i9.i6
    have end1 : ∀ {M q L}, RT M0 a q (5 - k) L M → X (d + 8 + 3 * k) jX6_factor 101 [some (vR 6 0 0), none, none, none, none] [] M = some (none, rsI M 9 (nI (5 - (k + 1)))) := fun {M q L} h => by
      rw [B_X6_factor_101, h.2.2.2.1, ec]
    have opn : ∀ y : Int32, X (d + 8 + 3 * k) jX6_factor 25 [some (vR 6 0 0), some (vI y), none, none, none] [] M = (if y = 33 then (bindV (XC (d + 8 + 3 * k) jX6_factor [vR 6 0 0] (rsI (rsI (rsI M 8 0) 9 (nI (5 - k))) 6 (nI (q + 1)))) fun M2 => (bindV (XC (d + 8 + 3 * k) jX6_emits [vR 6 0 0, vI (-1)] M2) fun M3 => X (d + 8 + 3 * k) jX6_factor 101 [some (vR 6 0 0), none, none, none, none] [] M3)) else X (d + 8 + 3 * k) jX6_factor 91 [some (vR 6 0 0), none, none, none, none] [] (rsI (rsI (rsI M 8 0) 9 (nI (5 - k))) 6 (nI (q + 1)))) := fun y => by
      have h9 : RT M0 a q (5 - k) L (rsI (rsI M 8 0) 9 (nI (5 - k))) := h.i8.i9
      rw [B_X6_factor_25, h.2.2.2.1, if_neg nfive, B_X6_factor_38, B_X6_factor_39, if_pos (Or.inl rfl)]
      try dsimp only
      rw [h.i8.2.2.2.1, eo, if_pos h9.2.2.1, B_X6_factor_68, B_X6_factor_69, h9.2.1, nI_1]
    rw [show d + 6 + 3 * (k + 1) = (d + 8 + 3 * k) + 1 by omega, E_X6_factor, if_pos h.2.2.1, B_X6_factor_8, ep, bindI_some]
    unfold pFa
    by_cases e1 : pkG g N q = 33
    · have hqN : q < N := Tpk.in e1 (by decide)
      rw [if_pos e1, if_pos e1, opn, if_pos e1]
      have gg := pFa_go Tpk k (q + 1)
      have tt := pFa_tg (pk := pkG g N) k (q + 1)
      have o2 := hf2 (q + 1) L _ h1 hqN (by omega)
      match hr : pFa (pkG g N) k (q + 1), o2 with
      | (q1, none), o2 =>
        obtain ⟨M1, f1, r1⟩ := o2
        rw [f1, bindV_some, emB r1, bindV_some, B_X6_factor_101]
        exact ⟨_, rfl, r1.i9⟩
      | (q1, some l), o2 =>
        obtain ⟨M1, f1, r1⟩ := o2
        rw [hr] at gg
        have hq1 := gg.2 hqN
        have gl : q + 1 ≤ q1 := gg.1
        have hq1 : q1 ≤ N := hq1
        have hl1 := (tt q1 l hr).1
        obtain ⟨M2, f2, r2⟩ := em r1 (by simp only [List.length_append, List.length_map]; omega) (-1)
        have en : enR tNot = -1 := by decide +kernel
        have eT : L ++ l.map enR ++ [-1] = L ++ (l ++ [tNot]).map enR := by rw [← en]; simp only [List.map_append, List.append_assoc, List.map_cons, List.map_nil]
        rw [eT] at r2
        rw [f1, bindV_some, f2, bindV_some, end1 r2]
        exact ⟨_, rfl, r2.i9⟩
    · rw [if_neg e1, if_neg e1]
      by_cases e2 : pkG g N q = 40
      · have hqN : q < N := Tpk.in e2 (by decide)
        rw [if_pos e2, if_pos e2, opn, if_neg e1, B_X6_factor_91]
        have gg := pEi_go Tpk (pFa_go Tpk k) (q + 1)
        have o2 := hs (q + 1) L _ h1 hqN (by omega)
        match hr : pEi (pkG g N) (pFa (pkG g N) k) (q + 1), o2 with
        | (q1, none), o2 =>
          obtain ⟨M1, f1, r1⟩ := o2
          obtain ⟨M2, f2, r2⟩ := muB r1
          rw [f1, bindV_some, f2, bindV_some, B_X6_factor_101]
          exact ⟨_, rfl, r2.i9⟩
        | (q1, some l), o2 =>
          obtain ⟨M1, f1, r1⟩ := o2
          rw [hr] at gg
          have hq1 : q1 ≤ N := gg.2 hqN
          obtain ⟨M2, f2, r2⟩ := mu r1 hq1
          rw [f1, bindV_some, f2, bindV_some]
          show OP M0 a (5 - (k + 1)) L (if pkG g N q1 = 41 then (q1 + 1, some l) else (q1, none)) _
          by_cases e3 : pkG g N q1 = 41
          · rw [if_pos e3] at r2
            rw [if_pos e3, end1 r2]
            exact ⟨_, rfl, r2.i9⟩
          · rw [if_neg e3] at r2
            rw [if_neg e3, B_X6_factor_101]
            exact ⟨_, rfl, r2.i9⟩
      · rw [if_neg e2, if_neg e2]
        rw [show d + 3 + 3 * k + 5 = d + 8 + 3 * k by omega] at o
        exact o
theorem some0_ref (d : Nat) {M0 : Mem} {N a : Nat} {g : Nat → Int32} (c : RB a N g M0) (ha : a < 5) (hN : N ≤ 100) (hg : ∀ i, i < N → ∃ c, c ≤ 127 ∧ g i = nI c) (q : Nat) (L : List Int32) (M : Mem) (h : RT M0 a q 0 L M) (hq : q ≤ N) (hL : L.length ≤ q) : OP M0 a 0 L (pEi (pkG g N) (pFa (pkG g N) 5) q) (XC (d + 23) jX6_some [vR 6 0 0] M) := by
  have Tpk := pkG_Tp hg
  exact some_ref (d + 21) c ha hN hg (f := pBo (pkG g N) (pFa (pkG g N) 5)) (fun q => pBo_go Tpk (pFa_go Tpk 5) q) (fun q => pBo_tg (pk := pkG g N) (pFa_tg (pk := pkG g N) 5) q) (fun q L M h hq hL => every_ref (d + 20) c ha hN hg (f := pFa (pkG g N) 5) (pFa_go Tpk 5) (pFa_tg (pk := pkG g N) 5) (fun q L M h hq hL => factor_ref d c ha hN hg 5 (Nat.le_refl _) q L M h hq hL) q L M h hq hL) q L M h hq hL
