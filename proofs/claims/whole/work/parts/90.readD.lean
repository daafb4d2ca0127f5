/-! the class's reader: clauses -/
def rd2 (j : Nat) : SetC := fun t c m k => (t = 0 ∧ c = 2 ∧ m = 0 ∧ k = 2) ∨ (c = 3 ∧ m = j)
def rd3 (j : Nat) : SetC := fun t c m k => (c = 2 ∧ m = 0) ∨ (c = 3 ∧ m = j)
theorem Df.r2 {j : Nat} {M M' : Mem} (h : Df (rdS j) M M') : Df (rd2 j) M M' := h.mono (fun t c n k q => by unfold rdS at q; unfold rd2; omega)
theorem Df.r3 {j : Nat} {M M' : Mem} (h : Df (rd2 j) M M') : Df (rd3 j) M M' := h.mono (fun t c n k q => by unfold rd2 at q; unfold rd3; omega)
theorem RC.df {M M' : Mem} {N j : Nat} {g : Nat → Int32} (c : RC N j g M) (D : Df (rd2 j) M M') : RC N j g M' := by
  obtain ⟨c1, c2, c3, c4⟩ := c
  refine ⟨?_, ?_, ?_, fun i hi => ?_⟩
  · rw [D.2.2.1 2 0 0 (fun q => by unfold rd2 at q; omega)]; exact c1
  · rw [D.1 2 0 1 (fun q => by unfold rd2 at q; omega)]; exact c2
  · rw [D.2.2.1 2 0 3 (fun q => by unfold rd2 at q; omega)]; exact c3
  · rw [D.2.1 4 0 6 (fun q => by unfold rd2 at q; omega)]; exact c4 i hi
def yesV {α : Type} (o : Option α) : Int32 := match o with
  | none => 0
  | some _ => 1
theorem pWd_cons (pk : Nat → Int32) (c : Int32) (w : List Int32) (q : Nat) : pWd pk (c :: w) q = if pk q = c then pWd pk w (q + 1) else (q, none) := rfl
theorem word_cls (d : Nat) {M0 : Mem} {N j : Nat} {g : Nat → Int32} {T : List Int32} (c : RC N j g M0) (hN : N ≤ 100) {n : Nat} (hn : n < 6) (h0 : ∀ x, x ∈ wN n → (0 : Int32) ≤ x) (hg : ∀ i, i < N → ∃ c, c ≤ 127 ∧ g i = nI c) : ∀ k i q M, i + k = (wN n).length → RS M0 j q T M → q ≤ N → ∃ M', X (d + 4) jX2_readWord 2 [some (vR 2 0 0), some (vR 20 n 0), some (vI (nI i))] [] M = some (some (vI (yesV (pWd (pkG g N) ((wN n).drop i) q).2)), M') ∧ RS M0 j (pWd (pkG g N) ((wN n).drop i) q).1 T M'
  | 0, i, q, M, hi, h, hq => by
    have hi : i = (wN n).length := hi
    refine ⟨M, ?_, ?_⟩
    · rw [B_X2_readWord_2, J0_length (d + 2) hn, bindI_some, hi, le_self, B_X2_readWord_30, List.drop_length]
      rfl
    · rw [hi, List.drop_length]; exact h
  | k + 1, i, q, M, hi, h, hq => by
    have hl : i < (wN n).length := by omega
    obtain ⟨l1, l2⟩ := wN_len n hn
    have eg : strB n i = (wN n)[i] := by rw [strB_at, List.getD_eq_getElem?_getD, List.getElem?_eq_getElem hl]; rfl
    rw [List.drop_eq_getElem_cons hl, pWd_cons, B_X2_readWord_2, J0_length (d + 2) hn, bindI_some, ge_no hl (by omega), J0_charAt d hn hl, bindI_some, eg, take_cls (d + 2) c hN h hq]
    by_cases e : pkG g N q = (wN n)[i]
    · have hqN : q < N := (pkG_Tp hg).in e (h0 _ (List.getElem_mem hl))
      rw [if_pos e, if_pos e, bindI_some, if_neg n10, B_X2_readWord_24, nI_1]
      exact word_cls d c hN hn h0 hg k (i + 1) (q + 1) _ (by omega) h.adv hqN
    · rw [if_neg e, if_neg e, bindI_some, if_pos rfl]
      exact ⟨M, rfl, h⟩
def RepU (M : Mem) (j : Nat) (P : List Cl) (u : Nat) : Prop := cI M 3 j 0 = nI P.length ∧ cI M 3 j 2 = nI (eaP P) ∧ cI M 3 j 3 = nI (weP P) ∧ ∀ c, (h : c < P.length) → cA M 3 j 5 c = nI P[c].1 ∧ cA M 3 j 6 c = nI P[c].2.1 ∧ ∃ f, f + P[c].2.2.length ≤ u ∧ cA M 3 j 7 c = nI f ∧ cA M 3 j 8 c = nI (f + P[c].2.2.length) ∧ ∀ k, (hk : k < P[c].2.2.length) → cA M 3 j 9 (f + k) = enC P[c].2.2[k]
theorem RepU.c {M : Mem} {j u : Nat} {P : List Cl} (h : RepU M j P u) (hu : u ≤ 100) : RepC M j P := by
  obtain ⟨h0, h1, h2, h3⟩ := h
  refine ⟨h0, h1, h2, fun c hc => ?_⟩
  obtain ⟨a1, a2, f, a3, a4⟩ := h3 c hc
  exact ⟨a1, a2, f, by omega, a4⟩
theorem RepU.rs {M0 M : Mem} {j q q' : Nat} {T L : List Int32} {P : List Cl} (h : RepU M0 j P T.length) (h0 : RS M0 j q T M0) (h1 : RS M0 j q' (T ++ L) M) : RepU M j P T.length := by
  obtain ⟨g0, g1, g2, g3⟩ := h
  obtain ⟨_, _, _, t0⟩ := h0
  obtain ⟨D, _, _, t1⟩ := h1
  refine ⟨?_, ?_, ?_, fun c hc => ?_⟩
  · rw [D.1 3 j 0 (fun q => by unfold rdS at q; omega)]; exact g0
  · rw [D.1 3 j 2 (fun q => by unfold rdS at q; omega)]; exact g1
  · rw [D.1 3 j 3 (fun q => by unfold rdS at q; omega)]; exact g2
  · obtain ⟨a1, a2, f, a3, a4, a5, a6⟩ := g3 c hc
    rw [D.2.1 3 j 5 (fun q => by unfold rdS at q; omega), D.2.1 3 j 6 (fun q => by unfold rdS at q; omega), D.2.1 3 j 7 (fun q => by unfold rdS at q; omega), D.2.1 3 j 8 (fun q => by unfold rdS at q; omega)]
    refine ⟨a1, a2, f, a3, a4, a5, fun k hk => ?_⟩
    have hf : f + k < T.length := by omega
    rw [t1 (f + k) (by rw [List.length_append]; omega), List.getElem_append_left hf, ← t0 (f + k) hf]
    exact a6 k hk
theorem RepU.up {M : Mem} {j u u' : Nat} {P : List Cl} (h : RepU M j P u) (hu : u ≤ u') : RepU M j P u' := by
  obtain ⟨h0, h1, h2, h3⟩ := h
  refine ⟨h0, h1, h2, fun c hc => ?_⟩
  obtain ⟨a1, a2, f, a3, a4⟩ := h3 c hc
  exact ⟨a1, a2, f, by omega, a4⟩
theorem eaP_app (P : List Cl) (c : Cl) : eaP (P ++ [c]) = if c.1 = 0 then c.2.1 else eaP P := by unfold eaP; rw [List.foldl_append]; rfl
theorem weP_app (P : List Cl) (c : Cl) : weP (P ++ [c]) = if c.1 = 1 then c.2.1 else weP P := by unfold weP; rw [List.foldl_append]; rfl
def adC (j : Nat) : SetC := fun t c m k => (t = 0 ∧ c = 3 ∧ m = j ∧ (k = 0 ∨ k = 2 ∨ k = 3)) ∨ (t = 1 ∧ c = 3 ∧ m = j ∧ 5 ≤ k ∧ k ≤ 8)
def adM (M : Mem) (j n : Nat) (x1 x2 x3 x4 : Int32) : Mem := csI (csA (csA (csA (csA M 3 j 5 (upd (cA M 3 j 5) n x1)) 3 j 6 (upd (cA M 3 j 6) n x2)) 3 j 7 (upd (cA M 3 j 7) n x3)) 3 j 8 (upd (cA M 3 j 8) n x4)) 3 j 0 (nI (n + 1))
def adN (M : Mem) (j n : Nat) (x1 x2 x3 x4 : Int32) : Mem := if x1 = 0 then csI (adM M j n x1 x2 x3 x4) 3 j 2 x2 else if x1 = 1 then csI (adM M j n x1 x2 x3 x4) 3 j 3 x2 else adM M j n x1 x2 x3 x4
theorem adM_df (M : Mem) (j n : Nat) (x1 x2 x3 x4 : Int32) : Df (adC j) M (adM M j n x1 x2 x3 x4) := ((((Df.csA (Or.inr ⟨rfl, rfl, rfl, by decide, by decide⟩)).tr (Df.csA (Or.inr ⟨rfl, rfl, rfl, by decide, by decide⟩))).tr (Df.csA (Or.inr ⟨rfl, rfl, rfl, by decide, by decide⟩))).tr (Df.csA (Or.inr ⟨rfl, rfl, rfl, by decide, by decide⟩))).tr (Df.csI (Or.inl ⟨rfl, rfl, rfl, Or.inl rfl⟩))
theorem adN_df (M : Mem) (j n : Nat) (x1 x2 x3 x4 : Int32) : Df (adC j) M (adN M j n x1 x2 x3 x4) := by
  unfold adN
  by_cases a : x1 = 0
  · rw [if_pos a]; exact (adM_df M j n x1 x2 x3 x4).tr (Df.csI (Or.inl ⟨rfl, rfl, rfl, Or.inr (Or.inl rfl)⟩))
  · rw [if_neg a]
    by_cases b : x1 = 1
    · rw [if_pos b]; exact (adM_df M j n x1 x2 x3 x4).tr (Df.csI (Or.inl ⟨rfl, rfl, rfl, Or.inr (Or.inr rfl)⟩))
    · rw [if_neg b]; exact adM_df M j n x1 x2 x3 x4
theorem adN_A (M : Mem) (j n : Nat) (x1 x2 x3 x4 : Int32) (c m k : Nat) : cA (adN M j n x1 x2 x3 x4) c m k = cA (adM M j n x1 x2 x3 x4) c m k := by
  unfold adN
  by_cases a : x1 = 0
  · rw [if_pos a, cA_csI]
  · rw [if_neg a]
    by_cases b : x1 = 1
    · rw [if_pos b, cA_csI]
    · rw [if_neg b]
theorem adN_0 (M : Mem) (j n : Nat) (x1 x2 x3 x4 : Int32) : cI (adN M j n x1 x2 x3 x4) 3 j 0 = nI (n + 1) ∧ cI (adN M j n x1 x2 x3 x4) 3 j 1 = cI M 3 j 1 ∧ cI (adN M j n x1 x2 x3 x4) 3 j 2 = (if x1 = 0 then x2 else cI M 3 j 2) ∧ cI (adN M j n x1 x2 x3 x4) 3 j 3 = (if x1 = 0 then cI M 3 j 3 else if x1 = 1 then x2 else cI M 3 j 3) := by
  unfold adN adM
  by_cases a : x1 = 0
  · rw [if_pos a, if_pos a, if_pos a]
    refine ⟨?_, ?_, ?_, ?_⟩ <;> simp [cI_csI, cI_csA]
  · rw [if_neg a, if_neg a, if_neg a]
    by_cases b : x1 = 1
    · rw [if_pos b, if_pos b]
      refine ⟨?_, ?_, ?_, ?_⟩ <;> simp [cI_csI, cI_csA]
    · rw [if_neg b, if_neg b]
      refine ⟨?_, ?_, ?_, ?_⟩ <;> simp [cI_csI, cI_csA]
theorem adM_A (M : Mem) (j n : Nat) (x1 x2 x3 x4 : Int32) : cA (adM M j n x1 x2 x3 x4) 3 j 5 = upd (cA M 3 j 5) n x1 ∧ cA (adM M j n x1 x2 x3 x4) 3 j 6 = upd (cA M 3 j 6) n x2 ∧ cA (adM M j n x1 x2 x3 x4) 3 j 7 = upd (cA M 3 j 7) n x3 ∧ cA (adM M j n x1 x2 x3 x4) 3 j 8 = upd (cA M 3 j 8) n x4 ∧ cA (adM M j n x1 x2 x3 x4) 3 j 9 = cA M 3 j 9 := by
  unfold adM
  refine ⟨?_, ?_, ?_, ?_, ?_⟩ <;> simp [cA_csI, cA_csA]
theorem add_eq (d : Nat) {M : Mem} {j n : Nat} (hn : n < 10) (h0 : cI M 3 j 0 = nI n) (x1 x2 x3 : Int32) : XC (d + 1) jX3_addClause [vR 3 j 0, vI x1, vI x2, vI x3] M = some (none, adN M j n x1 x2 x3 (cI M 3 j 1)) := by
  have l10 : nI n < 10 := nI_lt (b := 10) hn (by omega)
  unfold adN adM
  rw [E_X3_addClause, h0, if_pos l10, B_X3_addClause_10]
  simp only [cI_csA, h0]
  rw [ob_no hn (by omega), ob_no hn (by omega), ob_no hn (by omega), ob_no hn (by omega), cl_no (by omega)]
  by_cases a : x1 = 0
  · rw [if_pos a, if_pos a, B_X3_addClause_85, nI_1]
    simp [cA_csA]
  · rw [if_neg a, if_neg a, B_X3_addClause_75]
    by_cases b : x1 = 1
    · rw [if_pos b, if_pos b, B_X3_addClause_85, nI_1]
      simp [cA_csA]
    · rw [if_neg b, if_neg b, B_X3_addClause_85, nI_1]
      simp [cA_csA]
theorem add_cls (d : Nat) {M : Mem} {j u : Nat} {P : List Cl} {c : Cl} (h : RepU M j P u) (hn : P.length < 10) (hu : u ≤ 100) (hc : c.1 ≤ 3) (h1 : cI M 3 j 1 = nI (u + c.2.2.length)) (ht : ∀ k, (hk : k < c.2.2.length) → cA M 3 j 9 (u + k) = enC c.2.2[k]) : ∃ M', XC (d + 1) jX3_addClause [vR 3 j 0, vI (nI c.1), vI (nI c.2.1), vI (nI u)] M = some (none, M') ∧ Df (adC j) M M' ∧ RepU M' j (P ++ [c]) (u + c.2.2.length) := by
  obtain ⟨g0, g1, g2, g3⟩ := h
  refine ⟨_, add_eq d hn g0 _ _ _, adN_df _ _ _ _ _ _ _, ?_⟩
  obtain ⟨e0, e1, e2, e3⟩ := adN_0 M j P.length (nI c.1) (nI c.2.1) (nI u) (cI M 3 j 1)
  obtain ⟨a5, a6, a7, a8, a9⟩ := adM_A M j P.length (nI c.1) (nI c.2.1) (nI u) (cI M 3 j 1)
  have z0 : (nI c.1 = 0) ↔ c.1 = 0 := nI_eq (b := 0) (by omega) (by omega)
  have z1 : (nI c.1 = 1) ↔ c.1 = 1 := nI_eq (b := 1) (by omega) (by omega)
  refine ⟨?_, ?_, ?_, fun i hi => ?_⟩
  · rw [e0, List.length_append]; rfl
  · rw [e2, eaP_app, g1]
    by_cases a : c.1 = 0
    · rw [if_pos (z0.mpr a), if_pos a]
    · rw [if_neg (fun q => a (z0.mp q)), if_neg a]
  · rw [e3, weP_app, g2]
    by_cases a : c.1 = 0
    · rw [if_pos (z0.mpr a), if_neg (by omega)]
    · rw [if_neg (fun q => a (z0.mp q))]
      by_cases b : c.1 = 1
      · rw [if_pos (z1.mpr b), if_pos b]
      · rw [if_neg (fun q => b (z1.mp q)), if_neg b]
  · rw [adN_A, adN_A, adN_A, adN_A, adN_A, a5, a6, a7, a8, a9]
    by_cases e : i = P.length
    · subst e
      have ec : (P ++ [c])[P.length] = c := by simp
      rw [ec, upd_same, upd_same, upd_same, upd_same]
      exact ⟨rfl, rfl, u, Nat.le_refl _, rfl, h1, ht⟩
    · have hi2 : i < P.length := by rw [List.length_append] at hi; simp only [List.length_cons, List.length_nil] at hi; omega
      have ec : (P ++ [c])[i] = P[i] := List.getElem_append_left hi2
      rw [ec, upd_ne e, upd_ne e, upd_ne e, upd_ne e]
      obtain ⟨b1, b2, f, b3, b4, b5, b6⟩ := g3 i hi2
      exact ⟨b1, b2, f, by omega, b4, b5, b6⟩
def CLs (M0 : Mem) (j : Nat) (P : List Cl) (r : PC) (x : Res) : Prop := match r with
  | (q', none) => ∃ M', x = some (some (vI 0), M') ∧ Df (rd2 j) M0 M' ∧ cI M' 2 0 2 = nI q'
  | (q', some c) => ∃ M' L, x = some (some (vI 1), M') ∧ Df (rd2 j) M0 M' ∧ RS M' j q' L M' ∧ RepU M' j (P ++ [c]) L.length ∧ L.length ≤ q'
def pRe (pk : Nat → Int32) (w q : Nat) : PC := bd (pNm pk q) fun q2 n => if w < 2 then (q2, some (w, n, [])) else if pk q2 = 32 then bd (pEi pk (pFa pk 5) (q2 + 1)) (fun q3 l => (q3, some (w, n, l))) else (q2, none)
theorem either0_cls (d : Nat) {M0 : Mem} {N j : Nat} {g : Nat → Int32} (c : RC N j g M0) (hj : j < 6) (hN : N ≤ 100) (hg : ∀ i, i < N → ∃ c, c ≤ 127 ∧ g i = nI c) (q : Nat) (T : List Int32) (M : Mem) (h : RS M0 j q T M) (hq : q ≤ N) (hT : T.length ≤ q) : OC M0 j T (pEi (pkG g N) (pFa (pkG g N) 5) q) (XC (d + 25) jX2_readEither [vR 2 0 0, vI 0] M) := by
  have Tpk := pkG_Tp hg
  exact readEither_cls (d + 22) (x1 := 0) c hj hN hg (f := pBo (pkG g N) (pFa (pkG g N) 5)) (fun q => pBo_go Tpk (pFa_go Tpk 5) q) (fun q => pBo_tg (pk := pkG g N) (pFa_tg (pk := pkG g N) 5) q) (fun q T M h hq hT => readBoth_cls (d + 21) (x1 := 0) c hj hN hg (f := pFa (pkG g N) 5) (pFa_go Tpk 5) (pFa_tg (pk := pkG g N) 5) (fun q T M h hq hT => factor_cls d c hj hN hg 5 (Nat.le_refl _) q T M h hq hT) q T M h hq hT) q T M h hq hT
theorem end_cls (d : Nat) {M0 M : Mem} {N j q q0 : Nat} {g : Nat → Int32} {T : List Int32} {P : List Cl} {w v : Nat} {l : List Tok} (c : RC N j g M0) (hj : j < 6) (hU : RepU M0 j P T.length) (h0 : RS M0 j q0 T M0) (hP : P.length < 10) (hw : w ≤ 3) (h : RS M0 j q (T ++ l.map enC) M) (hq : (T ++ l.map enC).length ≤ q) (hT : T.length ≤ 100) : CLs M0 j P (q, some (w, v, l)) (X (d + 1) jX2_readRest 60 [some (vR 2 0 0), some (vI (nI w)), some (vI (nI v)), some (vI (nI T.length)), none] [] M) := by
  have hU1 := hU.rs h0 h
  have el : (T ++ l.map enC).length = T.length + l.length := by rw [List.length_append, List.length_map]
  obtain ⟨D, h1, h2, h3⟩ := h
  obtain ⟨M', e, D2, hU2⟩ := add_cls d (c := (w, v, l)) hU1 hP hT hw (by rw [h2, el]) (fun k hk => by
    have hk2 : k < l.length := hk
    rw [h3 (T.length + k) (by omega), List.getElem_append_right (Nat.le_add_right _ _)]
    simp only [Nat.add_sub_cancel_left, List.getElem_map])
  refine ⟨M', T ++ l.map enC, ?_, ?_, ?_, ?_, hq⟩
  · rw [B_X2_readRest_60, D.2.2.1 2 0 3 (fun q => by unfold rdS at q; omega), c.2.2.1, if_pos hj]
    show bindV (XC (d + 1) jX3_addClause [vR 3 j 0, vI (nI (w, v, l).1), vI (nI (w, v, l).2.1), vI (nI T.length)] M) _ = _
    rw [e, bindV_some]
  · exact D.r2.tr (D2.mono (fun t c n k q => by unfold adC at q; unfold rd2; omega))
  · refine ⟨Df.rf, ?_, ?_, fun k hk => ?_⟩
    · rw [D2.1 2 0 2 (fun q => by unfold adC at q; omega)]; exact h1
    · rw [D2.1 3 j 1 (fun q => by unfold adC at q; omega)]; exact h2
    · rw [D2.2.1 3 j 9 (fun q => by unfold adC at q; omega)]; exact h3 k hk
  · rw [el]; exact hU2
theorem rest_cls (d : Nat) {M0 : Mem} {N j q0 : Nat} {g : Nat → Int32} {T : List Int32} {P : List Cl} {w : Nat} (c : RC N j g M0) (hj : j < 6) (hN : N ≤ 100) (hg : ∀ i, i < N → ∃ c, c ≤ 127 ∧ g i = nI c) (hU : RepU M0 j P T.length) (h0 : RS M0 j q0 T M0) (hP : P.length < 10) (hw : w ≤ 3) (q : Nat) (M : Mem) (h : RS M0 j q T M) (hq : q ≤ N) (hT : T.length ≤ q) : CLs M0 j P (pRe (pkG g N) w q) (XC (d + 26) jX2_readRest [vR 2 0 0, vI (nI w)] M) := by
  have Tpk := pkG_Tp hg
  obtain ⟨M1, e1, hR1⟩ := num_cls (d + 23) c hN hg h hq
  have g1 := pNm_go Tpk q
  rw [E_X2_readRest, e1, bindI_some]
  unfold pRe
  match hp : pNm (pkG g N) q with
  | (q1, none) =>
    rw [hp] at hR1
    exact ⟨M1, by rw [show nmV (q1, (none : Option Nat)).2 = -1 from rfl, if_neg (by decide)], hR1.1.r2, hR1.2.1⟩
  | (q1, some v) =>
    rw [hp] at hR1 g1
    have hq1 : q1 ≤ N := g1.2 hq
    have l1 := (pNm_some hp).1
    have v9 := (pNm_some hp).2
    have v0 : (0 : Int32) ≤ nI v := nI_le (a := 0) (by omega) (by omega)
    have z2 : (nI w = 2) ↔ w = 2 := nI_eq (b := 2) (by omega) (by omega)
    have z3 : (nI w = 3) ↔ w = 3 := nI_eq (b := 3) (by omega) (by omega)
    have hT1 : T.length ≤ 100 := by omega
    have eT : T ++ ([] : List Tok).map enC = T := by simp
    rw [show nmV (q1, some v).2 = nI v from rfl, if_pos v0, B_X2_readRest_11, (hR1.rc c).2.2.1, if_pos hj, hR1.2.2.1]
    show CLs M0 j P (if w < 2 then (q1, some (w, v, [])) else if pkG g N q1 = 32 then bd (pEi (pkG g N) (pFa (pkG g N) 5) (q1 + 1)) (fun q3 l => (q3, some (w, v, l))) else (q1, none)) _
    by_cases w2 : w < 2
    · rw [if_pos w2, if_neg (fun z => by have := z2.mp z; omega), if_neg (fun z => by have := z3.mp z; omega), B_X2_readRest_33, B_X2_readRest_34, if_pos rfl]
      exact end_cls (d + 24) c hj hU h0 hP hw (by rw [eT]; exact hR1) (by rw [eT]; omega) hT1
    · rw [if_neg w2]
      have st : (if nI w = 2 then X (d + 25) jX2_readRest 29 [some (vR 2 0 0), some (vI (nI w)), some (vI (nI v)), some (vI (nI T.length)), none] [] M1 else (if nI w = 3 then X (d + 25) jX2_readRest 29 [some (vR 2 0 0), some (vI (nI w)), some (vI (nI v)), some (vI (nI T.length)), none] [] M1 else X (d + 25) jX2_readRest 33 [some (vR 2 0 0), some (vI (nI w)), some (vI (nI v)), some (vI (nI T.length)), none] [] M1)) = X (d + 25) jX2_readRest 34 [some (vR 2 0 0), some (vI (nI w)), some (vI (nI v)), some (vI (nI T.length)), none] [vI 1] M1 := by
        by_cases e : w = 2
        · rw [if_pos (z2.mpr e), B_X2_readRest_29]
        · rw [if_neg (fun z => e (z2.mp z)), if_pos (z3.mpr (by omega)), B_X2_readRest_29]
      have tk := take_cls (d + 23) c hN hR1 hq1 32
      rw [st, B_X2_readRest_34, if_neg n10, tk]
      by_cases e2 : pkG g N q1 = 32
      · have hqN : q1 < N := Tpk.in e2 (by decide)
        rw [if_pos e2, if_pos e2, bindI_some, if_neg n10]
        have o := either0_cls d c hj hN hg (q1 + 1) T _ (hR1.adv (q' := q1 + 1)) hqN (by omega)
        have tt := pEi_tg (pk := pkG g N) (pFa_tg (pk := pkG g N) 5) (q1 + 1)
        match hr : pEi (pkG g N) (pFa (pkG g N) 5) (q1 + 1), o with
        | (q2, none), o =>
          obtain ⟨M2, f2, r2⟩ := o
          refine ⟨M2, ?_, r2.1.r2, r2.2⟩
          rw [f2, bindI_some, if_pos rfl, B_X2_readRest_58]
        | (q2, some l), o =>
          obtain ⟨M2, f2, r2⟩ := o
          have t1 := (tt q2 l hr).1
          rw [f2, bindI_some, if_neg n10]
          exact end_cls (d + 24) c hj hU h0 hP hw r2 (by rw [List.length_append, List.length_map]; omega) hT1
      · rw [if_neg e2, if_neg e2, bindI_some, if_pos rfl, B_X2_readRest_58]
        exact ⟨M1, rfl, hR1.1.r2, hR1.2.1⟩
theorem wN_0 : ∀ n, n < 4 → ∀ x, x ∈ wN n → (0 : Int32) ≤ x := by decide +kernel
theorem cw0_cls (d : Nat) {M0 : Mem} {N j q : Nat} {g : Nat → Int32} {T : List Int32} {P : List Cl} (c : RC N j g M0) (hj : j < 6) (hN : N ≤ 100) (hg : ∀ i, i < N → ∃ c, c ≤ 127 ∧ g i = nI c) (hU : RepU M0 j P T.length) (h0 : RS M0 j q T M0) (hP : P.length < 10) (hq : q ≤ N) (hT : T.length ≤ q) : CLs M0 j P (bd (pWd (pkG g N) (wN 0) q) fun q1 _ => pRe (pkG g N) 0 q1) (X (d + 26) jX2_readClause 48 [some (vR 2 0 0)] [] M0) := by
  have gg := pWd_go (pkG_Tp hg) (wN 0) (wN_0 0 (by decide)) q
  obtain ⟨M1, e1, h1⟩ := word_cls (d + 21) c hN (n := 0) (by decide) (wN_0 0 (by decide)) hg (wN 0).length 0 q M0 (Nat.zero_add _) h0 hq
  have e2 : XC (d + 26) jX2_readWord [vR 2 0 0, vR 20 0 0] M0 = _ := (E_X2_readWord (d + 25) 0 M0).trans e1
  rw [List.drop_zero] at e2 h1
  rw [B_X2_readClause_48, e2, bindI_some]
  match hr : pWd (pkG g N) (wN 0) q with
  | (q1, none) =>
    rw [hr] at h1
    refine ⟨M1, ?_, h1.1.r2, h1.2.1⟩
    rw [show yesV (q1, (none : Option Unit)).2 = 0 from rfl, if_pos rfl, B_X2_readClause_69, B_X2_readClause_70, zo_0]
  | (q1, some u) =>
    rw [hr] at h1 gg
    rw [show yesV (q1, some u).2 = 1 from rfl, if_neg n10]
    have hq1 := gg.2 hq
    have gl : q ≤ q1 := gg.1
    have o := rest_cls d c hj hN hg hU h0 hP (w := 0) (by decide) q1 M1 h1 hq1 (by omega)
    show CLs M0 j P (pRe (pkG g N) 0 q1) _
    match hp : pRe (pkG g N) 0 q1, o with
    | (q2, none), o =>
      obtain ⟨M2, f2, r2⟩ := o
      refine ⟨M2, ?_, r2⟩
      show bindI (XC (d + 26) jX2_readRest [vR 2 0 0, vI (nI 0)] M1) _ = _
      rw [f2, bindI_some, if_pos rfl, B_X2_readClause_69, B_X2_readClause_70, zo_0]
    | (q2, some k), o =>
      obtain ⟨M2, L, f2, r2⟩ := o
      refine ⟨M2, L, ?_, r2⟩
      show bindI (XC (d + 26) jX2_readRest [vR 2 0 0, vI (nI 0)] M1) _ = _
      rw [f2, bindI_some, if_neg n10, B_X2_readClause_70, zo_1]
theorem cw1_cls (d : Nat) {M0 : Mem} {N j q : Nat} {g : Nat → Int32} {T : List Int32} {P : List Cl} (c : RC N j g M0) (hj : j < 6) (hN : N ≤ 100) (hg : ∀ i, i < N → ∃ c, c ≤ 127 ∧ g i = nI c) (hU : RepU M0 j P T.length) (h0 : RS M0 j q T M0) (hP : P.length < 10) (hq : q ≤ N) (hT : T.length ≤ q) : CLs M0 j P (bd (pWd (pkG g N) (wN 1) q) fun q1 _ => pRe (pkG g N) 1 q1) (X (d + 26) jX2_readClause 71 [some (vR 2 0 0)] [] M0) := by
  have gg := pWd_go (pkG_Tp hg) (wN 1) (wN_0 1 (by decide)) q
  obtain ⟨M1, e1, h1⟩ := word_cls (d + 21) c hN (n := 1) (by decide) (wN_0 1 (by decide)) hg (wN 1).length 0 q M0 (Nat.zero_add _) h0 hq
  have e2 : XC (d + 26) jX2_readWord [vR 2 0 0, vR 20 1 0] M0 = _ := (E_X2_readWord (d + 25) 1 M0).trans e1
  rw [List.drop_zero] at e2 h1
  rw [B_X2_readClause_71, e2, bindI_some]
  match hr : pWd (pkG g N) (wN 1) q with
  | (q1, none) =>
    rw [hr] at h1
    refine ⟨M1, ?_, h1.1.r2, h1.2.1⟩
    rw [show yesV (q1, (none : Option Unit)).2 = 0 from rfl, if_pos rfl, B_X2_readClause_92, B_X2_readClause_93, zo_0]
  | (q1, some u) =>
    rw [hr] at h1 gg
    rw [show yesV (q1, some u).2 = 1 from rfl, if_neg n10]
    have hq1 := gg.2 hq
    have gl : q ≤ q1 := gg.1
    have o := rest_cls d c hj hN hg hU h0 hP (w := 1) (by decide) q1 M1 h1 hq1 (by omega)
    show CLs M0 j P (pRe (pkG g N) 1 q1) _
    match hp : pRe (pkG g N) 1 q1, o with
    | (q2, none), o =>
      obtain ⟨M2, f2, r2⟩ := o
      refine ⟨M2, ?_, r2⟩
      show bindI (XC (d + 26) jX2_readRest [vR 2 0 0, vI (nI 1)] M1) _ = _
      rw [f2, bindI_some, if_pos rfl, B_X2_readClause_92, B_X2_readClause_93, zo_0]
    | (q2, some k), o =>
      obtain ⟨M2, L, f2, r2⟩ := o
      refine ⟨M2, L, ?_, r2⟩
      show bindI (XC (d + 26) jX2_readRest [vR 2 0 0, vI (nI 1)] M1) _ = _
      rw [f2, bindI_some, if_neg n10, B_X2_readClause_93, zo_1]
theorem cw2_cls (d : Nat) {M0 : Mem} {N j q : Nat} {g : Nat → Int32} {T : List Int32} {P : List Cl} (c : RC N j g M0) (hj : j < 6) (hN : N ≤ 100) (hg : ∀ i, i < N → ∃ c, c ≤ 127 ∧ g i = nI c) (hU : RepU M0 j P T.length) (h0 : RS M0 j q T M0) (hP : P.length < 10) (hq : q ≤ N) (hT : T.length ≤ q) : CLs M0 j P (bd (pWd (pkG g N) (wN 2) q) fun q1 _ => pRe (pkG g N) 2 q1) (X (d + 26) jX2_readClause 94 [some (vR 2 0 0)] [] M0) := by
  have gg := pWd_go (pkG_Tp hg) (wN 2) (wN_0 2 (by decide)) q
  obtain ⟨M1, e1, h1⟩ := word_cls (d + 21) c hN (n := 2) (by decide) (wN_0 2 (by decide)) hg (wN 2).length 0 q M0 (Nat.zero_add _) h0 hq
  have e2 : XC (d + 26) jX2_readWord [vR 2 0 0, vR 20 2 0] M0 = _ := (E_X2_readWord (d + 25) 2 M0).trans e1
  rw [List.drop_zero] at e2 h1
  rw [B_X2_readClause_94, e2, bindI_some]
  match hr : pWd (pkG g N) (wN 2) q with
  | (q1, none) =>
    rw [hr] at h1
    refine ⟨M1, ?_, h1.1.r2, h1.2.1⟩
    rw [show yesV (q1, (none : Option Unit)).2 = 0 from rfl, if_pos rfl, B_X2_readClause_115, B_X2_readClause_116, zo_0]
  | (q1, some u) =>
    rw [hr] at h1 gg
    rw [show yesV (q1, some u).2 = 1 from rfl, if_neg n10]
    have hq1 := gg.2 hq
    have gl : q ≤ q1 := gg.1
    have o := rest_cls d c hj hN hg hU h0 hP (w := 2) (by decide) q1 M1 h1 hq1 (by omega)
    show CLs M0 j P (pRe (pkG g N) 2 q1) _
    match hp : pRe (pkG g N) 2 q1, o with
    | (q2, none), o =>
      obtain ⟨M2, f2, r2⟩ := o
      refine ⟨M2, ?_, r2⟩
      show bindI (XC (d + 26) jX2_readRest [vR 2 0 0, vI (nI 2)] M1) _ = _
      rw [f2, bindI_some, if_pos rfl, B_X2_readClause_115, B_X2_readClause_116, zo_0]
    | (q2, some k), o =>
      obtain ⟨M2, L, f2, r2⟩ := o
      refine ⟨M2, L, ?_, r2⟩
      show bindI (XC (d + 26) jX2_readRest [vR 2 0 0, vI (nI 2)] M1) _ = _
      rw [f2, bindI_some, if_neg n10, B_X2_readClause_116, zo_1]
theorem cw3_cls (d : Nat) {M0 : Mem} {N j q : Nat} {g : Nat → Int32} {T : List Int32} {P : List Cl} (c : RC N j g M0) (hj : j < 6) (hN : N ≤ 100) (hg : ∀ i, i < N → ∃ c, c ≤ 127 ∧ g i = nI c) (hU : RepU M0 j P T.length) (h0 : RS M0 j q T M0) (hP : P.length < 10) (hq : q ≤ N) (hT : T.length ≤ q) : CLs M0 j P (bd (pWd (pkG g N) (wN 3) q) fun q1 _ => pRe (pkG g N) 3 q1) (X (d + 26) jX2_readClause 117 [some (vR 2 0 0)] [] M0) := by
  have gg := pWd_go (pkG_Tp hg) (wN 3) (wN_0 3 (by decide)) q
  obtain ⟨M1, e1, h1⟩ := word_cls (d + 21) c hN (n := 3) (by decide) (wN_0 3 (by decide)) hg (wN 3).length 0 q M0 (Nat.zero_add _) h0 hq
  have e2 : XC (d + 26) jX2_readWord [vR 2 0 0, vR 20 3 0] M0 = _ := (E_X2_readWord (d + 25) 3 M0).trans e1
  rw [List.drop_zero] at e2 h1
  rw [B_X2_readClause_117, e2, bindI_some]
  match hr : pWd (pkG g N) (wN 3) q with
  | (q1, none) =>
    rw [hr] at h1
    refine ⟨M1, ?_, h1.1.r2, h1.2.1⟩
    rw [show yesV (q1, (none : Option Unit)).2 = 0 from rfl, if_pos rfl, B_X2_readClause_138, B_X2_readClause_139, zo_0]
  | (q1, some u) =>
    rw [hr] at h1 gg
    rw [show yesV (q1, some u).2 = 1 from rfl, if_neg n10]
    have hq1 := gg.2 hq
    have gl : q ≤ q1 := gg.1
    have o := rest_cls d c hj hN hg hU h0 hP (w := 3) (by decide) q1 M1 h1 hq1 (by omega)
    show CLs M0 j P (pRe (pkG g N) 3 q1) _
    match hp : pRe (pkG g N) 3 q1, o with
    | (q2, none), o =>
      obtain ⟨M2, f2, r2⟩ := o
      refine ⟨M2, ?_, r2⟩
      show bindI (XC (d + 26) jX2_readRest [vR 2 0 0, vI (nI 3)] M1) _ = _
      rw [f2, bindI_some, if_pos rfl, B_X2_readClause_138, B_X2_readClause_139, zo_0]
    | (q2, some k), o =>
      obtain ⟨M2, L, f2, r2⟩ := o
      refine ⟨M2, L, ?_, r2⟩
      show bindI (XC (d + 26) jX2_readRest [vR 2 0 0, vI (nI 3)] M1) _ = _
      rw [f2, bindI_some, if_neg n10, B_X2_readClause_139, zo_1]
theorem pCl_re (pk : Nat → Int32) (q : Nat) : pCl pk q = if pk q = 100 then (bd (pWd pk (wN 3) q) fun q1 _ => pRe pk 3 q1) else if pk q = 101 then (bd (pWd pk (wN 0) q) fun q1 _ => pRe pk 0 q1) else if pk q = 108 then (bd (pWd pk (wN 2) q) fun q1 _ => pRe pk 2 q1) else if pk q = 119 then (bd (pWd pk (wN 1) q) fun q1 _ => pRe pk 1 q1) else (q, none) := rfl
theorem clause_cls (d : Nat) {M0 : Mem} {N j q : Nat} {g : Nat → Int32} {T : List Int32} {P : List Cl} (c : RC N j g M0) (hj : j < 6) (hN : N ≤ 100) (hg : ∀ i, i < N → ∃ c, c ≤ 127 ∧ g i = nI c) (hU : RepU M0 j P T.length) (h0 : RS M0 j q T M0) (hP : P.length < 10) (hq : q ≤ N) (hT : T.length ≤ q) : CLs M0 j P (pCl (pkG g N) q) (XC (d + 27) jX2_readClause [vR 2 0 0] M0) := by
  rw [E_X2_readClause, peek_cls (d + 25) c hN h0 hq, bindI_some, pCl_re]
  by_cases e1 : pkG g N q = 100
  · rw [if_pos e1, if_pos e1]
    exact cw3_cls d c hj hN hg hU h0 hP hq hT
  · rw [if_neg e1, if_neg e1]
    by_cases e2 : pkG g N q = 101
    · rw [if_pos e2, if_pos e2]
      exact cw0_cls d c hj hN hg hU h0 hP hq hT
    · rw [if_neg e2, if_neg e2]
      by_cases e3 : pkG g N q = 108
      · rw [if_pos e3, if_pos e3]
        exact cw2_cls d c hj hN hg hU h0 hP hq hT
      · rw [if_neg e3, if_neg e3]
        by_cases e4 : pkG g N q = 119
        · rw [if_pos e4, if_pos e4]
          exact cw1_cls d c hj hN hg hU h0 hP hq hT
        · rw [if_neg e4, if_neg e4, B_X2_readClause_140]
          exact ⟨M0, rfl, Df.rf, h0.2.1⟩
