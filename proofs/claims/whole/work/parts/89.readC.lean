/-! texts of the class: how long, a sign, where a sign stands -/
def wN (n : Nat) : List Int32 := strBL.getD n []
theorem len_sh : ∀ n, n < 6 → (Int32.ofNat (strBL.getD n []).length) >>> ((0 : Int32) &&& 31) = nI (wN n).length := by decide +kernel
theorem nar_b0 : vp_nar .byte 0 = 0 := by decide +kernel
theorem ch_ok : ∀ n, n < 6 → ∀ i, i < 8 → vp_nar .char (((((strB n) i) &&& 255)).toUInt32 % 65536).toInt32 = (((((strB n) i) &&& 255)).toUInt32 % 65536).toInt32 ∧ (((((strB n) i) &&& 255)).toUInt32 % 65536).toInt32 = strB n i := by decide +kernel
theorem nar_ch : ∀ n, n < 6 → ∀ i, i < 8 → vp_nar .char (strB n i) = strB n i := by decide +kernel
theorem wN_len : ∀ n, n < 6 → (wN n).length ≤ 8 ∧ 0 < (wN n).length := by decide +kernel
theorem n10 : ¬ (1 : Int32) = 0 := by decide
theorem J0_coder (d : Nat) (n : Nat) (M : Mem) : XC (d + 1) jJ0_coder_7d493 [vR 20 n 0] M = some (some (vI 0), M) := by
  rw [E_J0_coder_7d493, if_neg (show ¬ (1 : Nat) = 0 by decide), B_J0_coder_7d493_14, if_pos nar_b0]
theorem J0_length (d : Nat) {n : Nat} (hn : n < 6) (M : Mem) : XC (d + 2) jJ0_length_8abf5 [vR 20 n 0] M = some (some (vI (nI (wN n).length)), M) := by
  rw [E_J0_length_8abf5, J0_coder, bindI_some, len_sh n hn]
theorem J0_latin (d : Nat) (n : Nat) (M : Mem) : XC (d + 1) jJ0_isLatin1_aae02 [vR 20 n 0] M = some (some (vI 1), M) := by
  rw [E_J0_isLatin1_aae02, if_neg (show ¬ (1 : Nat) = 0 by decide), if_pos rfl, B_J0_isLatin1_aae02_18, zo_1]
theorem J0_charAt (d : Nat) {n : Nat} (hn : n < 6) {i : Nat} (hi : i < (wN n).length) (M : Mem) : XC (d + 4) jJ0_charAt_5068e [vR 20 n 0, vI (nI i)] M = some (some (vI (strB n i)), M) := by
  obtain ⟨l1, l2⟩ := wN_len n hn
  obtain ⟨c1, c2⟩ := ch_ok n hn i (by omega)
  have e3 : Int32.ofNat (strBL.getD n []).length = nI (wN n).length := rfl
  have e4 : (strBL.getD n []).length = (wN n).length := rfl
  rw [E_J0_charAt_5068e, J0_latin, bindI_some, if_neg n10, E_J1_charAt_3b067, E_J0_checkIndex_df160, E_J3_checkIndex_8e157, e3, if_neg (nI_pos (by omega)), if_pos (nI_lt hi (by omega)), B_J3_checkIndex_8e157_16, bindI_some, bindV_some, e4, ob_no hi (by omega), cl_no (by omega), if_pos c1, bindI_some, c2, if_pos (nar_ch n hn i (by omega))]
theorem strB_at (n i : Nat) : strB n i = (wN n).getD i 0 := rfl
theorem ixW_some : ∀ (w : List Int32) (x : Int32) (i : Nat), ixW w x = some i → w.getD i 0 = x ∧ ∀ j, j < i → ¬ w.getD j 0 = x
  | [], x, i, h => by cases h
  | c :: w, x, i, h => by
    unfold ixW at h
    by_cases e : c = x
    · rw [if_pos e] at h
      injection h with h
      subst h
      exact ⟨e, fun j hj => absurd hj (Nat.not_lt_zero j)⟩
    · rw [if_neg e] at h
      match hw : ixW w x, h with
      | none, h => cases h
      | some k, h =>
        injection h with h
        obtain ⟨h1, h2⟩ := ixW_some w x k hw
        subst h
        refine ⟨h1, fun j hj => ?_⟩
        match j, hj with
        | 0, _ => exact e
        | j + 1, hj => exact h2 j (by omega)
theorem ixW_none : ∀ (w : List Int32) (x : Int32), ixW w x = none → ∀ j, j < w.length → ¬ w.getD j 0 = x
  | [], x, _, j, hj => absurd hj (Nat.not_lt_zero j)
  | c :: w, x, h, j, hj => by
    unfold ixW at h
    by_cases e : c = x
    · rw [if_pos e] at h; cases h
    · rw [if_neg e] at h
      match hw : ixW w x, h with
      | some k, h => cases h
      | none, _ =>
        match j, hj with
        | 0, _ => exact e
        | j + 1, hj => exact ixW_none w x hw j (by simpa using hj)
theorem i8_ok : ∀ c, c < 128 → (nI c).toInt8.toInt32 = nI c ∧ ((nI c).toUInt32 % 65536).toInt32 = nI c := by decide +kernel
def ixV (o : Option Nat) : Int32 := match o with
  | none => -1
  | some i => nI i
theorem J1_ix (d : Nat) {n : Nat} (hn : n < 6) {c : Nat} (hc : c ≤ 127) (M : Mem) : XC (d + 1) jJ1_indexOfChar_4cfef [vR 20 n 1, vI (nI c), vI 0, vI (nI (wN n).length)] M = some (some (vI (ixV (ixW (wN n) (nI c)))), M) := by
  obtain ⟨l1, l2⟩ := wN_len n hn
  have e4 : (strBL.getD n []).length = (wN n).length := rfl
  have go : ∀ m, m ≤ (wN n).length → (∀ j, j < m → ¬ (wN n).getD j 0 = nI c) → XC (d + 1) jJ1_indexOfChar_4cfef [vR 20 n 1, vI (nI c), vI 0, vI (nI (wN n).length)] M = X d jJ1_indexOfChar_4cfef 7 [some (vR 20 n 1), none, none, some (vI (nI (wN n).length)), some (vI (nI c)), some (vI (nI m))] [] M := fun m hm hh => by
    rw [E_J1_indexOfChar_4cfef, (i8_ok c (by omega)).1]
    refine chain (fun i => X d jJ1_indexOfChar_4cfef 7 [some (vR 20 n 1), none, none, some (vI (nI (wN n).length)), some (vI (nI c)), some (vI (nI i))] [] M) m (fun i hi => ?_)
    try dsimp only
    rw [B_J1_indexOfChar_4cfef_7, ge_no (by omega) (by omega), e4, ob_no (by omega) (by omega), cl_no (by omega), strB_at, if_neg (hh i hi), B_J1_indexOfChar_4cfef_25, nI_1]
  match h : ixW (wN n) (nI c) with
  | none =>
    rw [go _ (Nat.le_refl _) (ixW_none _ _ h), B_J1_indexOfChar_4cfef_7, le_self, B_J1_indexOfChar_4cfef_31]
    rfl
  | some i =>
    obtain ⟨h1, h2⟩ := ixW_some _ _ _ h
    have hi := (ixW_in _ _ _ h).1
    rw [go i (by omega) h2, B_J1_indexOfChar_4cfef_7, ge_no hi (by omega), e4, ob_no hi (by omega), cl_no (by omega), strB_at, if_pos h1]
    rfl
theorem J0_indexOf (d : Nat) {n : Nat} (hn : n < 6) {c : Nat} (hc : c ≤ 127) (M : Mem) : XC (d + 5) jJ0_indexOf_0f7a4 [vR 20 n 0, vI (nI c)] M = some (some (vI (ixV (ixW (wN n) (nI c)))), M) := by
  obtain ⟨l1, l2⟩ := wN_len n hn
  have e3 : Int32.ofNat (strBL.getD n []).length = nI (wN n).length := rfl
  have c255 : ¬ (255 : Int32) < nI c := nI_nlt (a := 255) (by omega) (by omega)
  have can : XC (d + 2) jJ1_canEncode_9a6ad [vI (nI c)] M = some (some (vI 1), M) := by
    rw [E_J1_canEncode_9a6ad, if_neg (nI_pos (by omega)), if_neg c255, B_J1_canEncode_9a6ad_16, zo_1]
  have z0 : ¬ (0 : Int32) < 0 := by decide
  have lp : (0 : Int32) < nI (wN n).length := nI_lt (a := 0) l2 (by omega)
  have ll : ¬ nI (wN n).length < nI (wN n).length := Int32.lt_irrefl
  rw [E_J0_indexOf_0f7a4, E_J0_indexOf_7cf53, J0_latin, bindI_some, if_neg n10, J0_length (d + 1) hn, bindI_some, E_J1_indexOf_4cfef, can, bindI_some, if_neg n10, B_J1_indexOf_4cfef_9]
  try dsimp only
  rw [e3, if_neg z0, if_neg ll, if_pos lp, B_J1_indexOf_4cfef_29, J1_ix (d + 1) hn hc, bindI_some, bindI_some, B_J0_indexOf_7cf53_36, bindI_some]
/-! the class's reader -/
def pkG (g : Nat → Int32) (N q : Nat) : Int32 := if q < N then g q else -1
def RC (N j : Nat) (g : Nat → Int32) (M : Mem) : Prop := cR M 2 0 0 = 0 ∧ cI M 2 0 1 = nI N ∧ cR M 2 0 3 = j ∧ ∀ i, i < 100 → cA M 4 0 6 i = g i
def rdS (j : Nat) : SetC := fun t c m k => (t = 0 ∧ c = 2 ∧ m = 0 ∧ k = 2) ∨ (t = 0 ∧ c = 3 ∧ m = j ∧ k = 1) ∨ (t = 1 ∧ c = 3 ∧ m = j ∧ k = 9)
def RF (M0 : Mem) (j q : Nat) (M : Mem) : Prop := Df (rdS j) M0 M ∧ cI M 2 0 2 = nI q
def RS (M0 : Mem) (j q : Nat) (T : List Int32) (M : Mem) : Prop := Df (rdS j) M0 M ∧ cI M 2 0 2 = nI q ∧ cI M 3 j 1 = nI T.length ∧ ∀ k, (h : k < T.length) → cA M 3 j 9 k = T[k]
theorem RS.rf {M0 M : Mem} {j q : Nat} {T : List Int32} (h : RS M0 j q T M) : RF M0 j q M := ⟨h.1, h.2.1⟩
theorem RS.rc {M0 M : Mem} {N j q : Nat} {g : Nat → Int32} {T : List Int32} (h : RS M0 j q T M) (c : RC N j g M0) : RC N j g M := by
  obtain ⟨D, _⟩ := h
  obtain ⟨c1, c2, c3, c4⟩ := c
  refine ⟨?_, ?_, ?_, fun i hi => ?_⟩
  · rw [D.2.2.1 2 0 0 (fun q => by unfold rdS at q; omega)]; exact c1
  · rw [D.1 2 0 1 (fun q => by unfold rdS at q; omega)]; exact c2
  · rw [D.2.2.1 2 0 3 (fun q => by unfold rdS at q; omega)]; exact c3
  · rw [D.2.1 4 0 6 (fun q => by unfold rdS at q; omega)]; exact c4 i hi
theorem RS.adv {M0 M : Mem} {j q q' : Nat} {T : List Int32} (h : RS M0 j q T M) : RS M0 j q' T (csI M 2 0 2 (nI q')) := by
  obtain ⟨D, h1, h2, h3⟩ := h
  refine ⟨D.tr (Df.csI (Or.inl ⟨rfl, rfl, rfl, rfl⟩)), cI_same _ _ _ _ _, ?_, h3⟩
  rw [cI_csI, if_neg (by omega)]; exact h2
theorem pkG_Tp {g : Nat → Int32} {N : Nat} (hg : ∀ i, i < N → ∃ c, c ≤ 127 ∧ g i = nI c) : Tp (pkG g N) N := fun q => by
  refine ⟨fun h => ?_, fun h => if_neg (by omega)⟩
  obtain ⟨c, c1, c2⟩ := hg q h
  exact ⟨c, c1, (if_pos h).trans c2⟩
theorem peek_cls (d : Nat) {M0 M : Mem} {N j q : Nat} {g : Nat → Int32} {T : List Int32} (c : RC N j g M0) (hN : N ≤ 100) (h : RS M0 j q T M) (hq : q ≤ N) : XC (d + 1) jX2_peek [vR 2 0 0] M = some (some (vI (pkG g N q)), M) := by
  obtain ⟨c1, c2, c3, c4⟩ := h.rc c
  rw [E_X2_peek, c2, h.2.1, c1]
  by_cases w : q < N
  · have e : pkG g N q = g q := if_pos w
    rw [ge_no w (by omega), if_pos (by decide), ob_no (by omega) (by omega), cl_no (by omega), B_X2_peek_24, c4 q (by omega), e]
  · have e : pkG g N q = -1 := if_neg w
    rw [if_pos (nI_le (by omega) (by omega)), B_X2_peek_23, B_X2_peek_24, e]
theorem take_cls (d : Nat) {M0 M : Mem} {N j q : Nat} {g : Nat → Int32} {T : List Int32} (c : RC N j g M0) (hN : N ≤ 100) (h : RS M0 j q T M) (hq : q ≤ N) (x : Int32) : XC (d + 2) jX2_take [vR 2 0 0, vI x] M = if pkG g N q = x then some (some (vI 1), csI M 2 0 2 (nI (q + 1))) else some (some (vI 0), M) := by
  rw [E_X2_take, peek_cls d c hN h hq, bindI_some]
  by_cases w : pkG g N q = x
  · rw [if_pos w, if_pos w, B_X2_take_10, h.2.1, nI_1]
  · rw [if_neg w, if_neg w]
theorem ixN_cls (d : Nat) {M0 M : Mem} {N j q : Nat} {g : Nat → Int32} {T : List Int32} (c : RC N j g M0) (hN : N ≤ 100) (hg : ∀ i, i < N → ∃ c, c ≤ 127 ∧ g i = nI c) (h : RS M0 j q T M) (hq : q ≤ N) {n : Nat} (hn : n < 6) (hw : ∀ c, c ∈ wN n → (0 : Int32) ≤ c) : XC (d + 6) jX2_indexOfNext [vR 2 0 0, vR 20 n 0] M = some (some (vI (ixV (ixW (wN n) (pkG g N q)))), match ixW (wN n) (pkG g N q) with
    | none => M
    | some _ => csI M 2 0 2 (nI (q + 1))) := by
  rw [E_X2_indexOfNext, peek_cls (d + 4) c hN h hq, bindI_some]
  have fin : ∀ o : Option Nat, (∀ i, o = some i → i < 100) → X (d + 5) jX2_indexOfNext 19 [some (vR 2 0 0), none, none, none] [vI (ixV o)] M = some (some (vI (ixV o)), match o with
      | none => M
      | some _ => csI M 2 0 2 (nI (q + 1))) := fun o ho => by
    rw [B_X2_indexOfNext_19]
    match o, ho with
    | none, _ =>
      rw [show ixV none = -1 from rfl, if_pos (by decide), B_X2_indexOfNext_34]
    | some i, ho =>
      have := ho i rfl
      rw [show ixV (some i) = nI i from rfl, if_neg (nI_pos (by omega))]
      try dsimp only
      rw [B_X2_indexOfNext_34, h.2.1, nI_1]
  have lt : ∀ i, ixW (wN n) (pkG g N q) = some i → i < 100 := fun i e => by
    have := (ixW_in _ _ _ e).1
    have := (wN_len n hn).1
    omega
  by_cases w : q < N
  · obtain ⟨k, k1, k2⟩ := (pkG_Tp hg q).1 w
    rw [k2] at lt ⊢
    have p0 : (0 : Int32) ≤ nI k := nI_le (a := 0) (by omega) (by omega)
    rw [if_pos p0, B_X2_indexOfNext_13, (i8_ok k (by omega)).2, J0_indexOf d hn k1, bindI_some]
    exact fin _ lt
  · have e : pkG g N q = -1 := if_neg w
    have en : ixW (wN n) (pkG g N q) = none := by
      match he : ixW (wN n) (pkG g N q) with
      | none => rfl
      | some i =>
        have := hw _ (ixW_in _ _ _ he).2
        rw [e] at this
        exact absurd this (by decide)
    have l0 : ¬ (0 : Int32) ≤ pkG g N q := by rw [e]; decide
    rw [if_neg l0, en]
    exact fin none (fun i e => by cases e)
theorem dig_ok {x : Int32} (h : x = -1 ∨ ∃ c, c ≤ 127 ∧ x = nI c) : ((¬ x - 48 < 0 ∧ x - 48 ≤ 9) ↔ isD x) ∧ (isD x → x - 48 = nI (dv x)) := by
  obtain ⟨z, z1, z2, rfl⟩ : ∃ z : Int, -1 ≤ z ∧ z ≤ 127 ∧ x = iI z := by
    rcases h with h | ⟨c, h1, h2⟩
    · exact ⟨-1, by omega, by omega, h.trans (by decide +kernel)⟩
    · exact ⟨c, by omega, by omega, h2⟩
  have e48 : iI z - 48 = iI (z - 48) := iI_sub z 48
  have a1 : (iI (z - 48) < 0) ↔ z - 48 < 0 := iI_lt (b := 0) (by omega) (by omega) (by omega) (by omega)
  have a2 : (iI (z - 48) ≤ 9) ↔ z - 48 ≤ 9 := iI_le (b := 9) (by omega) (by omega) (by omega) (by omega)
  have a3 : ((48 : Int32) ≤ iI z) ↔ 48 ≤ z := iI_le (a := 48) (by omega) (by omega) (by omega) (by omega)
  have a4 : (iI z ≤ 57) ↔ z ≤ 57 := iI_le (b := 57) (by omega) (by omega) (by omega) (by omega)
  refine ⟨?_, fun h => ?_⟩
  · rw [e48, a1, a2]
    unfold isD
    rw [a3, a4]
    omega
  · have h1 := a3.mp h.1
    unfold dv
    rw [e48, iI_cl (by omega) (by omega), ← iI_n]
    congr 1
    omega
theorem pk_or {pk : Nat → Int32} {N : Nat} (T : Tp pk N) (q : Nat) : pk q = -1 ∨ ∃ c, c ≤ 127 ∧ pk q = nI c := by
  rcases Nat.lt_or_ge q N with h | h
  · exact Or.inr ((T q).1 h)
  · exact Or.inl ((T q).2 h)
def nmV (o : Option Nat) : Int32 := match o with
  | none => -1
  | some v => nI v
theorem num_cls (d : Nat) {M0 M : Mem} {N j q : Nat} {g : Nat → Int32} {T : List Int32} (c : RC N j g M0) (hN : N ≤ 100) (hg : ∀ i, i < N → ∃ c, c ≤ 127 ∧ g i = nI c) (h : RS M0 j q T M) (hq : q ≤ N) : ∃ M', XC (d + 2) jX2_readNumber [vR 2 0 0] M = some (some (vI (nmV (pNm (pkG g N) q).2)), M') ∧ RS M0 j (pNm (pkG g N) q).1 T M' := by
  have Tpk := pkG_Tp hg
  obtain ⟨d1, d2⟩ := dig_ok (pk_or Tpk q)
  rw [E_X2_readNumber, peek_cls d c hN h hq, bindI_some]
  unfold pNm
  by_cases w : isD (pkG g N q)
  · have hqN := isD_in Tpk w
    have w2 := d1.mpr w
    have h1 := h.adv (q' := q + 1)
    obtain ⟨f1, f2⟩ := dig_ok (pk_or Tpk (q + 1))
    have dl := dv_le w
    rw [if_pos w, if_neg w2.1, if_pos w2.2, B_X2_readNumber_20, h.2.1, nI_1]
    try dsimp only
    rw [peek_cls d c hN h1 hqN, bindI_some, d2 w]
    by_cases v0 : dv (pkG g N q) = 0
    · have v1 : nI (dv (pkG g N q)) = 0 := by rw [v0]; rfl
      rw [if_pos v1, if_pos (Or.inl v0), B_X2_readNumber_52]
      exact ⟨_, rfl, h1⟩
    · rw [if_neg (nI_ne0 (by omega) (by omega))]
      by_cases v2 : isD (pkG g N (q + 1))
      · have v3 := f1.mpr v2
        have dl2 := dv_le v2
        have e10 : (10 : Int32) * nI (dv (pkG g N q)) + nI (dv (pkG g N (q + 1))) = nI (10 * dv (pkG g N q) + dv (pkG g N (q + 1))) := by rw [show (10 : Int32) = nI 10 from rfl, nI_mul, nI_add]
        rw [if_neg v3.1, if_pos v3.2, if_neg (fun z => z.elim v0 (fun y => y v2)), B_X2_readNumber_54, f2 v2, h1.2.1, nI_1, e10]
        exact ⟨_, rfl, h1.adv⟩
      · rw [if_pos (Or.inr v2)]
        refine ⟨csI M 2 0 2 (nI (q + 1)), ?_, h1⟩
        by_cases v3 : pkG g N (q + 1) - 48 < 0
        · rw [if_pos v3, B_X2_readNumber_52]; rfl
        · rw [if_neg v3, if_neg (fun z => v2 (f1.mp ⟨v3, z⟩)), B_X2_readNumber_52]; rfl
  · rw [if_neg w]
    refine ⟨M, ?_, h⟩
    by_cases v3 : pkG g N q - 48 < 0
    · rw [if_pos v3, B_X2_readNumber_18]; rfl
    · rw [if_neg v3, if_neg (fun z => w (d1.mp ⟨v3, z⟩)), B_X2_readNumber_18]; rfl
theorem tok_cls (d : Nat) {M0 M : Mem} {j q : Nat} {T : List Int32} (h : RS M0 j q T M) (hT : T.length < 100) (x : Int32) : ∃ M', XC (d + 1) jX3_addToken [vR 3 j 0, vI x] M = some (none, M') ∧ RS M0 j q (T ++ [x]) M' := by
  obtain ⟨D, h1, h2, h3⟩ := h
  have g100 : ¬ (100 : Int32) ≤ nI T.length := nI_ge (b := 100) hT (by omega)
  rw [E_X3_addToken, h2, if_neg g100, ob_no hT (by omega), cl_no (by omega)]
  try dsimp only
  rw [B_X3_addToken_32, cI_csA, h2, nI_1]
  refine ⟨_, rfl, (D.tr (Df.csA (Or.inr (Or.inr ⟨rfl, rfl, rfl, rfl⟩)))).tr (Df.csI (Or.inr (Or.inl ⟨rfl, rfl, rfl, rfl⟩))), ?_, ?_, fun k hk => ?_⟩
  · rw [cI_csI, if_neg (by omega), cI_csA]; exact h1
  · rw [cI_same, List.length_append]; rfl
  · rw [cA_csI, cA_same]
    by_cases e : k = T.length
    · subst e
      rw [upd_same, List.getElem_append_right (Nat.le_refl _)]
      simp
    · have hk2 : k < T.length := by simp only [List.length_append, List.length_cons, List.length_nil] at hk; omega
      rw [upd_ne e, h3 k hk2, List.getElem_append_left hk2]
def OC (M0 : Mem) (j : Nat) (T : List Int32) (r : PT) (x : Res) : Prop := match r with
  | (q', none) => ∃ M', x = some (some (vI 0), M') ∧ RF M0 j q' M'
  | (q', some l) => ∃ M', x = some (some (vI 1), M') ∧ RS M0 j q' (T ++ l.map enC) M'
theorem wTe_N : wN 4 = wTe := rfl
theorem wCm_N : wN 5 = wCm := rfl
theorem test_cls (d : Nat) {M0 M : Mem} {N j q : Nat} {g : Nat → Int32} {T : List Int32} (c : RC N j g M0) (hj : j < 6) (hN : N ≤ 100) (hg : ∀ i, i < N → ∃ c, c ≤ 127 ∧ g i = nI c) (h : RS M0 j q T M) (hq : q ≤ N) (hT : T.length ≤ q) : OC M0 j T (pTs (pkG g N) q) (XC (d + 7) jX2_readTest [vR 2 0 0] M) := by
  have Tpk := pkG_Tp hg
  have e1 := ixN_cls d c hN hg h hq (n := 4) (by decide) wTe_0
  have g1 := pAm_go Tpk wTe_0 q
  rw [wTe_N] at e1
  unfold pTs pAm at *
  match h1 : ixW wTe (pkG g N q) with
  | none =>
    rw [h1] at e1
    refine ⟨M, ?_, h.rf⟩
    rw [E_X2_readTest, e1, bindI_some, show ixV none = -1 from rfl, if_neg (by decide)]
  | some w =>
    rw [h1] at e1 g1
    have hw : w < 6 := (ixW_in _ _ _ h1).1
    have hq1 : q + 1 ≤ N := g1.2 hq
    have hR1 := h.adv (q' := q + 1)
    have e2 := ixN_cls d c hN hg hR1 hq1 (n := 5) (by decide) wCm_0
    rw [wCm_N] at e2
    have g2 := pAm_go Tpk wCm_0 (q + 1)
    unfold pAm at g2
    have w0 : (0 : Int32) ≤ nI w := nI_le (a := 0) (by omega) (by omega)
    have st : XC (d + 7) jX2_readTest [vR 2 0 0] M = X (d + 6) jX2_readTest 13 [some (vR 2 0 0), some (vI (nI w)), none, none] [] (csI M 2 0 2 (nI (q + 1))) := by
      rw [E_X2_readTest, e1, bindI_some, show ixV (some w) = nI w from rfl, if_pos w0]
    rw [st]
    show OC M0 j T (bd (match ixW wCm (pkG g N (q + 1)) with
      | none => (q + 1, none)
      | some i => (q + 1 + 1, some i)) fun q2 hh => bd (pNm (pkG g N) q2) fun q3 v => (q3, some [(w, hh, v)])) _
    match h2 : ixW wCm (pkG g N (q + 1)) with
    | none =>
      rw [h2] at e2
      refine ⟨csI M 2 0 2 (nI (q + 1)), ?_, hR1.rf⟩
      rw [B_X2_readTest_13, e2, bindI_some, show ixV none = -1 from rfl, if_neg (by decide)]
    | some k =>
      rw [h2] at e2 g2
      have hk : k < 3 := (ixW_in _ _ _ h2).1
      have hq2 : q + 1 + 1 ≤ N := g2.2 hq1
      have hR2 := hR1.adv (q' := q + 1 + 1)
      have k0 : (0 : Int32) ≤ nI k := nI_le (a := 0) (by omega) (by omega)
      obtain ⟨M3, e3, hR3⟩ := num_cls (d + 4) c hN hg hR2 hq2
      have g3 := pNm_go Tpk (q + 1 + 1)
      rw [B_X2_readTest_13, e2, bindI_some, show ixV (some k) = nI k from rfl, if_pos k0, B_X2_readTest_26, e3, bindI_some]
      show OC M0 j T (bd (pNm (pkG g N) (q + 1 + 1)) fun q3 v => (q3, some [(w, k, v)])) _
      match hp : pNm (pkG g N) (q + 1 + 1) with
      | (q3, none) =>
        rw [hp] at hR3
        exact ⟨M3, by rw [show nmV (q3, (none : Option Nat)).2 = -1 from rfl, if_neg (by decide)], hR3.rf⟩
      | (q3, some v) =>
        rw [hp] at hR3 g3
        have v9 := (pNm_some hp).2
        have l3 := (pNm_some hp).1
        have hq3 : q3 ≤ N := g3.2 hq2
        have v0 : (0 : Int32) ≤ nI v := nI_le (a := 0) (by omega) (by omega)
        obtain ⟨M4, e4, hR4⟩ := tok_cls (d + 5) hR3 (by show T.length < 100; omega) (enC (w, k, v))
        have ee : enC (w, k, v) = nI (300 * w + 100 * k + v) := if_pos hw
        have ex : nI w * 300 + nI k * 100 + nI v = enC (w, k, v) := by rw [ee, show (300 : Int32) = nI 300 from rfl, show (100 : Int32) = nI 100 from rfl, nI_mul, nI_mul, nI_add, nI_add, Nat.mul_comm, Nat.mul_comm k 100]
        refine ⟨M4, ?_, hR4⟩
        rw [show nmV (q3, some v).2 = nI v from rfl, if_pos v0, B_X2_readTest_37, (hR3.rc c).2.2.1, if_pos hj, ex, e4, bindV_some]
theorem bothL_cls (d : Nat) {M0 : Mem} {N j : Nat} {g : Nat → Int32} {x1 : Int32} (c : RC N j g M0) (hj : j < 6) (hN : N ≤ 100) (hg : ∀ i, i < N → ∃ c, c ≤ 127 ∧ g i = nI c) {b : Nat} {f : Nat → PT} (fgo : ∀ q, Go N q (f q)) (ftg : ∀ q, Tg b q (f q)) (hf : ∀ q T M, RS M0 j q T M → q ≤ N → T.length ≤ q → OC M0 j T (f q) (XC (d + 2) jX2_readFactor [vR 2 0 0, vI x1] M)) (T : List Int32) : ∀ n q acc M, n ≤ 100 → RS M0 j q (T ++ acc.map enC) M → q ≤ N → T.length + acc.length ≤ q → OC M0 j T (pLp (pkG g N) 38 tAnd f n q acc) (X (d + 2) jX2_readBoth 12 [some (vR 2 0 0), some (vI x1), some (vI (nI (100 - n)))] [] M)
  | 0, q, acc, M, _, h, hq, hT => by
    refine ⟨M, ?_, h⟩
    rw [B_X2_readBoth_12, if_pos (by decide), B_X2_readBoth_52]
  | n + 1, q, acc, M, hn, h, hq, hT => by
    have Tpk := pkG_Tp hg
    have g100 : ¬ (100 : Int32) ≤ nI (100 - (n + 1)) := nI_ge (b := 100) (by omega) (by omega)
    unfold pLp
    rw [B_X2_readBoth_12, if_neg g100, take_cls d c hN h hq]
    by_cases e : pkG g N q = 38
    · have hqN : q < N := Tpk.in e (by decide)
      rw [if_pos e, if_pos e, bindI_some, if_neg n10]
      have h1 := h.adv (q' := q + 1)
      have hl : (T ++ acc.map enC).length ≤ q + 1 := by simp only [List.length_append, List.length_map]; omega
      have o1 := hf (q + 1) _ _ h1 hqN hl
      have gg := fgo (q + 1)
      have tt := ftg (q + 1)
      match hr : f (q + 1), o1 with
      | (q1, none), o1 =>
        obtain ⟨M1, e1, r1⟩ := o1
        refine ⟨M1, ?_, r1⟩
        rw [e1, bindI_some, if_pos rfl]
      | (q1, some l1), o1 =>
        obtain ⟨M1, e1, r1⟩ := o1
        rw [hr] at gg
        have hq1 : q1 ≤ N := gg.2 hqN
        have hl1 := (tt q1 l1 hr).1
        obtain ⟨M2, e2, r2⟩ := tok_cls (d + 1) r1 (by simp only [List.length_append, List.length_map]; omega) (enC tAnd)
        have eT : T ++ acc.map enC ++ l1.map enC ++ [enC tAnd] = T ++ (acc ++ (l1 ++ [tAnd])).map enC := by simp only [List.map_append, List.append_assoc, List.map_cons, List.map_nil]
        rw [eT] at r2
        have en : enC tAnd = -2 := by decide +kernel
        rw [en] at e2
        have ih := bothL_cls d c hj hN hg fgo ftg hf T n q1 (acc ++ (l1 ++ [tAnd])) M2 (by omega) r2 hq1 (by simp only [List.length_append, List.length_cons, List.length_nil]; omega)
        have e9 : (bindI (XC (d + 2) jX2_readFactor [vR 2 0 0, vI x1] (csI M 2 0 2 (nI (q + 1)))) fun r2 M2 => (if r2 = 0 then some (some (vI 0), M2) else X (d + 2) jX2_readBoth 37 [some (vR 2 0 0), some (vI x1), some (vI (nI (100 - (n + 1))))] [] M2)) = X (d + 2) jX2_readBoth 12 [some (vR 2 0 0), some (vI x1), some (vI (nI (100 - n)))] [] M2 := by
          rw [e1, bindI_some, if_neg n10, B_X2_readBoth_37, (r1.rc c).2.2.1, if_pos hj, e2, bindV_some, nI_1, show 100 - (n + 1) + 1 = 100 - n by omega]
        rw [e9]
        exact ih
    · rw [if_neg e, if_neg e, bindI_some, if_pos rfl]
      refine ⟨M, ?_, h⟩
      rw [B_X2_readBoth_52]
theorem readBoth_cls (d : Nat) {M0 : Mem} {N j : Nat} {g : Nat → Int32} {x1 : Int32} (c : RC N j g M0) (hj : j < 6) (hN : N ≤ 100) (hg : ∀ i, i < N → ∃ c, c ≤ 127 ∧ g i = nI c) {b : Nat} {f : Nat → PT} (fgo : ∀ q, Go N q (f q)) (ftg : ∀ q, Tg b q (f q)) (hf : ∀ q T M, RS M0 j q T M → q ≤ N → T.length ≤ q → OC M0 j T (f q) (XC (d + 2) jX2_readFactor [vR 2 0 0, vI x1] M)) (q : Nat) (T : List Int32) (M : Mem) (h : RS M0 j q T M) (hq : q ≤ N) (hT : T.length ≤ q) : OC M0 j T (bd (f q) fun q' l => pLp (pkG g N) 38 tAnd f 100 q' l) (XC (d + 3) jX2_readBoth [vR 2 0 0, vI x1] M) := by
  have o1 := hf q T M h hq hT
  have gg := fgo q
  have tt := ftg q
  rw [E_X2_readBoth]
  match hr : f q, o1 with
  | (q1, none), o1 =>
    obtain ⟨M1, e1, r1⟩ := o1
    refine ⟨M1, ?_, r1⟩
    rw [e1, bindI_some, if_pos rfl]
  | (q1, some l1), o1 =>
    obtain ⟨M1, e1, r1⟩ := o1
    rw [hr] at gg
    have hl1 := (tt q1 l1 hr).1
    rw [e1, bindI_some, if_neg n10, B_X2_readBoth_10]
    exact bothL_cls d c hj hN hg fgo ftg hf T 100 q1 l1 M1 (Nat.le_refl _) r1 (gg.2 hq) (by omega)
theorem eitherL_cls (d : Nat) {M0 : Mem} {N j : Nat} {g : Nat → Int32} {x1 : Int32} (c : RC N j g M0) (hj : j < 6) (hN : N ≤ 100) (hg : ∀ i, i < N → ∃ c, c ≤ 127 ∧ g i = nI c) {b : Nat} {f : Nat → PT} (fgo : ∀ q, Go N q (f q)) (ftg : ∀ q, Tg b q (f q)) (hf : ∀ q T M, RS M0 j q T M → q ≤ N → T.length ≤ q → OC M0 j T (f q) (XC (d + 2) jX2_readBoth [vR 2 0 0, vI x1] M)) (T : List Int32) : ∀ n q acc M, n ≤ 100 → RS M0 j q (T ++ acc.map enC) M → q ≤ N → T.length + acc.length ≤ q → OC M0 j T (pLp (pkG g N) 124 tOr f n q acc) (X (d + 2) jX2_readEither 12 [some (vR 2 0 0), some (vI x1), some (vI (nI (100 - n)))] [] M)
  | 0, q, acc, M, _, h, hq, hT => by
    refine ⟨M, ?_, h⟩
    rw [B_X2_readEither_12, if_pos (by decide), B_X2_readEither_52]
  | n + 1, q, acc, M, hn, h, hq, hT => by
    have Tpk := pkG_Tp hg
    have g100 : ¬ (100 : Int32) ≤ nI (100 - (n + 1)) := nI_ge (b := 100) (by omega) (by omega)
    unfold pLp
    rw [B_X2_readEither_12, if_neg g100, take_cls d c hN h hq]
    by_cases e : pkG g N q = 124
    · have hqN : q < N := Tpk.in e (by decide)
      rw [if_pos e, if_pos e, bindI_some, if_neg n10]
      have h1 := h.adv (q' := q + 1)
      have hl : (T ++ acc.map enC).length ≤ q + 1 := by simp only [List.length_append, List.length_map]; omega
      have o1 := hf (q + 1) _ _ h1 hqN hl
      have gg := fgo (q + 1)
      have tt := ftg (q + 1)
      match hr : f (q + 1), o1 with
      | (q1, none), o1 =>
        obtain ⟨M1, e1, r1⟩ := o1
        refine ⟨M1, ?_, r1⟩
        rw [e1, bindI_some, if_pos rfl]
      | (q1, some l1), o1 =>
        obtain ⟨M1, e1, r1⟩ := o1
        rw [hr] at gg
        have hq1 : q1 ≤ N := gg.2 hqN
        have hl1 := (tt q1 l1 hr).1
        obtain ⟨M2, e2, r2⟩ := tok_cls (d + 1) r1 (by simp only [List.length_append, List.length_map]; omega) (enC tOr)
        have eT : T ++ acc.map enC ++ l1.map enC ++ [enC tOr] = T ++ (acc ++ (l1 ++ [tOr])).map enC := by simp only [List.map_append, List.append_assoc, List.map_cons, List.map_nil]
        rw [eT] at r2
        have en : enC tOr = -3 := by decide +kernel
        rw [en] at e2
        have ih := eitherL_cls d c hj hN hg fgo ftg hf T n q1 (acc ++ (l1 ++ [tOr])) M2 (by omega) r2 hq1 (by simp only [List.length_append, List.length_cons, List.length_nil]; omega)
        have e9 : (bindI (XC (d + 2) jX2_readBoth [vR 2 0 0, vI x1] (csI M 2 0 2 (nI (q + 1)))) fun r2 M2 => (if r2 = 0 then some (some (vI 0), M2) else X (d + 2) jX2_readEither 37 [some (vR 2 0 0), some (vI x1), some (vI (nI (100 - (n + 1))))] [] M2)) = X (d + 2) jX2_readEither 12 [some (vR 2 0 0), some (vI x1), some (vI (nI (100 - n)))] [] M2 := by
          rw [e1, bindI_some, if_neg n10, B_X2_readEither_37, (r1.rc c).2.2.1, if_pos hj, e2, bindV_some, nI_1, show 100 - (n + 1) + 1 = 100 - n by omega]
        rw [e9]
        exact ih
    · rw [if_neg e, if_neg e, bindI_some, if_pos rfl]
      refine ⟨M, ?_, h⟩
      rw [B_X2_readEither_52]
theorem readEither_cls (d : Nat) {M0 : Mem} {N j : Nat} {g : Nat → Int32} {x1 : Int32} (c : RC N j g M0) (hj : j < 6) (hN : N ≤ 100) (hg : ∀ i, i < N → ∃ c, c ≤ 127 ∧ g i = nI c) {b : Nat} {f : Nat → PT} (fgo : ∀ q, Go N q (f q)) (ftg : ∀ q, Tg b q (f q)) (hf : ∀ q T M, RS M0 j q T M → q ≤ N → T.length ≤ q → OC M0 j T (f q) (XC (d + 2) jX2_readBoth [vR 2 0 0, vI x1] M)) (q : Nat) (T : List Int32) (M : Mem) (h : RS M0 j q T M) (hq : q ≤ N) (hT : T.length ≤ q) : OC M0 j T (bd (f q) fun q' l => pLp (pkG g N) 124 tOr f 100 q' l) (XC (d + 3) jX2_readEither [vR 2 0 0, vI x1] M) := by
  have o1 := hf q T M h hq hT
  have gg := fgo q
  have tt := ftg q
  rw [E_X2_readEither]
  match hr : f q, o1 with
  | (q1, none), o1 =>
    obtain ⟨M1, e1, r1⟩ := o1
    refine ⟨M1, ?_, r1⟩
    rw [e1, bindI_some, if_pos rfl]
  | (q1, some l1), o1 =>
    obtain ⟨M1, e1, r1⟩ := o1
    rw [hr] at gg
    have hl1 := (tt q1 l1 hr).1
    rw [e1, bindI_some, if_neg n10, B_X2_readEither_10]
    exact eitherL_cls d c hj hN hg fgo ftg hf T 100 q1 l1 M1 (Nat.le_refl _) r1 (gg.2 hq) (by omega)
theorem factor_cls (d : Nat) {M0 : Mem} {N j : Nat} {g : Nat → Int32} (c : RC N j g M0) (hj : j < 6) (hN : N ≤ 100) (hg : ∀ i, i < N → ∃ c, c ≤ 127 ∧ g i = nI c) : ∀ k, k ≤ 5 → ∀ q T M, RS M0 j q T M → q ≤ N → T.length ≤ q → OC M0 j T (pFa (pkG g N) k q) (XC (d + 8 + 3 * k) jX2_readFactor [vR 2 0 0, vI (nI (5 - k))] M)
  | 0, _, q, T, M, h, hq, hT => by
    have Tpk := pkG_Tp hg
    have o := test_cls d c hj hN hg h hq hT
    rw [show d + 8 + 3 * 0 = (d + 7) + 1 from rfl, E_X2_readFactor, peek_cls (d + 6) c hN h hq, bindI_some]
    unfold pFa
    have bad : X (d + 7) jX2_readFactor 22 [some (vR 2 0 0), some (vI (nI (5 - 0))), some (vI (pkG g N q))] [] M = some (some (vI 0), M) := by
      rw [B_X2_readFactor_22, if_neg (by decide)]
    by_cases e1 : pkG g N q = 33
    · rw [if_pos e1, if_pos (Or.inl e1)]
      exact ⟨M, bad, h.rf⟩
    · rw [if_neg e1]
      by_cases e2 : pkG g N q = 40
      · rw [if_pos e2, if_pos (Or.inr e2)]
        exact ⟨M, bad, h.rf⟩
      · rw [if_neg e2, if_neg (fun w => w.elim e1 e2)]
        match hr : pTs (pkG g N) q, o with
        | (q1, none), o =>
          obtain ⟨M1, f1, r1⟩ := o
          refine ⟨M1, ?_, r1⟩
          rw [f1, bindI_some, zo_0]
        | (q1, some l), o =>
          obtain ⟨M1, f1, r1⟩ := o
          refine ⟨M1, ?_, r1⟩
          rw [f1, bindI_some, zo_1]
  | k + 1, hk, q, T, M, h, hq, hT => by
    have Tpk := pkG_Tp hg
    have ih := factor_cls d c hj hN hg k (by omega)
    have eo : nI (5 - (k + 1)) + 1 = nI (5 - k) := by rw [nI_1, show 5 - (k + 1) + 1 = 5 - k by omega]
    have l5 : nI (5 - (k + 1)) < 5 := nI_lt (b := 5) (by omega) (by omega)
    have o := test_cls (d + 3 + 3 * k) c hj hN hg h hq hT
    have ep : XC (d + 10 + 3 * k) jX2_peek [vR 2 0 0] M = some (some (vI (pkG g N q)), M) := by
      rw [show d + 10 + 3 * k = d + 9 + 3 * k + 1 by omega]
      exact peek_cls (d + 9 + 3 * k) c hN h hq
    rw [show d + 8 + 3 * (k + 1) = (d + 10 + 3 * k) + 1 by omega, E_X2_readFactor, ep, bindI_some]
    have h1 := h.adv (q' := q + 1)
    have open1 : ∀ y, X (d + 10 + 3 * k) jX2_readFactor 22 [some (vR 2 0 0), some (vI (nI (5 - (k + 1)))), some (vI y)] [] M = (if y = 40 then (bindI (XC (d + 10 + 3 * k) jX2_readEither [vR 2 0 0, vI (nI (5 - k))] (csI M 2 0 2 (nI (q + 1)))) fun r2 M2 => (if r2 = 0 then X (d + 10 + 3 * k) jX2_readFactor 68 [none, none, none] [] M2 else (bindI (XC (d + 10 + 3 * k) jX2_take [vR 2 0 0, vI 41] M2) fun r3 M3 => (if r3 = 0 then X (d + 10 + 3 * k) jX2_readFactor 68 [none, none, none] [] M3 else X (d + 10 + 3 * k) jX2_readFactor 69 [none, none, none] [vI 1] M3)))) else X (d + 10 + 3 * k) jX2_readFactor 70 [some (vR 2 0 0), some (vI (nI (5 - (k + 1)))), none] [] (csI M 2 0 2 (nI (q + 1)))) := fun y => by
      rw [B_X2_readFactor_22, if_pos l5, B_X2_readFactor_29, h.2.1, nI_1]
      try dsimp only
      rw [eo]
    have no : ∀ M1, X (d + 10 + 3 * k) jX2_readFactor 68 [none, none, none] [] M1 = some (some (vI 0), M1) := fun M1 => by rw [B_X2_readFactor_68, B_X2_readFactor_69, zo_0]
    unfold pFa
    by_cases e1 : pkG g N q = 33
    · have hqN : q < N := Tpk.in e1 (by decide)
      rw [if_pos e1, if_pos e1, e1, open1, if_neg (by decide), B_X2_readFactor_70, eo]
      have gg := pFa_go Tpk k (q + 1)
      have tt := pFa_tg (pk := pkG g N) k (q + 1)
      have o1 := ih (q + 1) T _ h1 hqN (by omega)
      -- one more frame than is asked
      have o2 := factor_cls (d + 2) c hj hN hg k (by omega) (q + 1) T _ h1 hqN (by omega)
      rw [show d + 2 + 8 + 3 * k = d + 10 + 3 * k by omega] at o2
      match hr : pFa (pkG g N) k (q + 1), o2 with
      | (q1, none), o2 =>
        obtain ⟨M1, f1, r1⟩ := o2
        refine ⟨M1, ?_, r1⟩
        rw [f1, bindI_some, if_pos rfl]
      | (q1, some l), o2 =>
        obtain ⟨M1, f1, r1⟩ := o2
        rw [hr] at gg
        have hq1 := gg.2 hqN
        have hl1 := (tt q1 l hr).1
        obtain ⟨M2, f2, r2⟩ := tok_cls (d + 9 + 3 * k) r1 (by simp only [List.length_append, List.length_map]; omega) (-1)
        rw [show d + 9 + 3 * k + 1 = d + 10 + 3 * k by omega] at f2
        have eT : T ++ l.map enC ++ [-1] = T ++ (l ++ [tNot]).map enC := by simp only [List.map_append, List.append_assoc, List.map_cons, List.map_nil]; rfl
        rw [eT] at r2
        refine ⟨M2, ?_, r2⟩
        rw [f1, bindI_some, if_neg n10, B_X2_readFactor_82, (r1.rc c).2.2.1, if_pos hj, f2, bindV_some]
    · rw [if_neg e1, if_neg e1]
      by_cases e2 : pkG g N q = 40
      · have hqN : q < N := Tpk.in e2 (by decide)
        rw [if_pos e2, if_pos e2, e2, open1, if_pos rfl]
        have gg := pEi_go Tpk (pFa_go Tpk k) (q + 1)
        have tt := pEi_tg (pk := pkG g N) (pFa_tg (pk := pkG g N) k) (q + 1)
        have hB : ∀ q T M, RS M0 j q T M → q ≤ N → T.length ≤ q → OC M0 j T (pBo (pkG g N) (pFa (pkG g N) k) q) (XC (d + 9 + 3 * k) jX2_readBoth [vR 2 0 0, vI (nI (5 - k))] M) := fun q T M h hq hT => by
          have hF : ∀ q T M, RS M0 j q T M → q ≤ N → T.length ≤ q → OC M0 j T (pFa (pkG g N) k q) (XC (d + 6 + 3 * k + 2) jX2_readFactor [vR 2 0 0, vI (nI (5 - k))] M) := fun q T M h hq hT => by
            have := ih q T M h hq hT
            rw [show d + 8 + 3 * k = d + 6 + 3 * k + 2 by omega] at this
            exact this
          have := readBoth_cls (d + 6 + 3 * k) c hj hN hg (pFa_go Tpk k) (pFa_tg k) hF q T M h hq hT
          rw [show d + 6 + 3 * k + 3 = d + 9 + 3 * k by omega] at this
          exact this
        have hB2 : ∀ q T M, RS M0 j q T M → q ≤ N → T.length ≤ q → OC M0 j T (pBo (pkG g N) (pFa (pkG g N) k) q) (XC (d + 7 + 3 * k + 2) jX2_readBoth [vR 2 0 0, vI (nI (5 - k))] M) := fun q T M h hq hT => by
          have := hB q T M h hq hT
          rw [show d + 9 + 3 * k = d + 7 + 3 * k + 2 by omega] at this
          exact this
        have oE := readEither_cls (d + 7 + 3 * k) c hj hN hg (pBo_go Tpk (pFa_go Tpk k)) (pBo_tg (pFa_tg k)) hB2 (q + 1) T _ h1 hqN (by omega)
        rw [show d + 7 + 3 * k + 3 = d + 10 + 3 * k by omega] at oE
        have oE2 : OC M0 j T (pEi (pkG g N) (pFa (pkG g N) k) (q + 1)) (XC (d + 10 + 3 * k) jX2_readEither [vR 2 0 0, vI (nI (5 - k))] (csI M 2 0 2 (nI (q + 1)))) := oE
        match hr : pEi (pkG g N) (pFa (pkG g N) k) (q + 1), oE2 with
        | (q1, none), oE2 =>
          obtain ⟨M1, f1, r1⟩ := oE2
          refine ⟨M1, ?_, r1⟩
          rw [f1, bindI_some, if_pos rfl, no]
        | (q1, some l), oE2 =>
          obtain ⟨M1, f1, r1⟩ := oE2
          rw [hr] at gg
          have hq1 := gg.2 hqN
          have tk := take_cls (d + 8 + 3 * k) c hN r1 hq1 41
          rw [show d + 8 + 3 * k + 2 = d + 10 + 3 * k by omega] at tk
          rw [f1, bindI_some, if_neg n10, tk]
          show OC M0 j T (if pkG g N q1 = 41 then (q1 + 1, some l) else (q1, none)) _
          by_cases e3 : pkG g N q1 = 41
          · rw [if_pos e3, if_pos e3, bindI_some, if_neg n10, B_X2_readFactor_69, zo_1]
            exact ⟨_, rfl, r1.adv⟩
          · rw [if_neg e3, if_neg e3, bindI_some, if_pos rfl, no]
            exact ⟨_, rfl, r1.rf⟩
      · rw [if_neg e2, if_neg e2]
        rw [show d + 3 + 3 * k + 7 = d + 10 + 3 * k by omega] at o
        match hr : pTs (pkG g N) q, o with
        | (q1, none), o =>
          obtain ⟨M1, f1, r1⟩ := o
          refine ⟨M1, ?_, r1⟩
          rw [f1, bindI_some, zo_0]
        | (q1, some l), o =>
          obtain ⟨M1, f1, r1⟩ := o
          refine ⟨M1, ?_, r1⟩
          rw [f1, bindI_some, zo_1]
