/-! the law's loop -/
theorem law_step (d : Nat) {B i N : Nat} {M : Mem} (I : Inv B M) (hN : sN M = N) (hi : i + 4 ≤ N) (hN2 : N ≤ 2048) (hB : B < 90000) : GoL d 18 i B M := by
  have e4 : Int32.ofNat N - 4 = nI (N - 4) := nI_sub (a := N) (b := 4) (by omega)
  have n4 : ¬ nI (N - 4) < nI i := nI_nlt (by omega) (by omega)
  obtain ⟨x, hx⟩ : ∃ x, sX M i &&& 63 = x := ⟨_, rfl⟩
  have g : ∀ {K}, GoL d K i B M → X (d + 40) jL_law 18 [some (vR 24 0 0), some (vR 5 0 0), some (vR 6 0 0), some (vI (nI i))] [] M = X (d + 40) jL_law K [some (vR 24 0 0), some (vR 5 0 0), some (vR 6 0 0), some (vI (nI i))] [] M → GoL d 18 i B M := fun {K} h e => by
    obtain ⟨N', h1, h2, h3⟩ := h
    exact ⟨N', e.trans h1, h2, h3⟩
  have e0 := B_L_law_18 (d + 40) (nI i) M
  rw [hN, e4, if_neg n4, ob_no (show i < N by omega) (by omega), cl_no (show i < 2 ^ 31 by omega), hx] at e0
  by_cases c0 : x = 0
  · rw [if_pos c0] at e0
    exact g (law_208 d I hN hi hN2 hB) e0
  rw [if_neg c0] at e0
  by_cases c1 : x = 1
  · rw [if_pos c1] at e0
    exact g (law_231 d I hN hi hN2 hB) e0
  rw [if_neg c1] at e0
  by_cases c2 : x = 2
  · rw [if_pos c2] at e0
    exact g (law_244 d I hN hi hN2 hB) e0
  rw [if_neg c2] at e0
  by_cases c3 : x = 3
  · rw [if_pos c3] at e0
    exact g (law_287 d I hN hi hN2 hB) e0
  rw [if_neg c3] at e0
  by_cases c4 : x = 4
  · rw [if_pos c4] at e0
    exact g (law_320 d I hN hi hN2 hB) e0
  rw [if_neg c4] at e0
  by_cases c5 : x = 5
  · rw [if_pos c5] at e0
    exact g (law_363 d I hN hi hN2 hB) e0
  rw [if_neg c5] at e0
  by_cases c6 : x = 6
  · rw [if_pos c6] at e0
    exact g (law_396 d I hN hi hN2 hB) e0
  rw [if_neg c6] at e0
  by_cases c7 : x = 7
  · rw [if_pos c7] at e0
    exact g (law_429 d I hN hi hN2 hB) e0
  rw [if_neg c7] at e0
  by_cases c8 : x = 8
  · rw [if_pos c8] at e0
    exact g (law_452 d I hN hi hN2 hB) e0
  rw [if_neg c8] at e0
  by_cases c9 : x = 9
  · rw [if_pos c9] at e0
    exact g (law_485 d I hN hi hN2 hB) e0
  rw [if_neg c9] at e0
  by_cases c10 : x = 10
  · rw [if_pos c10] at e0
    exact g (law_534 d I hN hi hN2 hB) e0
  rw [if_neg c10] at e0
  by_cases c11 : x = 11
  · rw [if_pos c11] at e0
    exact g (law_557 d I hN hi hN2 hB) e0
  rw [if_neg c11] at e0
  by_cases c12 : x = 12
  · rw [if_pos c12] at e0
    exact g (law_570 d I hN hi hN2 hB) e0
  rw [if_neg c12] at e0
  by_cases c13 : x = 13
  · rw [if_pos c13] at e0
    exact g (law_603 d I hN hi hN2 hB) e0
  rw [if_neg c13] at e0
  by_cases c14 : x = 14
  · rw [if_pos c14] at e0
    exact g (law_616 d I hN hi hN2 hB) e0
  rw [if_neg c14] at e0
  by_cases c15 : x = 15
  · rw [if_pos c15] at e0
    exact g (law_649 d I hN hi hN2 hB) e0
  rw [if_neg c15] at e0
  by_cases c16 : x = 16
  · rw [if_pos c16] at e0
    exact g (law_672 d I hN hi hN2 hB) e0
  rw [if_neg c16] at e0
  by_cases c17 : x = 17
  · rw [if_pos c17] at e0
    exact g (law_685 d I hN hi hN2 hB) e0
  rw [if_neg c17] at e0
  by_cases c18 : x = 18
  · rw [if_pos c18] at e0
    exact g (law_698 d I hN hi hN2 hB) e0
  rw [if_neg c18] at e0
  by_cases c19 : x = 19
  · rw [if_pos c19] at e0
    exact g (law_731 d I hN hi hN2 hB) e0
  rw [if_neg c19] at e0
  by_cases c20 : x = 20
  · rw [if_pos c20] at e0
    exact g (law_754 d I hN hi hN2 hB) e0
  rw [if_neg c20] at e0
  by_cases c21 : x = 21
  · rw [if_pos c21] at e0
    exact g (law_787 d I hN hi hN2 hB) e0
  rw [if_neg c21] at e0
  by_cases c22 : x = 22
  · rw [if_pos c22] at e0
    exact g (law_810 d I hN hi hN2 hB) e0
  rw [if_neg c22] at e0
  by_cases c23 : x = 23
  · rw [if_pos c23] at e0
    exact g (law_833 d I hN hi hN2 hB) e0
  rw [if_neg c23] at e0
  by_cases c24 : x = 24
  · rw [if_pos c24] at e0
    exact g (law_846 d I hN hi hN2 hB) e0
  rw [if_neg c24] at e0
  by_cases c25 : x = 25
  · rw [if_pos c25] at e0
    exact g (law_879 d I hN hi hN2 hB) e0
  rw [if_neg c25] at e0
  by_cases c26 : x = 26
  · rw [if_pos c26] at e0
    exact g (law_892 d I hN hi hN2 hB) e0
  rw [if_neg c26] at e0
  by_cases c27 : x = 27
  · rw [if_pos c27] at e0
    exact g (law_915 d I hN hi hN2 hB) e0
  rw [if_neg c27] at e0
  by_cases c28 : x = 28
  · rw [if_pos c28] at e0
    exact g (law_939 d I hN hi hN2 hB) e0
  rw [if_neg c28] at e0
  by_cases c29 : x = 29
  · rw [if_pos c29] at e0
    exact g (law_973 d I hN hi hN2 hB) e0
  rw [if_neg c29] at e0
  by_cases c30 : x = 30
  · rw [if_pos c30] at e0
    exact g (law_1007 d I hN hi hN2 hB) e0
  rw [if_neg c30] at e0
  by_cases c31 : x = 31
  · rw [if_pos c31] at e0
    exact g (law_1040 d I hN hi hN2 hB) e0
  rw [if_neg c31] at e0
  by_cases c32 : x = 32
  · rw [if_pos c32] at e0
    exact g (law_1063 d I hN hi hN2 hB) e0
  rw [if_neg c32] at e0
  by_cases c33 : x = 33
  · rw [if_pos c33] at e0
    exact g (law_1096 d I hN hi hN2 hB) e0
  rw [if_neg c33] at e0
  by_cases c34 : x = 34
  · rw [if_pos c34] at e0
    exact g (law_1109 d I hN hi hN2 hB) e0
  rw [if_neg c34] at e0
  by_cases c35 : x = 35
  · rw [if_pos c35] at e0
    exact g (law_1152 d I hN hi hN2 hB) e0
  rw [if_neg c35] at e0
  by_cases c36 : x = 36
  · rw [if_pos c36] at e0
    exact g (law_1175 d I hN hi hN2 hB) e0
  rw [if_neg c36] at e0
  by_cases c37 : x = 37
  · rw [if_pos c37] at e0
    exact g (law_1208 d I hN hi hN2 hB) e0
  rw [if_neg c37] at e0
  by_cases c38 : x = 38
  · rw [if_pos c38] at e0
    exact g (law_1221 d I hN hi hN2 hB) e0
  rw [if_neg c38] at e0
  by_cases c39 : x = 39
  · rw [if_pos c39] at e0
    exact g (law_1234 d I hN hi hN2 hB) e0
  rw [if_neg c39] at e0
  exact g (law_1257 d I hN hi hN2 hB) e0
theorem law_loop (d : Nat) {N : Nat} (hN2 : N ≤ 2048) : ∀ n i B M, N < i + 4 * n + 4 → i ≤ N → B + n < 90000 → Inv B M → sN M = N → ∃ M', X (d + 40) jL_law 18 [some (vR 24 0 0), some (vR 5 0 0), some (vR 6 0 0), some (vI (nI i))] [] M = some (some (vI 1), M')
  | n, i, B, M, hn, hi, hB, I, hN => by
    by_cases c : i + 4 ≤ N
    · match n, hn, hB with
      | 0, hn, _ => omega
      | n + 1, hn, hB =>
        obtain ⟨N', e, I', s⟩ := law_step d I hN c hN2 (by omega)
        obtain ⟨M', e'⟩ := law_loop d hN2 n (i + 4) (B + 1) N' (by omega) c (by omega) I' ((sc_N s).trans hN)
        exact ⟨M', e.trans e'⟩
    · have e4 : Int32.ofNat N - 4 = iI ((N : Int) - 4) := iI_sub N 4
      have l4 : iI ((N : Int) - 4) < nI i := (iI_lt (b := (i : Int)) (by omega) (by omega) (by omega) (by omega)).mpr (by omega)
      refine ⟨M, ?_⟩
      rw [B_L_law_18, hN, e4, if_pos l4, B_L_law_1263]
