/-! the start: what stands already -/
theorem tb1 {i : Nat} {w : Cond} (h : tables_1_1[i]? = some w) : w ∈ lw_tbl := wb_t (List.mem_append_left _ (List.mem_of_getElem? h))
theorem tb2 {i : Nat} {w : Cond} (h : tables_1_2[i]? = some w) : w ∈ lw_tbl := wb_t (List.mem_append_right _ (List.mem_append_left _ (List.mem_of_getElem? h)))
theorem tb3 {i : Nat} {w : Cond} (h : tables_1_3[i]? = some w) : w ∈ lw_tbl := wb_t (List.mem_append_right _ (List.mem_append_right _ (List.mem_append_left _ (List.mem_of_getElem? h))))
theorem tb4 {i : Nat} {w : Cond} (h : tables_1_4[i]? = some w) : w ∈ lw_tbl := wb_t (List.mem_append_right _ (List.mem_append_right _ (List.mem_append_right _ (List.mem_append_left _ (List.mem_of_getElem? h)))))
theorem tb5 {i : Nat} {w : Cond} (h : tables_1_5[i]? = some w) : w ∈ lw_tbl := wb_t (List.mem_append_right _ (List.mem_append_right _ (List.mem_append_right _ (List.mem_append_right _ (List.mem_append_left _ (List.mem_of_getElem? h))))))
theorem tb6 {i : Nat} {w : Cond} (h : tables_1_6[i]? = some w) : w ∈ lw_tbl := wb_t (List.mem_append_right _ (List.mem_append_right _ (List.mem_append_right _ (List.mem_append_right _ (List.mem_append_right _ (List.mem_of_getElem? h))))))
abbrev tmV (own : String) (ix : Nat) : Term := .field (.string own ix) "java/lang/String" "value" "[B"
theorem txt_of {args : Array Value} {s : State} {A : Nat → Prop} {own : String} {ix N : Nat} {f : Nat → Int32} (hN : N < 2 ^ 31) (hex : (Cond.exactly (.string own ix) "java/lang/String").before args s = true) (hc : (Cond.eq (.field (.string own ix) "java/lang/String" "coder" "B") (.int 0)).before args s = true) (ha : (Cond.arrayOf (tmV own ix) .byte).before args s = true) (hl : (Cond.eq (.length (tmV own ix)) (.int (Int32.ofNat N))).before args s = true) (he : ∀ j, j < N → (Cond.eq (.elem (tmV own ix) (.int (Int32.ofNat j))) (.int (f j))).before args s = true) (hA : ∀ a : Nat, a < s.heap.size → ¬ A a) : ∃ t v, (Term.string own ix).eval args s none [] s = some (.ref t) ∧ va_O "java/lang/String" t A s s.heap ∧ va_OF "java/lang/String" "coder" "B" (.int 0) t A s s.heap ∧ va_OF "java/lang/String" "value" "[B" (.ref v) t A s s.heap ∧ va_T .byte v N (fun j => .int (f j)) A s s.heap := by
  obtain ⟨t, _, _, _, q1, -⟩ := Cond.exactly_spec (args := args) (first := s) (o := none) (s := s) (idx := []) hex
  obtain ⟨v, hv, hT⟩ := va_Tof (A := A) hN ha (va_eqt hl) (fun j hj => va_eqt (he j hj)) hA
  exact ⟨t, v, q1, va_Oof hex q1 hA, vk_OFof q1 (va_eqt hc) hA, vk_OFof q1 hv hA, hT⟩
set_option maxHeartbeats 4000000 in
set_option maxRecDepth 20000 in
theorem sta_start {s : State} {b L : Nat} {xs : Nat → Int32} (hts : ∀ w ∈ lw_tbl, w.before #[Value.ref b] s = true) (hgv : (Jvm.Cond.and given_1 narrow_1).before #[Value.ref b] s = true) (hX : va_X b L xs s s.heap) (hbl : b < s.heap.size) : ∃ (g : Nat → Nat → Nat → Nat) (sio : Value), g 24 0 0 = b ∧ ∀ ρ : EnvR, (∀ c n k, 20 ≤ c → ρ.1 c n k = g c n k) → ρ.2.1 = sio → Sta ρ (fun q => s.heap.size ≤ q) (xs, L) s s.heap := by
  have hs := flat_of_before _ hgv
  have hA : ∀ a : Nat, a < s.heap.size → ¬ s.heap.size ≤ a := fun a h => Nat.not_le.mpr h
  obtain ⟨t0, v0, q0, a0, b0, c0, d0⟩ := txt_of (A := fun q => s.heap.size ≤ q) (own := "ChoirRoof$Reader") (ix := 49) (N := 5) (f := strB 0) (by decide) (hs _ (by decide +kernel)) (hs _ (by decide +kernel)) (hs _ (by decide +kernel)) (hs _ (by decide +kernel)) (fun j hj => hs _ (by revert j; decide +kernel)) hA
  have m0 : (Term.string "ChoirRoofModel" 111).eval #[Value.ref b] s none [] s = some (.ref t0) := va_eqR (t := .string "ChoirRoof$Reader" 49) (hs _ (by decide +kernel)) q0
  obtain ⟨t1, v1, q1, a1, b1, c1, d1⟩ := txt_of (A := fun q => s.heap.size ≤ q) (own := "ChoirRoof$Reader") (ix := 59) (N := 6) (f := strB 1) (by decide) (hs _ (by decide +kernel)) (hs _ (by decide +kernel)) (hs _ (by decide +kernel)) (hs _ (by decide +kernel)) (fun j hj => hs _ (by revert j; decide +kernel)) hA
  have m1 : (Term.string "ChoirRoofModel" 117).eval #[Value.ref b] s none [] s = some (.ref t1) := va_eqR (t := .string "ChoirRoof$Reader" 59) (hs _ (by decide +kernel)) q1
  obtain ⟨t2, v2, q2, a2, b2, c2, d2⟩ := txt_of (A := fun q => s.heap.size ≤ q) (own := "ChoirRoof$Reader") (ix := 61) (N := 5) (f := strB 2) (by decide) (hs _ (by decide +kernel)) (hs _ (by decide +kernel)) (hs _ (by decide +kernel)) (hs _ (by decide +kernel)) (fun j hj => hs _ (by revert j; decide +kernel)) hA
  have m2 : (Term.string "ChoirRoofModel" 119).eval #[Value.ref b] s none [] s = some (.ref t2) := va_eqR (t := .string "ChoirRoof$Reader" 61) (hs _ (by decide +kernel)) q2
  obtain ⟨t3, v3, q3, a3, b3, c3, d3⟩ := txt_of (A := fun q => s.heap.size ≤ q) (own := "ChoirRoof$Reader") (ix := 63) (N := 8) (f := strB 3) (by decide) (hs _ (by decide +kernel)) (hs _ (by decide +kernel)) (hs _ (by decide +kernel)) (hs _ (by decide +kernel)) (fun j hj => hs _ (by revert j; decide +kernel)) hA
  have m3 : (Term.string "ChoirRoofModel" 124).eval #[Value.ref b] s none [] s = some (.ref t3) := va_eqR (t := .string "ChoirRoof$Reader" 63) (hs _ (by decide +kernel)) q3
  obtain ⟨t4, v4, q4, a4, b4, c4, d4⟩ := txt_of (A := fun q => s.heap.size ≤ q) (own := "ChoirRoof$Reader") (ix := 100) (N := 6) (f := strB 4) (by decide) (hs _ (by decide +kernel)) (hs _ (by decide +kernel)) (hs _ (by decide +kernel)) (hs _ (by decide +kernel)) (fun j hj => hs _ (by revert j; decide +kernel)) hA
  have m4 : (Term.string "ChoirRoofModel" 93).eval #[Value.ref b] s none [] s = some (.ref t4) := va_eqR (t := .string "ChoirRoof$Reader" 100) (hs _ (by decide +kernel)) q4
  obtain ⟨t5, v5, q5, a5, b5, c5, d5⟩ := txt_of (A := fun q => s.heap.size ≤ q) (own := "ChoirRoof$Reader") (ix := 106) (N := 3) (f := strB 5) (by decide) (hs _ (by decide +kernel)) (hs _ (by decide +kernel)) (hs _ (by decide +kernel)) (hs _ (by decide +kernel)) (fun j hj => hs _ (by revert j; decide +kernel)) hA
  have m5 : (Term.string "ChoirRoofModel" 99).eval #[Value.ref b] s none [] s = some (.ref t5) := va_eqR (t := .string "ChoirRoof$Reader" 106) (hs _ (by decide +kernel)) q5
  obtain ⟨w0, e0, f0⟩ := va_Tof (args := #[Value.ref b]) (A := fun q => s.heap.size ≤ q) (tm := .static "ChoirRoof" "CHORD_ABOVE" "[I") (ty := .int) (N := 5) (f := fun j => .int (staB 0 j)) (by decide) (hs _ (by decide +kernel)) (va_eqt (hs _ (by decide +kernel))) (fun j hj => va_eqt (hs _ (by revert j; decide +kernel))) hA
  have z0 := va_Zof (A := fun q => s.heap.size ≤ q) (hts _ (tb3 (i := 151) rfl)) (hts _ (tb1 (i := 1) rfl)) e0 hA
  obtain ⟨w1, e1, f1⟩ := va_Tof (args := #[Value.ref b]) (A := fun q => s.heap.size ≤ q) (tm := .static "ChoirRoof" "KIND_ABOVE" "[I") (ty := .int) (N := 7) (f := fun j => .int (staB 1 j)) (by decide) (hs _ (by decide +kernel)) (va_eqt (hs _ (by decide +kernel))) (fun j hj => va_eqt (hs _ (by revert j; decide +kernel))) hA
  have z1 := va_Zof (A := fun q => s.heap.size ≤ q) (hts _ (tb4 (i := 63) rfl)) (hts _ (tb1 (i := 1) rfl)) e1 hA
  obtain ⟨w2, e2, f2⟩ := va_Tof (args := #[Value.ref b]) (A := fun q => s.heap.size ≤ q) (tm := .static "ChoirRoof" "BODIES" "[I") (ty := .int) (N := 21) (f := fun j => .int (staB 2 j)) (by decide) (hs _ (by decide +kernel)) (va_eqt (hs _ (by decide +kernel))) (fun j hj => va_eqt (hs _ (by revert j; decide +kernel))) hA
  have z2 := va_Zof (A := fun q => s.heap.size ≤ q) (hts _ (tb4 (i := 57) rfl)) (hts _ (tb1 (i := 1) rfl)) e2 hA
  have zc := va_Zof (args := #[Value.ref b]) (A := fun q => s.heap.size ≤ q) (hts _ (tb2 (i := 68) rfl)) (hts _ (tb1 (i := 9) rfl)) (va_eqt (t := .static "java/lang/String" "COMPACT_STRINGS" "Z") (z := 1) (hs _ (by decide +kernel))) hA
  have zq := va_Zqof (args := #[Value.ref b]) (A := fun q => s.heap.size ≤ q) (hts _ (tb2 (i := 84) rfl)) (hts _ (tb1 (i := 11) rfl)) (hs _ (by decide +kernel)) hA
  obtain ⟨sio, zs, zr⟩ : ∃ sio : Value, va_Z "jdk/internal/util/Preconditions" "SIOOBE_FORMATTER" "Ljava/util/function/BiFunction;" sio (fun q => s.heap.size ≤ q) s s.heap ∧ sio.isRef = true := by
    rcases zq with zq | ⟨t, zq⟩
    · exact ⟨_, zq, rfl⟩
    · exact ⟨_, zq, rfl⟩
  refine ⟨fun c n k => if c = 20 then (if k = 0 then [t0, t1, t2, t3, t4, t5].getD n 0 else [v0, v1, v2, v3, v4, v5].getD n 0) else if c = 21 then [w0, w1, w2].getD n 0 else b, sio, rfl, fun ρ hρ h2 => ?_⟩
  have r20 : ∀ n k, ρ.1 20 n k = if k = 0 then [t0, t1, t2, t3, t4, t5].getD n 0 else [v0, v1, v2, v3, v4, v5].getD n 0 := fun n k => hρ 20 n k (by decide)
  have r21 : ∀ n k, ρ.1 21 n k = [w0, w1, w2].getD n 0 := fun n k => hρ 21 n k (by decide)
  have r24 : ρ.1 24 0 0 = b := hρ 24 0 0 (by decide)
  refine ⟨fun n hn => ?_, fun n hn => ?_, zc, ?_, fun e he => ?_, fun e he => ?_, fun e he => ?_, ?_, ?_, ?_, ?_⟩
  · rw [r20, r20, if_pos rfl, if_neg (by decide)]
    rcases (show n = 0 ∨ n = 1 ∨ n = 2 ∨ n = 3 ∨ n = 4 ∨ n = 5 by omega) with rfl | rfl | rfl | rfl | rfl | rfl
    · exact ⟨a0, b0, c0, d0⟩
    · exact ⟨a1, b1, c1, d1⟩
    · exact ⟨a2, b2, c2, d2⟩
    · exact ⟨a3, b3, c3, d3⟩
    · exact ⟨a4, b4, c4, d4⟩
    · exact ⟨a5, b5, c5, d5⟩
  · rw [r21]
    rcases (show n = 0 ∨ n = 1 ∨ n = 2 by omega) with rfl | rfl | rfl
    · exact ⟨z0, f0⟩
    · exact ⟨z1, f1⟩
    · exact ⟨z2, f2⟩
  · rw [h2]; exact zs
  · rw [r20, if_pos rfl]
    simp only [strTab, List.mem_cons, List.not_mem_nil, or_false] at he
    rcases he with rfl | rfl | rfl | rfl | rfl | rfl | rfl | rfl | rfl | rfl | rfl | rfl
    · exact vk_R.of (A := #[Value.ref b]) (hts _ (tb2 (i := 54) rfl)) q0
    · exact vk_R.of (A := #[Value.ref b]) (hts _ (tb2 (i := 135) rfl)) q4
    · exact vk_R.of (A := #[Value.ref b]) (hts _ (tb2 (i := 197) rfl)) q5
    · exact vk_R.of (A := #[Value.ref b]) (hts _ (tb2 (i := 206) rfl)) q1
    · exact vk_R.of (A := #[Value.ref b]) (hts _ (tb2 (i := 207) rfl)) q2
    · exact vk_R.of (A := #[Value.ref b]) (hts _ (tb2 (i := 208) rfl)) q3
    · exact vk_R.of (A := #[Value.ref b]) (hts _ (tb4 (i := 185) rfl)) m0
    · exact vk_R.of (A := #[Value.ref b]) (hts _ (tb4 (i := 204) rfl)) m1
    · exact vk_R.of (A := #[Value.ref b]) (hts _ (tb4 (i := 205) rfl)) m2
    · exact vk_R.of (A := #[Value.ref b]) (hts _ (tb4 (i := 226) rfl)) m4
    · exact vk_R.of (A := #[Value.ref b]) (hts _ (tb4 (i := 231) rfl)) m5
    · exact vk_R.of (A := #[Value.ref b]) (hts _ (tb4 (i := 232) rfl)) m3
  · simp only [nstM, List.mem_cons, List.not_mem_nil, or_false] at he
    rcases he with rfl | rfl
    · exact va_Nw.of rfl (A := #[Value.ref b]) (hts _ (tb2 (i := 45) rfl))
    · exact va_Nw.of rfl (A := #[Value.ref b]) (hts _ (tb3 (i := 26) rfl))
  · simp only [nstF, List.mem_cons, List.not_mem_nil, or_false] at he
    rcases he with rfl | rfl
    · exact va_Nw.of rfl (A := #[Value.ref b]) (hts _ (tb4 (i := 56) rfl))
    · exact va_Nw.of rfl (A := #[Value.ref b]) (hts _ (tb4 (i := 62) rfl))
  · rw [r24]; exact hX
  · rw [r24]; exact hbl
  · rw [r24]; exact hA b hbl
  · rw [h2]; exact zr
