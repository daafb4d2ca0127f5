/-! THE LAW, from its entry -/
set_option maxHeartbeats 40000000 in
set_option maxRecDepth 100000 in
theorem whole_start {p : Program} {e : Env} {s : State} {m : MethodId} {below : List Frame} {meth : Method} {c : Code} (l : Launch) (hflags : l.flags = flags0) {b L : Nat} {xs : Nat → Int32} (hL : L ≤ 2048) (C0 : lw_At p s m meth c b L xs) : W p l e room_1 s m #[Value.ref b] below meth c s.heap [] 0 0 (lw_Z below #[Value.ref b] s) (entryFrame m ([Value.ref b] : List Value).toArray 4) := by
  obtain ⟨hx, hb, hr, hml, hown, hts, hX, hbl, hlocks, hgv⟩ := id C0
  have hA : ∀ q : Nat, s.heap.size ≤ q → (fun q : Nat => s.heap.size ≤ q) q := fun _ h => h
  obtain ⟨c0, iS0, hKn0⟩ := u_known (C := RX0) (T := TX0) (N := 5) (n := 5) hts (fun w h => wBig_tbl w (inB0 w h)) (hts _ (tb1 (i := 47) rfl))
  obtain ⟨c1, iS1, hKn1⟩ := u_known (C := RX1) (T := TX1) (N := 15) (n := 15) hts (fun w h => wBig_tbl w (inB1 w h)) (hts _ (tb1 (i := 171) rfl))
  obtain ⟨c2, iS2, hKn2⟩ := u_known (C := RX2) (T := TX2) (N := 4) (n := 4) hts (fun w h => wBig_tbl w (inB2 w h)) (hts _ (tb1 (i := 27) rfl))
  obtain ⟨c3, iS3, hKn3⟩ := u_known (C := RX3) (T := TX3) (N := 9) (n := 9) hts (fun w h => wBig_tbl w (inB3 w h)) (hts _ (tb1 (i := 128) rfl))
  obtain ⟨c4, iS4, hKn4⟩ := u_known (C := RX4) (T := TX4) (N := 12) (n := 12) hts (fun w h => wBig_tbl w (inB4 w h)) (hts _ (tb1 (i := 74) rfl))
  obtain ⟨c5, iS5, hKn5⟩ := u_known (C := RX5) (T := TX5) (N := 11) (n := 11) hts (fun w h => wBig_tbl w (inB5 w h)) (hts _ (tb1 (i := 17) rfl))
  obtain ⟨c6, iS6, hKn6⟩ := u_known (C := RX6) (T := TX6) (N := 23) (n := 23) hts (fun w h => wBig_tbl w (inB6 w h)) (hts _ (tb4 (i := 91) rfl))
  obtain ⟨dC, dI, hKc⟩ : ∃ (dC : Nat → ClassId) (dI : Nat → Nat → Nat), ∀ (k : Nat) (q : vw_C), clsT[k]? = some q → u_Kn s q.1 q.2.1 q.2.2 (dC k) (dI k) := by
    refine ⟨fun k => [c0, c1, c2, c3, c4, c5, c6].getD k c0, fun k => [iS0, iS1, iS2, iS3, iS4, iS5, iS6].getD k iS0, ?_⟩
    intro k q hq
    match k, hq with
    | 0, hq => cases hq; exact hKn0
    | 1, hq => cases hq; exact hKn1
    | 2, hq => cases hq; exact hKn2
    | 3, hq => cases hq; exact hKn3
    | 4, hq => cases hq; exact hKn4
    | 5, hq => cases hq; exact hKn5
    | 6, hq => cases hq; exact hKn6
    | k + 7, hq => simp [clsT] at hq
  obtain ⟨cI, kI, mI, fI1, fI2, fI3⟩ := Cond.arrayClass_spec (args := #[Value.ref b]) (first := s) (o := none) (s := s) (idx := []) (type := .int) (hts _ (tb1 (i := 45) rfl))
  obtain ⟨cB, kB, mB, fB1, fB2, fB3⟩ := Cond.arrayClass_spec (args := #[Value.ref b]) (first := s) (o := none) (s := s) (idx := []) (type := .boolean) (hts _ (tb4 (i := 165) rfl))
  have hAO : va_AO RX3 s := va_AO.of (A := #[Value.ref b]) (hts _ (tb1 (i := 25) rfl))
  obtain ⟨mS, cS, kS, fS1, _, fS2, fS3, fS4⟩ := Cond.arrayOver_spec hAO
  have hK : va_K (dC, dI) clsT (tyK cI cB cS) s := by
    refine ⟨hKc, fun k q hq => ?_⟩
    match k, hq with
    | 0, hq => cases hq; exact ⟨fun n z => ⟨fun k h => (by cases h), kI, fI2, mI, fI3⟩, fI1⟩
    | 1, hq => cases hq; exact ⟨fun n z => ⟨fun k h => (by cases h), kB, fB2, mB, fB3⟩, fB1⟩
    | 2, hq => cases hq; exact ⟨fun n z => ⟨fun k h => (by cases h), kS, fS2, mS, fS3⟩, kS, mS, fS2, fS3, fS1, fS4⟩
    | k + 3, hq => simp [tyK] at hq
  have hN2 : va_Nw (.methodLinkNest RX5 19 yX2_init "ChoirRoof") s := va_Nw.of rfl (A := #[Value.ref b]) (hts _ (tb1 (i := 28) rfl))
  have hN0 : va_Nw (.methodLinkNest RX5 26 yX0_init "ChoirRoof") s := va_Nw.of rfl (A := #[Value.ref b]) (hts _ (tb1 (i := 48) rfl))
  have hN4 : va_Nw (.methodLinkNest RX5 33 yX4_init "ChoirRoof") s := va_Nw.of rfl (A := #[Value.ref b]) (hts _ (tb1 (i := 75) rfl))
  obtain ⟨g, sio, hg24, hSta⟩ := sta_start hts hgv hX hbl
  have hS : va_S (fun q : Nat => s.heap.size ≤ q) s.heap s.heap [] := va_S.rf
  have hP : va_P (dC, dI) clsT [] s.heap := fun k q h => by simp at h
  have hD : va_D (fun q : Nat => s.heap.size ≤ q) [] := ⟨fun i j p q h => by simp at h, fun k q h => by simp at h⟩
  have hl := lv_entry ([.ref b]) (n := 4) (Nat.le_of_ble_eq_true rfl)
  rw [lg_entry_eq]
  generalize (lg_sl ([.ref b]) ++ List.replicate (4 - (lg_sl ([.ref b])).length) Slot.unset).toArray = ls at hl ⊢
  have hl : lv_has ls 4 [(0, .ref b)] := hl
  refine va_new (D := (dC, dI)) (cl := clsT) (ci := 5) (fs := [.null, .null, .null, .null, .null, .null, .null, .null, .null, .null, .int 0]) (C := RX5) (T := TX5) (N := 11) (own := RL) hx hb hts (fun w h => wBig_tbl w (inB5 w h)) tyX5 tyX5_ok hown (hts _ (tb1 (i := 16) rfl)) (hts _ (tb1 (i := 17) rfl)) (hts _ (tb1 (i := 1) rfl)) hK hP hD hS hA rfl (fun j hj => dfl_5 j hj) (Nat.le_of_ble_eq_true rfl) (Nat.le_of_ble_eq_true rfl) dL_law_0 (fun q5 H hP hD hS => ?_)
  have hP : va_P (dC, dI) clsT [(q5, .inr (5, [.null, .null, .null, .null, .null, .null, .null, .null, .null, .null, .int 0]))] H := hP
  have hD : va_D (fun q : Nat => s.heap.size ≤ q) [(q5, .inr (5, [.null, .null, .null, .null, .null, .null, .null, .null, .null, .null, .int 0]))] := hD
  refine lv_dup hx hb dL_law_3 rfl ?_
  have hFc := va_free (wc := [(q5, .inr (5, [.null, .null, .null, .null, .null, .null, .null, .null, .null, .null, .int 0]))]) hD hS hA [0] rfl
  refine va_callv (va_runI (As := []) (rest := [.ref q5]) ⟨hx, hb, hml, hown, hts⟩ (kX5_init l dC dI cI cB cS q5 H.size) (cwI 0 hts gL_init5 rfl rfl rfl (hts _ (tb1 (i := 1) rfl)) (hts _ (tb1 (i := 18) rfl)) (hts _ (tb1 (i := 19) rfl)) rfl (by decide +kernel) ⟨(Nat.le_of_ble_eq_true rfl), (Nat.le_of_ble_eq_true rfl)⟩) ⟨fun a U g mk q => by obtain ⟨z0, z1, qP, qK, qD, qA, r2, r0, r4⟩ := q; exact ⟨z0, z1, qP, va_K.moved (u := U) (U := U.calling g mk a) (Vm.Alike.refl U.vm) qK, qD, va_AO.moved (u := U) (U := U.calling g mk a) (Vm.Alike.refl U.vm) qA, va_Nw.same (u := U) rfl rfl r2, va_Nw.same (u := U) rfl rfl r0, va_Nw.same (u := U) rfl rfl r4⟩, fun U hU hW => ⟨rfl, by rw [hU], by rw [hU]; exact hP, va_K.moved hW.alike hK, hD.weaken (fun _ _ _ _ => trivial), va_AO.moved hW.alike hAO, va_Nw.warmM hW hN2, va_Nw.warmM hW hN0, va_Nw.warmM hW hN4⟩⟩ rfl rfl hl.1 rfl (lv_room (Nat.le_of_ble_eq_true rfl)) dL_law_4 ⟨(Nat.le_of_ble_eq_true rfl), (Nat.le_of_ble_eq_true rfl)⟩) hS (fun q _ h => hFc q h) hFc (fun u t H1 locs ht hvm hw hB hz1 hk1 hS => ?_)
  obtain ⟨f, hf, hP1, hD1⟩ := hB
  rw [ht] at hP1
  obtain ⟨hP, hD⟩ := va_join (wr := []) (w1 := ws5 f cI cB cS) hP hD [0] [] rfl rfl (by decide) (by decide) hk1 hFc hP1 hD1
  generalize H1 = H at hP hS ⊢
  have hP : va_P (dC, dI) clsT (ws5 f cI cB cS) H := hP
  have hD : va_D (fun q : Nat => s.heap.size ≤ q) (ws5 f cI cB cS) := hD
  refine lv_astore_n hx hb dL_law_7 rfl hl (by decide) rfl (fun ls hl => ?_)
  have hl : lv_has ls 4 [(1, .ref q5), (0, .ref b)] := hl
  refine va_new (D := (dC, dI)) (cl := clsT) (ci := 6) (fs := [.int 0, .null, .null, .null, .int 0, .int 0, .int 0, .int 0, .int 0, .int 0, .null, .null, .null, .int 0, .int 0, .null, .null, .null, .null, .int 0, .int 0, .int 0, .int 0]) (C := RX6) (T := TX6) (N := 23) (own := RL) hx hb hts (fun w h => wBig_tbl w (inB6 w h)) tyX6 tyX6_ok hown (hts _ (tb4 (i := 90) rfl)) (hts _ (tb4 (i := 91) rfl)) (hts _ (tb1 (i := 7) rfl)) hK hP hD hS hA rfl (fun j hj => dfl_6 j hj) (Nat.le_of_ble_eq_true rfl) (Nat.le_of_ble_eq_true rfl) dL_law_8 (fun q6 H hP hD hS => ?_)
  refine lv_dup hx hb dL_law_11 rfl ?_
  have hPc := hP.sub (ws' := [(q6, .inr (6, [.int 0, .null, .null, .null, .int 0, .int 0, .int 0, .int 0, .int 0, .int 0, .null, .null, .null, .int 0, .int 0, .null, .null, .null, .null, .int 0, .int 0, .int 0, .int 0]))]) [95] rfl
  have hDc := hD.sub (ws' := [(q6, .inr (6, [.int 0, .null, .null, .null, .int 0, .int 0, .int 0, .int 0, .int 0, .int 0, .null, .null, .null, .int 0, .int 0, .null, .null, .null, .null, .int 0, .int 0, .int 0, .int 0]))]) [95] (by decide) rfl
  have hFc := va_free (wc := [(q6, .inr (6, [.int 0, .null, .null, .null, .int 0, .int 0, .int 0, .int 0, .int 0, .int 0, .null, .null, .null, .int 0, .int 0, .null, .null, .null, .null, .int 0, .int 0, .int 0, .int 0]))]) hD hS hA [95] rfl
  refine va_callv (va_runI (As := []) (rest := [.ref q6]) ⟨hx, hb, hml, hown, hts⟩ (kX6_init l dC dI cI cB cS q6 H.size) (cwI 0 hts gL_init6 rfl rfl rfl (hts _ (tb1 (i := 7) rfl)) (hts _ (tb4 (i := 92) rfl)) (hts _ (tb4 (i := 93) rfl)) rfl (by decide +kernel) ⟨(Nat.le_of_ble_eq_true rfl), (Nat.le_of_ble_eq_true rfl)⟩) ⟨fun a U g mk q => by obtain ⟨z0, z1, qP, qK, qD⟩ := q; exact ⟨z0, z1, qP, va_K.moved (u := U) (U := U.calling g mk a) (Vm.Alike.refl U.vm) qK, qD⟩, fun U hU hW => ⟨rfl, by rw [hU], by rw [hU]; exact hPc, va_K.moved hW.alike hK, hDc.weaken (fun _ _ _ _ => trivial)⟩⟩ rfl rfl hl.1 rfl (lv_room (Nat.le_of_ble_eq_true rfl)) dL_law_12 ⟨(Nat.le_of_ble_eq_true rfl), (Nat.le_of_ble_eq_true rfl)⟩) hS (fun q _ h => hFc q h) hFc (fun u t H1 locs ht hvm hw hB hz1 hk1 hS => ?_)
  obtain ⟨y1, y2, y3, y4, y5, y6, y7, y8, y9, y10, hP1, hD1⟩ := hB
  rw [ht] at hP1
  obtain ⟨hP, hD⟩ := va_join (wr := ws5 f cI cB cS) (w1 := [(q6, .inr (6, [.int 0, .ref y1, .ref y2, .ref y3, .int 0, .int 0, .int 0, .int 0, .int 0, .int 0, .ref y4, .ref y5, .ref y6, .int 0, .int 0, .ref y7, .ref y8, .ref y9, .ref y10, .int 0, .int 0, .int 0, .int 0])), (y1, .inl (cI, 940, .inl (va_up (fun _ => 0) 26 (-1)))), (y2, .inl (cI, 940, .inl (fun _ => 0))), (y3, .inl (cI, 19, .inl (fun _ => 0))), (y4, .inl (cI, 6, .inl (fun _ => 0))), (y5, .inl (cB, 64, .inl (fun _ => 0))), (y6, .inl (cI, 6, .inl (fun _ => 0))), (y7, .inl (cI, 25, .inl (fun _ => 0))), (y8, .inl (cI, 6, .inl (fun _ => 0))), (y9, .inl (cI, 6, .inl (fun _ => 0))), (y10, .inl (cI, 20, .inl (fun _ => 0)))]) hP hD [95] (List.range 95) rfl rfl (by decide +kernel) (by decide +kernel) hk1 hFc hP1 hD1
  generalize H1 = H at hP hS ⊢
  refine lv_astore_n hx hb dL_law_15 rfl hl (by decide) rfl (fun ls hl => ?_)
  refine lv_iconst hx hb dL_law_16 (v := 0) rfl ?_
  refine lv_istore_n hx hb dL_law_17 rfl hl (by decide) rfl (fun ls hl => ?_)
  have hl : lv_has ls 4 [(3, .int 0), (2, .ref q6), (1, .ref q5), (0, .ref b)] := hl
  obtain ⟨ρ, hρ⟩ : ∃ ρ : EnvR, ρ = (fun c n k => if c = 6 then (if k = 0 then q6 else if k = 2 then y1 else if k = 3 then y2 else if k = 4 then y3 else if k = 11 then y4 else if k = 12 then y5 else if k = 13 then y6 else if k = 16 then y7 else if k = 17 then y8 else if k = 18 then y9 else if k = 19 then y10 else 0) else if 20 ≤ c then g c n k else f c n k, sio, cI, cB, cS) := ⟨_, rfl⟩
  have eW : ws5 f cI cB cS ++ [(q6, .inr (6, [.int 0, .ref y1, .ref y2, .ref y3, .int 0, .int 0, .int 0, .int 0, .int 0, .int 0, .ref y4, .ref y5, .ref y6, .int 0, .int 0, .ref y7, .ref y8, .ref y9, .ref y10, .int 0, .int 0, .int 0, .int 0])), (y1, .inl (cI, 940, .inl (va_up (fun _ => 0) 26 (-1)))), (y2, .inl (cI, 940, .inl (fun _ => 0))), (y3, .inl (cI, 19, .inl (fun _ => 0))), (y4, .inl (cI, 6, .inl (fun _ => 0))), (y5, .inl (cB, 64, .inl (fun _ => 0))), (y6, .inl (cI, 6, .inl (fun _ => 0))), (y7, .inl (cI, 25, .inl (fun _ => 0))), (y8, .inl (cI, 6, .inl (fun _ => 0))), (y9, .inl (cI, 6, .inl (fun _ => 0))), (y10, .inl (cI, 20, .inl (fun _ => 0)))] = wsO ρ (mem0 xs L) := by subst hρ; rfl
  rw [eW] at hP hD
  have hSt : Sta ρ (fun q : Nat => s.heap.size ≤ q) (xs, L) s s.heap := hSta ρ (fun c n k h => by subst hρ; show (if c = 6 then _ else if 20 ≤ c then _ else _) = _; rw [if_neg (by omega), if_pos h]) (by subst hρ; rfl)
  have hK9 : va_K (dC, dI) clsT (tysL ρ) s := by subst hρ; exact hK
  have r24 : ρ.1 24 0 0 = b := by subst hρ; exact hg24
  have r5 : ρ.1 5 0 0 = q5 := by subst hρ; exact hf
  have r6 : ρ.1 6 0 0 = q6 := by subst hρ; rfl
  exact law_run l hx hb hr hml hown hts hlocks hK9 hSt hA hL hP hD hS hl r24 r5 r6
