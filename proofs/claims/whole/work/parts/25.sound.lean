/-! RUNS: WHAT THE ABSTRACT MACHINE ANSWERS THE MACHINE ANSWERS -/
theorem bindR_ok {k : Nat} {r : Res} {f : Option AV → Mem → Res} {z : Option AV × Mem} (h : bindR k r f = some z) : ∃ o M, r = some (o, M) ∧ f o M = some z ∧ okS o.toList := by
  unfold bindR at h
  split at h
  · unfold bindV at h; split at h
    · exact ⟨_, _, rfl, h, fun v hv => by cases hv⟩
    · cases h
  · unfold bindI at h; split at h
    · exact ⟨_, _, rfl, h, okS.ci (fun v hv => by cases hv)⟩
    · cases h
  · unfold bindL at h; split at h
    · exact ⟨_, _, rfl, h, okS.cl (fun v hv => by cases hv)⟩
    · cases h
theorem okS.app {a b : List AV} (ha : okS a) (hb : okS b) : okS (a ++ b) := fun v hv => (List.mem_append.mp hv).elim (ha v) (hb v)
/-! the script stays -/
theorem swT_all {P : Prop} (h : P) (pc : Nat) (x : Int32) : ∀ (offs : List Int) (lo d : Int), swT (fun _ => P) pc x lo offs d
  | [], _, _ => h
  | o :: r, lo, d => by
    simp only [swT]
    split
    · exact h
    · exact swT_all h pc x r (lo + 1) d
theorem swL_all {P : Prop} (h : P) (pc : Nat) (x : Int32) : ∀ (ps : List (Int × Int)) (d : Int), swL (fun _ => P) pc x ps d
  | [], _ => h
  | (a, o) :: r, d => by
    simp only [swL]
    split
    · exact h
    · exact swL_all h pc x r d
theorem ssI_22 {M : Mem} {c n k : Nat} {x : Int32} : (ssI M c n k x).2.2 = M.2.2 := by unfold ssI; cases (c == 6) <;> rfl
theorem ssA_22 {M : Mem} {c n k : Nat} {f : Nat → Int32} : (ssA M c n k f).2.2 = M.2.2 := by unfold ssA; cases (c == 6) <;> rfl
set_option maxHeartbeats 4000000 in
theorem stepG_keep (pc a b : Nat) (ins : Instr) (ls : LL) (st : List AV) (M : Mem) : stepG True (fun _ _ m => m.2.2 = M.2.2) (fun _ _ _ m => m.2.2 = M.2.2) (fun _ _ _ _ m => m.2.2 = M.2.2) (fun _ m => m.2.2 = M.2.2) pc a b ins ls st M := by
  cases ins <;> simp only [stepG, cond_eq_ite] <;> first | trivial | (repeat' split) <;> first | trivial | exact rfl | exact ssI_22 | exact ssA_22 | exact swT_all rfl _ _ _ _ _ | exact swL_all rfl _ _ _ _ | exact swT_all trivial _ _ _ _ _ | exact swL_all trivial _ _ _ _
theorem run_keep {ag : AgT} {cl : ClT} (ha : ∀ t ls st M r, ag t ls st M = some r → r.2.2.2 = M.2.2) (hc : ∀ j as M r, cl j as M = some r → r.2.2.2 = M.2.2) : ∀ (l : List CE) (ls : LL) (st : List AV) (M : Mem) (r : Option AV × Mem), run ag cl l ls st M = some r → r.2.2.2 = M.2.2
  | [], _, _, _, _, h => by cases h
  | (pc, n, ins, a, b, e) :: rs, ls, st, M, r, h => by
    have hk := stepG_keep pc a b ins ls st M
    rw [stepG_ctl] at hk
    simp only [run, stepG_ctl] at h
    generalize stepR pc a b ins ls st M = y at h hk
    match y, h, hk with
    | none, h, _ => cases h
    | some (.inl (l, s, m)), h, hk =>
      have hk : m.2.2 = M.2.2 := hk
      simp only [ctl] at h
      rw [← hk]
      cases hz : (e == 0) <;> rw [hz] at h
      · exact ha _ _ _ _ _ h
      · exact run_keep ha hc rs l s m r h
    | some (.inr (.inl (t, l, s, m))), h, hk =>
      have hk : m.2.2 = M.2.2 := hk
      rw [← hk]; exact ha _ _ _ _ _ h
    | some (.inr (.inr (.inl (j, as, l, s, m)))), h, hk =>
      have hk : m.2.2 = M.2.2 := hk
      simp only [ctl] at h
      obtain ⟨o, M2, h1, h2⟩ := bindR_some h
      have h3 := hc _ _ _ _ h1
      rw [← hk, ← h3]
      cases hz : (e == 0) <;> rw [hz] at h2
      · exact ha _ _ _ _ _ h2
      · exact run_keep ha hc rs l _ M2 r h2
    | some (.inr (.inr (.inr (v, m)))), h, hk =>
      have hk : m.2.2 = M.2.2 := hk
      cases h; exact hk
theorem exec_keep : ∀ (n d j pc : Nat) (ls : LL) (st : List AV) (M : Mem) (r : Option AV × Mem), exec n d j pc ls st M = some r → r.2.2.2 = M.2.2
  | 0, _, _, _, _, _, _, _, h => by cases h
  | n + 1, d, j, pc, ls, st, M, r, h => by
    rw [exec] at h
    refine run_keep (fun t ls st M r h => exec_keep n d j t ls st M r h) (fun j as M r h => ?_) _ _ _ _ r h
    match d, h with
    | 0, h => cases h
    | d' + 1, h =>
      simp only at h
      cases hb : Nat.ble (argL as).length (mlO j)
      · rw [hb] at h; cases h
      · rw [hb] at h; exact exec_keep n d' j 0 _ [] M r h
/-! a call -/
theorem va_A_in {ρ : EnvR} {M : Mem} {A : Nat → Prop} {H0 H : Heap} {locs : List Loc} (hD : va_D A (wsO ρ M)) (hS : va_S A H0 H locs) (hA : ∀ q : Nat, H0.size ≤ q → A q) : ∀ q, va_A (wsO ρ M) H.size q → A q := fun q h => by
  rcases h with ⟨k, e, h⟩ | h
  · exact hD.2 k _ h
  · exact hA q (Nat.le_trans hS.1 h)
theorem good_wU {Ts : List Cond} (hbig : ∀ w ∈ wBig, w ∈ Ts) {jj : Nat} (hm : mok jj) : GoodIn Ts (wU jj) := fun w hw => by
  have h : w ∈ wBig := (List.mem_cons.mp hw).elim (fun e => e ▸ hm.1) id
  exact ⟨hbig w h, good_of_word (wBig_good w h)⟩
theorem good_app {Ts a b : List Cond} (ha : ∀ w ∈ a, w ∈ Ts ∧ goodWord w = true) (hb : GoodIn Ts b) : GoodIn Ts (a ++ b) := fun w hw => (List.mem_append.mp hw).elim (fun h => ⟨(ha w h).1, good_of_word (ha w h).2⟩) (hb w)
theorem recvT : ((List.range (nM - 1)).all fun j => stO j || (decide ((yO j).cls = RO (ctO j)) && Nat.blt (ctO j) 7) || (ctO j == 20 && decide ((yO j).cls = "java/lang/String"))) = true := by decide +kernel
section
variable {p : Program} {l : Launch} {e : Env} {R : Room} {s : State} {m : MethodId} {args : Array Value} {below : List Frame} {meth : Method} {c : Code} {cells slots : Nat} {Q : State → Prop} {dC : Nat → ClassId} {dI : Nat → Nat → Nat} {ρ : EnvR} {A : Nat → Prop} {x : ScrX} {Ts : List Cond} {d j : Nat}
theorem call_in (F : Fr p R s m args c cells slots dC dI ρ A x Ts d j) {pc : Nat} {ls : LL} {st as : List AV} {M M' : Mem} {o : Option AV} {a9 : Array Value} (hx' : M'.2.2 = x) (hok : okS st) (hos : okS o.toList)
    (kk : Jd p l e R s m args below meth c cells slots Q dC dI ρ A x j (pc + 3) ls (o.toList ++ st) M')
    (hrun : ∀ (H : Heap) (locs : List Loc) (la : Array Slot), va_P (dC, dI) clsT (wsO ρ M) H → va_D A (wsO ρ M) → va_S A s.heap H locs → la.size = mlO j → va_Run p l e R s m args below meth c H locs cells slots 0 0 (F0 m pc la ((as.reverse ++ st).map (cv ρ))) (st.map (cv ρ)) (postO o (fun t => va_P (dC, dI) clsT (wsO ρ M') t.heap) (va_A (wsO ρ M) H.size) a9) (va_A (wsO ρ M) H.size)) :
    Jd p l e R s m args below meth c cells slots Q dC dI ρ A x j pc ls (as.reverse ++ st) M := by
  intro H locs la hx9 hL hSt hP hD hS hl
  have hr := hrun H locs la hP hD hS hl.1
  have hA := F.2.2.2.2.2.2.2.2.1
  have hA2 := va_A_in hD hS hA
  have hA1 : ∀ q, q < H.size → va_A (wsO ρ M) H.size q → A q := fun q _ h => hA2 q h
  match o, hr, kk, hos with
  | none, hr, kk, hos =>
    refine va_callv (a := a9) hr hS hA1 hA2 (fun u t H1 locs1 ht hvm hw hB hz1 hk1 hS1 => ?_)
    have hB : va_P (dC, dI) clsT (wsO ρ M') t.heap := hB
    rw [ht] at hB
    exact kk H1 locs1 la hx' hL hok hB (wsO_D hD) hS1 hl
  | some (.inl r), hr, kk, hos =>
    refine va_calli (a := a9) hr hS hA1 hA2 (fun r' u t H1 locs1 ht hvm hw hB hz1 hk1 hS1 => ?_)
    have hB : va_P (dC, dI) clsT (wsO ρ M') t.heap := hB
    rw [ht] at hB
    cases hw
    exact kk H1 locs1 la hx' hL (hos.app hok) hB (wsO_D hD) hS1 hl
  | some (.inr (.inl r)), hr, kk, hos =>
    refine va_calll (a := a9) hr hS hA1 hA2 (fun r' u t H1 locs1 ht hvm hw hB hz1 hk1 hS1 => ?_)
    have hB : va_P (dC, dI) clsT (wsO ρ M') t.heap := hB
    rw [ht] at hB
    cases hw
    exact kk H1 locs1 la hx' hL (hos.app hok) hB (wsO_D hD) hS1 hl
  | some (.inr (.inr r)), hr, kk, hos =>
    intro T hT X
    obtain ⟨v, st₀, t, T', L, h0, X', hL, e1, e2, hq, st⟩ := hr T hT X
    exact absurd hq id
theorem call_pre (F : Fr p R s m args c cells slots dC dI ρ A x Ts d j) {H : Heap} {locs : List Loc} {M : Mem} (hP : va_P (dC, dI) clsT (wsO ρ M) H) (hD : va_D A (wsO ρ M)) (hS : va_S A s.heap H locs) (av : List Value) : ∀ U : State, U.heap = H → s.WarmedH U.vm → va_Pc av (preO dC dI ρ x M H.size) av.toArray U := fun U hU hW =>
  ⟨rfl, by rw [hU], by rw [hU]; exact hP, va_K.moved hW.alike F.2.2.2.2.2.2.1, hD.weaken (fun _ _ _ _ => trivial), F.2.2.2.2.2.2.2.1.to hS hW hU (va_A_in hD hS F.2.2.2.2.2.2.2.2.1)⟩
theorem call_s (F : Fr p R s m args c cells slots dC dI ρ A x Ts (d + 1) j) {pc i jj : Nat} {ls : LL} {st as : List AV} {M M' : Mem} {o : Option AV} (hdec : decode (bO j) pc = .ok (.invokestatic i, 3)) (hlk : (owO j, i, yO jj) ∈ nstM ∨ Cond.methodLink (owO j) i (yO jj) ∈ wBig) (hm : mok jj) (hst : stO jj = true) (hn : as.length = naO jj) (hcs : cats st ≤ 8)
    (hcon : Con l dC dI ρ x (d + 1) jj as M o M') (hx' : M'.2.2 = x) (hok : okS st) (hos : okS o.toList) (kk : Jd p l e R s m args below meth c cells slots Q dC dI ρ A x j (pc + 3) ls (o.toList ++ st) M') :
    Jd p l e R s m args below meth c cells slots Q dC dI ρ A x j pc ls (as.reverse ++ st) M := by
  refine call_in (as := as) (a9 := (as.map (cv ρ)).toArray) F hx' hok hos kk (fun H locs la hP hD hS hl => ?_)
  obtain ⟨hx, hb, hml, hown, hts, hbig, hK, hSta, hA, hR, hC⟩ := id F
  have hsio : ρ.2.1.category = 1 := cat_of_ref hSta.2.2.2.2.2.2.2.2.2.2
  obtain ⟨m1, m2, m3, m4, m5, m6, m7, m8, m9, m10⟩ := id hm
  rw [if_pos hst] at m3
  have hRo : (rmO (d + 1)).frames + 1 ≤ R.frames ∧ 8 + (mlO jj + 11) + (rmO (d + 1)).locals ≤ R.locals := by
    show d + 1 + 1 ≤ R.frames ∧ 8 + (mlO jj + 11) + 64 * (d + 1) ≤ R.locals
    omega
  have hroom : ((st.map (cv ρ)).map fun v => v.category).sum ≤ 8 := by rw [cats_eq ρ hsio]; exact hcs
  have hlen : (as.map (cv ρ)).length = naO jj := by rw [List.length_map]; exact hn
  have hstk : (F0 m pc la ((as.reverse ++ st).map (cv ρ))).stack = (as.map (cv ρ)).reverse ++ st.map (cv ρ) := by
    show (as.reverse ++ st).map (cv ρ) = _
    rw [List.map_append, List.map_reverse]
  rcases hlk with hlk | hlk
  · exact va_runSN (As := as.map (cv ρ)) (rest := st.map (cv ρ)) ⟨hx, hb, hml, hown, hts⟩ (hcon H.size) ⟨va_cnB (naO jj) hts (good_wU hbig hm) rfl rfl rfl (hSta.2.2.2.2.2.1 _ hlk) (hts _ (hbig _ m2)) m5 hRo, hts _ (hbig _ m3), trivial⟩ ⟨preO_blind, call_pre F hP hD hS _⟩ rfl hlen hl hstk (lv_room hroom) hdec hC
  · exact va_runS (As := as.map (cv ρ)) (rest := st.map (cv ρ)) ⟨hx, hb, hml, hown, hts⟩ (hcon H.size) (va_cwS (naO jj) hts (good_app (fun w hw => by
      simp only [List.mem_cons, List.not_mem_nil, or_false] at hw
      rcases hw with rfl | rfl | rfl
      · exact ⟨hbig _ hlk, wBig_good _ hlk⟩
      · exact ⟨hbig _ m3, wBig_good _ m3⟩
      · exact ⟨hbig _ m2, wBig_good _ m2⟩) (good_wU hbig hm)) rfl rfl rfl m5 hRo) ⟨preO_blind, call_pre F hP hD hS _⟩ rfl hlen hl hstk (lv_room hroom) hdec hC
theorem call_v (F : Fr p R s m args c cells slots dC dI ρ A x Ts (d + 1) j) {pc i jj n9 : Nat} {ls : LL} {st as r : List AV} {M M' : Mem} {o : Option AV} (hdec : decode (bO j) pc = .ok (.invokevirtual i, 3)) (hlk : (owO j, i, yO jj) ∈ nstM ∨ Cond.methodLink (owO j) i (yO jj) ∈ wBig) (hm : mok jj) (hst : stO jj = false) (hjj : jj < nM - 1) (has : as = vR (ctO jj) n9 0 :: r) (hn : r.length = naO jj) (hcs : cats st ≤ 8)
    (hcon : Con l dC dI ρ x (d + 1) jj as M o M') (hx' : M'.2.2 = x) (hoka : okS as) (hok : okS st) (hos : okS o.toList) (kk : Jd p l e R s m args below meth c cells slots Q dC dI ρ A x j (pc + 3) ls (o.toList ++ st) M') :
    Jd p l e R s m args below meth c cells slots Q dC dI ρ A x j pc ls (as.reverse ++ st) M := by
  subst has
  obtain ⟨hx, hb, hml, hown, hts, hbig, hK, hSta, hA, hR, hC⟩ := id F
  have hsio : ρ.2.1.category = 1 := cat_of_ref hSta.2.2.2.2.2.2.2.2.2.2
  obtain ⟨m1, m2, m3, m4, m5, m6, m7, m8, m9, m10⟩ := id hm
  rw [if_neg (by rw [hst]; decide)] at m3
  obtain ⟨m3, m3'⟩ := m3
  have hRo : (rmO (d + 1)).frames + 1 ≤ R.frames ∧ 8 + (mlO jj + 11) + (rmO (d + 1)).locals ≤ R.locals := by
    show d + 1 + 1 ≤ R.frames ∧ 8 + (mlO jj + 11) + 64 * (d + 1) ≤ R.locals
    omega
  have hroom : ((st.map (cv ρ)).map fun v => v.category).sum ≤ 8 := by rw [cats_eq ρ hsio]; exact hcs
  have hlen : (r.map (cv ρ)).length = naO jj := by rw [List.length_map]; exact hn
  -- the receiver
  have hrec : ∀ (H : Heap) (locs : List Loc), va_P (dC, dI) clsT (wsO ρ M) H → va_S A s.heap H locs → cv ρ (vR (ctO jj) n9 0) = .ref (ρ.1 (ctO jj) n9 0) ∧ ∃ cell : Cell, H[ρ.1 (ctO jj) n9 0]? = some cell ∧ cell.vm.isStatics = false ∧ s.vm.findClass (yO jj).cls = some cell.cls := by
    intro H locs hP hS
    have ht := List.all_eq_true.mp recvT jj (List.mem_range.mpr hjj)
    simp only [hst, Bool.false_or, Bool.or_eq_true, Bool.and_eq_true, decide_eq_true_eq, beq_iff_eq] at ht
    have hok9 : okR (ctO jj) n9 0 = true := hoka _ List.mem_cons_self
    rcases ht with ⟨t1, t2⟩ | ⟨t1, t2⟩
    · have h7 : ctO jj < 7 := Nat.le_of_ble_eq_true t2
      have hcell := cell_ok hok9 h7
      obtain ⟨q0, hq0, he⟩ := wsO_get ρ M hcell
      refine ⟨cv_cell ρ hcell, ?_⟩
      rw [t1]
      exact va_recv (q := (RO (ctO jj), TO (ctO jj), nFl.getD (ctO jj) 0)) hK hP (cls_at _ h7) he
    · rw [t1] at hok9 ⊢
      have hn6 : n9 < 6 := by
        unfold okR at hok9
        rw [not_cell (by omega)] at hok9
        have e1 : ((20 : Nat) == 22) = false := rfl
        have e2 : ((20 : Nat) == 21) = false := rfl
        have e3 : ((20 : Nat) == 24) = false := rfl
        simp only [e1, e2, e3, BEq.rfl, Bool.true_and, Bool.false_and, Bool.false_or, Bool.or_false, Bool.and_eq_true] at hok9
        exact Nat.le_of_ble_eq_true hok9.1
      refine ⟨rfl, ?_⟩
      rw [t2]
      obtain ⟨cell, h1, h2, h3, -⟩ := (hSta.1 n9 hn6).1.kept hS.2.1
      exact ⟨cell, h1, h2, h3⟩
  refine call_in (as := vR (ctO jj) n9 0 :: r) (a9 := (Value.ref (ρ.1 (ctO jj) n9 0) :: r.map (cv ρ)).toArray) F hx' hok hos kk (fun H locs la hP hD hS hl => ?_)
  obtain ⟨hcv, hrecv⟩ := hrec H locs hP hS
  have hav : (vR (ctO jj) n9 0 :: r).map (cv ρ) = Value.ref (ρ.1 (ctO jj) n9 0) :: r.map (cv ρ) := by rw [List.map_cons, hcv]
  have hstk : (F0 m pc la (((vR (ctO jj) n9 0 :: r).reverse ++ st).map (cv ρ))).stack = (r.map (cv ρ)).reverse ++ Value.ref (ρ.1 (ctO jj) n9 0) :: st.map (cv ρ) := by
    show ((vR (ctO jj) n9 0 :: r).reverse ++ st).map (cv ρ) = _
    rw [List.map_append, List.map_reverse, hav, List.reverse_cons, List.append_assoc]
    rfl
  have hcon2 := hcon H.size
  have hpre := call_pre F hP hD hS ((vR (ctO jj) n9 0 :: r).map (cv ρ))
  rw [hav] at hcon2 hpre
  rcases hlk with hlk | hlk
  · exact va_runVN (C := (yO jj).cls) (As := r.map (cv ρ)) (rest := st.map (cv ρ)) ⟨hx, hb, hml, hown, hts⟩ hcon2 ⟨va_cnB (naO jj) hts (good_wU hbig hm) rfl rfl rfl (hSta.2.2.2.2.2.1 _ hlk) (hts _ (hbig _ m2)) m5 hRo, hts _ (hbig _ m3), hts _ (hbig _ m3')⟩ ⟨preO_blind, hrecv, hpre⟩ rfl hlen hl hstk (lv_room hroom) hdec hC
  · exact va_runV (C := (yO jj).cls) (As := r.map (cv ρ)) (rest := st.map (cv ρ)) ⟨hx, hb, hml, hown, hts⟩ hcon2 (cwV (naO jj) hts (good_app (fun w hw => by
      simp only [List.mem_cons, List.not_mem_nil, or_false] at hw
      rcases hw with rfl | rfl | rfl | rfl
      · exact ⟨hbig _ hlk, wBig_good _ hlk⟩
      · exact ⟨hbig _ m3, wBig_good _ m3⟩
      · exact ⟨hbig _ m3', wBig_good _ m3'⟩
      · exact ⟨hbig _ m2, wBig_good _ m2⟩) (good_wU hbig hm)) rfl rfl rfl ⟨rfl, m5⟩ hRo) ⟨preO_blind, hrecv, hpre⟩ rfl hlen hl hstk (lv_room hroom) hdec hC
end
