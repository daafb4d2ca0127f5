/-! what kind of answer a method gives; the law's cases -/
def isIv (v : Option AV) : Prop := ∃ x, v = some (vI x)
def isLv (v : Option AV) : Prop := ∃ y, v = some (vL y)
def okIr (ins : Instr) : Bool := match ins with
  | .lreturn => false
  | .areturn => false
  | .return_ => false
  | _ => true
def okLr (ins : Instr) : Bool := match ins with
  | .ireturn => false
  | .areturn => false
  | .return_ => false
  | _ => true
theorem swT_T (pc : Nat) (x : Int32) : ∀ (offs : List Int) (lo d : Int), swT (fun _ => True) pc x lo offs d := swT_P trivial pc x
theorem swL_T (pc : Nat) (x : Int32) : ∀ (ps : List (Int × Int)) (d : Int), swL (fun _ => True) pc x ps d := swL_P trivial pc x
set_option maxHeartbeats 4000000 in
theorem stepG_kI (pc a b : Nat) (ins : Instr) (h : okIr ins = true) (ls : LL) (st : List AV) (M : Mem) : stepG True (fun _ _ _ => True) (fun _ _ _ _ => True) (fun _ _ _ _ _ => True) (fun v _ => isIv v) pc a b ins ls st M := by
  cases ins <;> simp only [stepG, cond_eq_ite] <;> first | trivial | (cases h; done) | (repeat' split) <;> first | trivial | exact ⟨_, rfl⟩ | exact swT_T _ _ _ _ _ | exact swL_T _ _ _ _
set_option maxHeartbeats 4000000 in
theorem stepG_kL (pc a b : Nat) (ins : Instr) (h : okLr ins = true) (ls : LL) (st : List AV) (M : Mem) : stepG True (fun _ _ _ => True) (fun _ _ _ _ => True) (fun _ _ _ _ _ => True) (fun v _ => isLv v) pc a b ins ls st M := by
  cases ins <;> simp only [stepG, cond_eq_ite] <;> first | trivial | (cases h; done) | (repeat' split) <;> first | trivial | exact ⟨_, rfl⟩ | exact swT_T _ _ _ _ _ | exact swL_T _ _ _ _
theorem run_kd {ok : Instr → Bool} {gd : Option AV → Prop} (H : ∀ pc a b ins, ok ins = true → ∀ ls st M, stepG True (fun _ _ _ => True) (fun _ _ _ _ => True) (fun _ _ _ _ _ => True) (fun v _ => gd v) pc a b ins ls st M) {ag : AgT} {cl : ClT} (ha : ∀ t ls st M r, ag t ls st M = some r → gd r.1) : ∀ (l : List CE) (ls : LL) (st : List AV) (M : Mem), (l.all fun q => ok q.2.2.1) = true → ∀ r, run ag cl l ls st M = some r → gd r.1
  | [], _, _, _, _ => fun r h => by cases h
  | (pc, n, ins, a, b, e) :: r, ls, st, M, hl => by
    intro x h
    have h12 := Bool.and_eq_true_iff.mp hl
    have hs := H pc a b ins h12.1 ls st M
    rw [stepG_ctl] at hs
    simp only [run, stepG_ctl] at h
    generalize stepR pc a b ins ls st M = y at h hs
    match y, h, hs with
    | none, h, _ => cases h
    | some (.inl (l, s, m)), h, hs =>
      simp only [ctl] at h
      cases hz : (e == 0) <;> rw [hz] at h
      · exact ha _ _ _ _ x h
      · exact run_kd H ha r l s m h12.2 x h
    | some (.inr (.inl (t, l, s, m))), h, hs => exact ha t l s m x h
    | some (.inr (.inr (.inl (j, as, l, s, m)))), h, hs =>
      simp only [ctl] at h
      obtain ⟨o, M1, h1, h2⟩ := bindR_some h
      cases hz : (e == 0) <;> rw [hz] at h2
      · exact ha _ _ _ _ x h2
      · exact run_kd H ha r l _ M1 h12.2 x h2
    | some (.inr (.inr (.inr (v, m)))), h, hs =>
      simp only [ctl] at h hs
      injection h with h
      rw [← h]
      exact hs
theorem drop_all {ok : Instr → Bool} (pc : Nat) : ∀ l : List CE, (l.all fun q => ok q.2.2.1) = true → ((dropTo pc l).all fun q => ok q.2.2.1) = true
  | [], h => h
  | q :: r, h => by
    unfold dropTo
    cases (q.1 == pc)
    · exact drop_all pc r (Bool.and_eq_true_iff.mp h).2
    · exact h
theorem exec_kd {ok : Instr → Bool} {gd : Option AV → Prop} (H : ∀ pc a b ins, ok ins = true → ∀ ls st M, stepG True (fun _ _ _ => True) (fun _ _ _ _ => True) (fun _ _ _ _ _ => True) (fun v _ => gd v) pc a b ins ls st M) {j : Nat} (hj : ((kO j).all fun q => ok q.2.2.1) = true) : ∀ (n d pc : Nat) (ls : LL) (st : List AV) (M : Mem) r, exec n d j pc ls st M = some r → gd r.1
  | 0, _, _, _, _, _ => fun r h => absurd h (by simp [exec])
  | n + 1, d, pc, ls, st, M => by
    intro r h
    rw [exec] at h
    exact run_kd H (fun t ls st M r h => exec_kd H hj n d t ls st M r h) _ _ _ _ (drop_all pc _ hj) r h
theorem XC_kd {ok : Instr → Bool} {gd : Option AV → Prop} (H : ∀ pc a b ins, ok ins = true → ∀ ls st M, stepG True (fun _ _ _ => True) (fun _ _ _ _ => True) (fun _ _ _ _ _ => True) (fun v _ => gd v) pc a b ins ls st M) {d j : Nat} {as : List AV} {M : Mem} {v : Option AV} {M' : Mem} (hj : ((kO j).all fun q => ok q.2.2.1) = true) (h : XC d j as M = some (v, M')) : gd v := by
  match d, h with
  | 0, h => cases h
  | d' + 1, h =>
    simp only [XC] at h
    cases hb : Nat.ble (argL as).length (mlO j)
    · rw [hb] at h; cases h
    · rw [hb] at h
      obtain ⟨n, hn⟩ := X_some.mp h
      exact exec_kd H hj n d' 0 _ [] M _ hn
theorem Call.int {B d j : Nat} {as : List AV} {M : Mem} {y : Mem → Res} (h : Call B M (fun M => XC d j as M) y) (hj : ((kO j).all fun q => okIr q.2.2.1) = true) : ∃ z M' N', XC d j as M = some (some (vI z), M') ∧ y M' = some (some (vI z), N') ∧ (B + 1 < 2 ^ 20 → Inv (B + 1) N') ∧ M'.2.2 = M.2.2 ∧ N'.2.2 = M.2.2 := by
  obtain ⟨v, M', N', e1, e2, i, s⟩ := h
  obtain ⟨z, hz⟩ := XC_kd (gd := isIv) (fun pc a b ins h ls st M => stepG_kI pc a b ins h ls st M) hj e1
  injection hz with hz
  subst hz
  exact ⟨z, M', N', e1, e2, i, XC_sc e1, s⟩
theorem Call.long {B d j : Nat} {as : List AV} {M : Mem} {y : Mem → Res} (h : Call B M (fun M => XC d j as M) y) (hj : ((kO j).all fun q => okLr q.2.2.1) = true) : ∃ z M' N', XC d j as M = some (some (vL z), M') ∧ y M' = some (some (vL z), N') ∧ (B + 1 < 2 ^ 20 → Inv (B + 1) N') ∧ M'.2.2 = M.2.2 ∧ N'.2.2 = M.2.2 := by
  obtain ⟨v, M', N', e1, e2, i, s⟩ := h
  obtain ⟨z, hz⟩ := XC_kd (gd := isLv) (fun pc a b ins h ls st M => stepG_kL pc a b ins h ls st M) hj e1
  injection hz with hz
  subst hz
  exact ⟨z, M', N', e1, e2, i, XC_sc e1, s⟩
theorem sc_N {M M' : Mem} (h : M'.2.2 = M.2.2) : sN M' = sN M := by unfold sN; rw [h]
theorem sc_X {M M' : Mem} (h : M'.2.2 = M.2.2) : sX M' = sX M := by unfold sX; rw [h]
theorem ob_2 {α : Type} {k N : Nat} {a b : α} (h : k < N) (hN : N < 2 ^ 31) : (if nI k < 0 ∨ N ≤ k then a else b) = b := if_neg (fun q => q.elim (nI_pos (by omega)) (fun w => by omega))
theorem lg_self (y : Int64) : lg_cmp y y = 0 := by
  unfold lg_cmp
  simp
def GoL (d : Nat) (K i B : Nat) (M : Mem) : Prop := ∃ N', X (d + 40) jL_law K [some (vR 24 0 0), some (vR 5 0 0), some (vR 6 0 0), some (vI (nI i))] [] M = X (d + 40) jL_law 18 [some (vR 24 0 0), some (vR 5 0 0), some (vR 6 0 0), some (vI (nI (i + 4)))] [] N' ∧ Inv (B + 1) N' ∧ N'.2.2 = M.2.2
theorem li1 (i : Nat) : nI i + 1 = nI (i + 1) := nI_1 i
theorem li2 (i : Nat) : nI i + 2 = nI (i + 2) := nI_add i 2
theorem li3 (i : Nat) : nI i + 3 = nI (i + 3) := nI_add i 3
theorem li4 (i : Nat) : nI i + 4 = nI (i + 4) := nI_add i 4
theorem law_208 (d : Nat) {B i N : Nat} {M : Mem} (I : Inv B M) (hN : sN M = N) (hi : i + 4 ≤ N) (hN2 : N ≤ 2048) (hB : B < 90000) : GoL d 208 i B M := by
  have hc : Call B M (fun M0 => XC (d + 40) jX5_feed [vR 5 0 0, vI (sX M (i + 1))] M0) (fun M0 => XC (d + 40) jX6_feed [vR 6 0 0, vI (sX M (i + 1))] M0) := c_feed (d + 20) _ I
  obtain ⟨z, M1, M2, e1, e2, hI, s1, s2⟩ := hc.int (by decide +kernel)
  refine ⟨M2, ?_, hI (by omega), s2⟩
  rw [B_L_law_208]
  simp only [li1]
  rw [hN, ob_no (show i + 1 < N by omega) (by omega)]
  simp only [cl_no (show i + 1 < 2 ^ 31 by omega)]
  rw [e1, bindI_some, sc_N s1, sc_X s1, hN, ob_2 (show i + 1 < N by omega) (by omega), e2, bindI_some, if_pos rfl, B_L_law_1257, li4]
theorem law_231 (d : Nat) {B i N : Nat} {M : Mem} (I : Inv B M) (hN : sN M = N) (hi : i + 4 ≤ N) (hN2 : N ≤ 2048) (hB : B < 90000) : GoL d 231 i B M := by
  have hc : Call B M (fun M0 => XC (d + 40) jX5_setting [vR 5 0 0] M0) (fun M0 => XC (d + 40) jX6_setting [vR 6 0 0] M0) := c_setting d I
  obtain ⟨z, M1, M2, e1, e2, hI, s1, s2⟩ := hc.int (by decide +kernel)
  refine ⟨M2, ?_, hI (by omega), s2⟩
  rw [B_L_law_231, e1, bindI_some, e2, bindI_some, if_pos rfl, B_L_law_1257, li4]
theorem law_244 (d : Nat) {B i N : Nat} {M : Mem} (I : Inv B M) (hN : sN M = N) (hi : i + 4 ≤ N) (hN2 : N ≤ 2048) (hB : B < 90000) : GoL d 244 i B M := by
  have hc : Call B M (fun M0 => XC (d + 40) jX5_singer [vR 5 0 0, vI (sX M (i + 1)), vI (sX M (i + 2)), vI (sX M (i + 3))] M0) (fun M0 => XC (d + 40) jX6_singer [vR 6 0 0, vI (sX M (i + 1)), vI (sX M (i + 2)), vI (sX M (i + 3))] M0) := c_singer (d + 20) _ _ _ I
  obtain ⟨z, M1, M2, e1, e2, hI, s1, s2⟩ := hc.int (by decide +kernel)
  refine ⟨M2, ?_, hI (by omega), s2⟩
  rw [B_L_law_244]
  simp only [li1, li2, li3]
  rw [hN, ob_no (show i + 1 < N by omega) (by omega), ob_no (show i + 2 < N by omega) (by omega), ob_no (show i + 3 < N by omega) (by omega)]
  simp only [cl_no (show i + 1 < 2 ^ 31 by omega), cl_no (show i + 2 < 2 ^ 31 by omega), cl_no (show i + 3 < 2 ^ 31 by omega)]
  rw [e1, bindI_some, sc_N s1, sc_X s1, hN, ob_2 (show i + 1 < N by omega) (by omega), ob_2 (show i + 2 < N by omega) (by omega), ob_2 (show i + 3 < N by omega) (by omega), e2, bindI_some, if_pos rfl, B_L_law_1257, li4]
theorem law_287 (d : Nat) {B i N : Nat} {M : Mem} (I : Inv B M) (hN : sN M = N) (hi : i + 4 ≤ N) (hN2 : N ≤ 2048) (hB : B < 90000) : GoL d 287 i B M := by
  have hc : Call B M (fun M0 => XC (d + 40) jX5_of [vR 5 0 0, vI (sX M (i + 1)), vI (sX M (i + 2))] M0) (fun M0 => XC (d + 40) jX6_of [vR 6 0 0, vI (sX M (i + 1)), vI (sX M (i + 2))] M0) := I.q (fun P h hSh hRw => q_of (d + 20) _ _ h)
  obtain ⟨z, M1, M2, e1, e2, hI, s1, s2⟩ := hc.int (by decide +kernel)
  refine ⟨M2, ?_, hI (by omega), s2⟩
  rw [B_L_law_287]
  simp only [li1, li2]
  rw [hN, ob_no (show i + 1 < N by omega) (by omega), ob_no (show i + 2 < N by omega) (by omega)]
  simp only [cl_no (show i + 1 < 2 ^ 31 by omega), cl_no (show i + 2 < 2 ^ 31 by omega)]
  rw [e1, bindI_some, sc_N s1, sc_X s1, hN, ob_2 (show i + 1 < N by omega) (by omega), ob_2 (show i + 2 < N by omega) (by omega), e2, bindI_some, if_pos rfl, B_L_law_1257, li4]
theorem law_320 (d : Nat) {B i N : Nat} {M : Mem} (I : Inv B M) (hN : sN M = N) (hi : i + 4 ≤ N) (hN2 : N ≤ 2048) (hB : B < 90000) : GoL d 320 i B M := by
  have hc : Call B M (fun M0 => XC (d + 40) jX5_row [vR 5 0 0, vI (sX M (i + 1)), vI (sX M (i + 2)), vI (sX M (i + 3))] M0) (fun M0 => XC (d + 40) jX6_row [vR 6 0 0, vI (sX M (i + 1)), vI (sX M (i + 2)), vI (sX M (i + 3))] M0) := c_row (d + 20) _ _ _ I
  obtain ⟨z, M1, M2, e1, e2, hI, s1, s2⟩ := hc.int (by decide +kernel)
  refine ⟨M2, ?_, hI (by omega), s2⟩
  rw [B_L_law_320]
  simp only [li1, li2, li3]
  rw [hN, ob_no (show i + 1 < N by omega) (by omega), ob_no (show i + 2 < N by omega) (by omega), ob_no (show i + 3 < N by omega) (by omega)]
  simp only [cl_no (show i + 1 < 2 ^ 31 by omega), cl_no (show i + 2 < 2 ^ 31 by omega), cl_no (show i + 3 < 2 ^ 31 by omega)]
  rw [e1, bindI_some, sc_N s1, sc_X s1, hN, ob_2 (show i + 1 < N by omega) (by omega), ob_2 (show i + 2 < N by omega) (by omega), ob_2 (show i + 3 < N by omega) (by omega), e2, bindI_some, if_pos rfl, B_L_law_1257, li4]
theorem law_363 (d : Nat) {B i N : Nat} {M : Mem} (I : Inv B M) (hN : sN M = N) (hi : i + 4 ≤ N) (hN2 : N ≤ 2048) (hB : B < 90000) : GoL d 363 i B M := by
  have hc : Call B M (fun M0 => XC (d + 40) jX5_sing [vR 5 0 0, vI (sX M (i + 1)), vI (sX M (i + 2))] M0) (fun M0 => XC (d + 40) jX6_sing [vR 6 0 0, vI (sX M (i + 1)), vI (sX M (i + 2))] M0) := c_sing (d + 20) _ _ I
  obtain ⟨z, M1, M2, e1, e2, hI, s1, s2⟩ := hc.int (by decide +kernel)
  refine ⟨M2, ?_, hI (by omega), s2⟩
  rw [B_L_law_363]
  simp only [li1, li2]
  rw [hN, ob_no (show i + 1 < N by omega) (by omega), ob_no (show i + 2 < N by omega) (by omega)]
  simp only [cl_no (show i + 1 < 2 ^ 31 by omega), cl_no (show i + 2 < 2 ^ 31 by omega)]
  rw [e1, bindI_some, sc_N s1, sc_X s1, hN, ob_2 (show i + 1 < N by omega) (by omega), ob_2 (show i + 2 < N by omega) (by omega), e2, bindI_some, if_pos rfl, B_L_law_1257, li4]
theorem law_396 (d : Nat) {B i N : Nat} {M : Mem} (I : Inv B M) (hN : sN M = N) (hi : i + 4 ≤ N) (hN2 : N ≤ 2048) (hB : B < 90000) : GoL d 396 i B M := by
  have hc : Call B M (fun M0 => XC (d + 40) jX5_tire [vR 5 0 0, vI (sX M (i + 1)), vI (sX M (i + 2))] M0) (fun M0 => XC (d + 40) jX6_tire [vR 6 0 0, vI (sX M (i + 1)), vI (sX M (i + 2))] M0) := c_tire (d + 20) _ _ I
  obtain ⟨z, M1, M2, e1, e2, hI, s1, s2⟩ := hc.int (by decide +kernel)
  refine ⟨M2, ?_, hI (by omega), s2⟩
  rw [B_L_law_396]
  simp only [li1, li2]
  rw [hN, ob_no (show i + 1 < N by omega) (by omega), ob_no (show i + 2 < N by omega) (by omega)]
  simp only [cl_no (show i + 1 < 2 ^ 31 by omega), cl_no (show i + 2 < 2 ^ 31 by omega)]
  rw [e1, bindI_some, sc_N s1, sc_X s1, hN, ob_2 (show i + 1 < N by omega) (by omega), ob_2 (show i + 2 < N by omega) (by omega), e2, bindI_some, if_pos rfl, B_L_law_1257, li4]
theorem law_429 (d : Nat) {B i N : Nat} {M : Mem} (I : Inv B M) (hN : sN M = N) (hi : i + 4 ≤ N) (hN2 : N ≤ 2048) (hB : B < 90000) : GoL d 429 i B M := by
  have hc : Call B M (fun M0 => XC (d + 40) jX5_stone [vR 5 0 0, vI (sX M (i + 1))] M0) (fun M0 => XC (d + 40) jX6_stone [vR 6 0 0, vI (sX M (i + 1))] M0) := c_stone (d + 20) _ I
  obtain ⟨z, M1, M2, e1, e2, hI, s1, s2⟩ := hc.int (by decide +kernel)
  refine ⟨M2, ?_, hI (by omega), s2⟩
  rw [B_L_law_429]
  simp only [li1]
  rw [hN, ob_no (show i + 1 < N by omega) (by omega)]
  simp only [cl_no (show i + 1 < 2 ^ 31 by omega)]
  rw [e1, bindI_some, sc_N s1, sc_X s1, hN, ob_2 (show i + 1 < N by omega) (by omega), e2, bindI_some, if_pos rfl, B_L_law_1257, li4]
theorem law_452 (d : Nat) {B i N : Nat} {M : Mem} (I : Inv B M) (hN : sN M = N) (hi : i + 4 ≤ N) (hN2 : N ≤ 2048) (hB : B < 90000) : GoL d 452 i B M := by
  have hc : Call B M (fun M0 => XC (d + 40) jX5_at [vR 5 0 0, vI (sX M (i + 1)), vI (sX M (i + 2))] M0) (fun M0 => XC (d + 40) jX6_at [vR 6 0 0, vI (sX M (i + 1)), vI (sX M (i + 2))] M0) := I.q (fun P h hSh hRw => q_at (d + 20) _ _ h)
  obtain ⟨z, M1, M2, e1, e2, hI, s1, s2⟩ := hc.int (by decide +kernel)
  refine ⟨M2, ?_, hI (by omega), s2⟩
  rw [B_L_law_452]
  simp only [li1, li2]
  rw [hN, ob_no (show i + 1 < N by omega) (by omega), ob_no (show i + 2 < N by omega) (by omega)]
  simp only [cl_no (show i + 1 < 2 ^ 31 by omega), cl_no (show i + 2 < 2 ^ 31 by omega)]
  rw [e1, bindI_some, sc_N s1, sc_X s1, hN, ob_2 (show i + 1 < N by omega) (by omega), ob_2 (show i + 2 < N by omega) (by omega), e2, bindI_some, if_pos rfl, B_L_law_1257, li4]
theorem law_485 (d : Nat) {B i N : Nat} {M : Mem} (I : Inv B M) (hN : sN M = N) (hi : i + 4 ≤ N) (hN2 : N ≤ 2048) (hB : B < 90000) : GoL d 485 i B M := by
  have go : ∀ b : Int32, ∃ z M1 M2, XC (d + 40) jX5_prop [vR 5 0 0, vI (sX M (i + 1)), vI b] M = some (some (vI z), M1) ∧ XC (d + 40) jX6_prop [vR 6 0 0, vI (sX M (i + 1)), vI b] M1 = some (some (vI z), M2) ∧ (B + 1 < 2 ^ 20 → Inv (B + 1) M2) ∧ M1.2.2 = M.2.2 ∧ M2.2.2 = M.2.2 := fun b => by
    have hc : Call B M (fun M0 => XC (d + 40) jX5_prop [vR 5 0 0, vI (sX M (i + 1)), vI b] M0) (fun M0 => XC (d + 40) jX6_prop [vR 6 0 0, vI (sX M (i + 1)), vI b] M0) := c_prop (d + 20) _ _ I
    exact hc.int (by decide +kernel)
  unfold GoL
  rw [B_L_law_485]
  simp only [li1, li2]
  rw [hN, ob_no (show i + 1 < N by omega) (by omega), ob_no (show i + 2 < N by omega) (by omega)]
  simp only [cl_no (show i + 1 < 2 ^ 31 by omega), cl_no (show i + 2 < 2 ^ 31 by omega)]
  by_cases e : sX M (i + 2) = 0
  · obtain ⟨z, M1, M2, e1, e2, hI, s1, s2⟩ := go 0
    refine ⟨M2, ?_, hI (by omega), s2⟩
    rw [if_pos e, B_L_law_503, B_L_law_504, e1, bindI_some]
    simp only [li1, li2]
    rw [sc_N s1, sc_X s1, hN, ob_no (show i + 1 < N by omega) (by omega), ob_no (show i + 2 < N by omega) (by omega)]
    simp only [cl_no (show i + 1 < 2 ^ 31 by omega), cl_no (show i + 2 < 2 ^ 31 by omega)]
    rw [if_pos e, B_L_law_525, B_L_law_526, e2, bindI_some, if_pos rfl, B_L_law_1257, li4]
  · obtain ⟨z, M1, M2, e1, e2, hI, s1, s2⟩ := go 1
    refine ⟨M2, ?_, hI (by omega), s2⟩
    rw [if_neg e, B_L_law_504, e1, bindI_some]
    simp only [li1, li2]
    rw [sc_N s1, sc_X s1, hN, ob_no (show i + 1 < N by omega) (by omega), ob_no (show i + 2 < N by omega) (by omega)]
    simp only [cl_no (show i + 1 < 2 ^ 31 by omega), cl_no (show i + 2 < 2 ^ 31 by omega)]
    rw [if_neg e, B_L_law_526, e2, bindI_some, if_pos rfl, B_L_law_1257, li4]
theorem law_534 (d : Nat) {B i N : Nat} {M : Mem} (I : Inv B M) (hN : sN M = N) (hi : i + 4 ≤ N) (hN2 : N ≤ 2048) (hB : B < 90000) : GoL d 534 i B M := by
  have hc : Call B M (fun M0 => XC (d + 40) jX5_told [vR 5 0 0, vI (sX M (i + 1))] M0) (fun M0 => XC (d + 40) jX6_told [vR 6 0 0, vI (sX M (i + 1))] M0) := I.q (fun P h hSh hRw => q_told (d + 20) _ h)
  obtain ⟨z, M1, M2, e1, e2, hI, s1, s2⟩ := hc.int (by decide +kernel)
  refine ⟨M2, ?_, hI (by omega), s2⟩
  rw [B_L_law_534]
  simp only [li1]
  rw [hN, ob_no (show i + 1 < N by omega) (by omega)]
  simp only [cl_no (show i + 1 < 2 ^ 31 by omega)]
  rw [e1, bindI_some, sc_N s1, sc_X s1, hN, ob_2 (show i + 1 < N by omega) (by omega), e2, bindI_some, if_pos rfl, B_L_law_1257, li4]
theorem law_557 (d : Nat) {B i N : Nat} {M : Mem} (I : Inv B M) (hN : sN M = N) (hi : i + 4 ≤ N) (hN2 : N ≤ 2048) (hB : B < 90000) : GoL d 557 i B M := by
  have hc : Call B M (fun M0 => XC (d + 40) jX5_beat [vR 5 0 0] M0) (fun M0 => XC (d + 40) jX6_beat [vR 6 0 0] M0) := c_beat (d + 20) I (by omega)
  obtain ⟨z, M1, M2, e1, e2, hI, s1, s2⟩ := hc.int (by decide +kernel)
  refine ⟨M2, ?_, hI (by omega), s2⟩
  rw [B_L_law_557, e1, bindI_some, e2, bindI_some, if_pos rfl, B_L_law_1257, li4]
theorem law_570 (d : Nat) {B i N : Nat} {M : Mem} (I : Inv B M) (hN : sN M = N) (hi : i + 4 ≤ N) (hN2 : N ≤ 2048) (hB : B < 90000) : GoL d 570 i B M := by
  have hc : Call B M (fun M0 => XC (d + 40) jX5_on [vR 5 0 0, vI (sX M (i + 1)), vI (sX M (i + 2))] M0) (fun M0 => XC (d + 40) jX6_on [vR 6 0 0, vI (sX M (i + 1)), vI (sX M (i + 2))] M0) := I.q (fun P h hSh hRw => q_on (d + 20) _ _ h)
  obtain ⟨z, M1, M2, e1, e2, hI, s1, s2⟩ := hc.int (by decide +kernel)
  refine ⟨M2, ?_, hI (by omega), s2⟩
  rw [B_L_law_570]
  simp only [li1, li2]
  rw [hN, ob_no (show i + 1 < N by omega) (by omega), ob_no (show i + 2 < N by omega) (by omega)]
  simp only [cl_no (show i + 1 < 2 ^ 31 by omega), cl_no (show i + 2 < 2 ^ 31 by omega)]
  rw [e1, bindI_some, sc_N s1, sc_X s1, hN, ob_2 (show i + 1 < N by omega) (by omega), ob_2 (show i + 2 < N by omega) (by omega), e2, bindI_some, if_pos rfl, B_L_law_1257, li4]
theorem law_603 (d : Nat) {B i N : Nat} {M : Mem} (I : Inv B M) (hN : sN M = N) (hi : i + 4 ≤ N) (hN2 : N ≤ 2048) (hB : B < 90000) : GoL d 603 i B M := by
  have hc : Call B M (fun M0 => XC (d + 40) jX5_steady [vR 5 0 0] M0) (fun M0 => XC (d + 40) jX6_steady [vR 6 0 0] M0) := I.q (fun P h hSh hRw => q_steady (d + 20)  h)
  obtain ⟨z, M1, M2, e1, e2, hI, s1, s2⟩ := hc.int (by decide +kernel)
  refine ⟨M2, ?_, hI (by omega), s2⟩
  rw [B_L_law_603, e1, bindI_some, e2, bindI_some, if_pos rfl, B_L_law_1257, li4]
theorem law_616 (d : Nat) {B i N : Nat} {M : Mem} (I : Inv B M) (hN : sN M = N) (hi : i + 4 ≤ N) (hN2 : N ≤ 2048) (hB : B < 90000) : GoL d 616 i B M := by
  have hc : Call B M (fun M0 => XC (d + 40) jX5_best [vR 5 0 0, vI (sX M (i + 1)), vI (sX M (i + 2))] M0) (fun M0 => XC (d + 40) jX6_best [vR 6 0 0, vI (sX M (i + 1)), vI (sX M (i + 2))] M0) := I.q (fun P h hSh hRw => q_best (d + 20) _ _ h)
  obtain ⟨z, M1, M2, e1, e2, hI, s1, s2⟩ := hc.int (by decide +kernel)
  refine ⟨M2, ?_, hI (by omega), s2⟩
  rw [B_L_law_616]
  simp only [li1, li2]
  rw [hN, ob_no (show i + 1 < N by omega) (by omega), ob_no (show i + 2 < N by omega) (by omega)]
  simp only [cl_no (show i + 1 < 2 ^ 31 by omega), cl_no (show i + 2 < 2 ^ 31 by omega)]
  rw [e1, bindI_some, sc_N s1, sc_X s1, hN, ob_2 (show i + 1 < N by omega) (by omega), ob_2 (show i + 2 < N by omega) (by omega), e2, bindI_some, if_pos rfl, B_L_law_1257, li4]
theorem law_649 (d : Nat) {B i N : Nat} {M : Mem} (I : Inv B M) (hN : sN M = N) (hi : i + 4 ≤ N) (hN2 : N ≤ 2048) (hB : B < 90000) : GoL d 649 i B M := by
  have hc : Call B M (fun M0 => XC (d + 40) jX5_chord [vR 5 0 0, vI (sX M (i + 1))] M0) (fun M0 => XC (d + 40) jX6_chord [vR 6 0 0, vI (sX M (i + 1))] M0) := I.q (fun P h hSh hRw => q_chord (d + 20) _ h)
  obtain ⟨z, M1, M2, e1, e2, hI, s1, s2⟩ := hc.int (by decide +kernel)
  refine ⟨M2, ?_, hI (by omega), s2⟩
  rw [B_L_law_649]
  simp only [li1]
  rw [hN, ob_no (show i + 1 < N by omega) (by omega)]
  simp only [cl_no (show i + 1 < 2 ^ 31 by omega)]
  rw [e1, bindI_some, sc_N s1, sc_X s1, hN, ob_2 (show i + 1 < N by omega) (by omega), e2, bindI_some, if_pos rfl, B_L_law_1257, li4]
theorem law_672 (d : Nat) {B i N : Nat} {M : Mem} (I : Inv B M) (hN : sN M = N) (hi : i + 4 ≤ N) (hN2 : N ≤ 2048) (hB : B < 90000) : GoL d 672 i B M := by
  have hc : Call B M (fun M0 => XC (d + 40) jX5_needed [vR 5 0 0] M0) (fun M0 => XC (d + 40) jX6_needed [vR 6 0 0] M0) := I.q (fun P h hSh hRw => q_needed (d + 20)  h)
  obtain ⟨z, M1, M2, e1, e2, hI, s1, s2⟩ := hc.int (by decide +kernel)
  refine ⟨M2, ?_, hI (by omega), s2⟩
  rw [B_L_law_672, e1, bindI_some, e2, bindI_some, if_pos rfl, B_L_law_1257, li4]
theorem law_685 (d : Nat) {B i N : Nat} {M : Mem} (I : Inv B M) (hN : sN M = N) (hi : i + 4 ≤ N) (hN2 : N ≤ 2048) (hB : B < 90000) : GoL d 685 i B M := by
  have hc : Call B M (fun M0 => XC (d + 40) jX5_spare [vR 5 0 0] M0) (fun M0 => XC (d + 40) jX6_spare [vR 6 0 0] M0) := I.q (fun P h hSh hRw => q_spare (d + 20)  h)
  obtain ⟨z, M1, M2, e1, e2, hI, s1, s2⟩ := hc.int (by decide +kernel)
  refine ⟨M2, ?_, hI (by omega), s2⟩
  rw [B_L_law_685, e1, bindI_some, e2, bindI_some, if_pos rfl, B_L_law_1257, li4]
theorem law_698 (d : Nat) {B i N : Nat} {M : Mem} (I : Inv B M) (hN : sN M = N) (hi : i + 4 ≤ N) (hN2 : N ≤ 2048) (hB : B < 90000) : GoL d 698 i B M := by
  have hc : Call B M (fun M0 => XC (d + 40) jX5_shift [vR 5 0 0, vI (sX M (i + 1)), vI (sX M (i + 2))] M0) (fun M0 => XC (d + 40) jX6_shift [vR 6 0 0, vI (sX M (i + 1)), vI (sX M (i + 2))] M0) := I.q (fun P h hSh hRw => q_shift (d + 20) _ _ h)
  obtain ⟨z, M1, M2, e1, e2, hI, s1, s2⟩ := hc.int (by decide +kernel)
  refine ⟨M2, ?_, hI (by omega), s2⟩
  rw [B_L_law_698]
  simp only [li1, li2]
  rw [hN, ob_no (show i + 1 < N by omega) (by omega), ob_no (show i + 2 < N by omega) (by omega)]
  simp only [cl_no (show i + 1 < 2 ^ 31 by omega), cl_no (show i + 2 < 2 ^ 31 by omega)]
  rw [e1, bindI_some, sc_N s1, sc_X s1, hN, ob_2 (show i + 1 < N by omega) (by omega), ob_2 (show i + 2 < N by omega) (by omega), e2, bindI_some, if_pos rfl, B_L_law_1257, li4]
theorem law_731 (d : Nat) {B i N : Nat} {M : Mem} (I : Inv B M) (hN : sN M = N) (hi : i + 4 ≤ N) (hN2 : N ≤ 2048) (hB : B < 90000) : GoL d 731 i B M := by
  have hc : Call B M (fun M0 => XC (d + 40) jX5_ill [vR 5 0 0, vI (sX M (i + 1))] M0) (fun M0 => XC (d + 40) jX6_ill [vR 6 0 0, vI (sX M (i + 1))] M0) := I.q (fun P h hSh hRw => q_ill (d + 20) _ h)
  obtain ⟨z, M1, M2, e1, e2, hI, s1, s2⟩ := hc.int (by decide +kernel)
  refine ⟨M2, ?_, hI (by omega), s2⟩
  rw [B_L_law_731]
  simp only [li1]
  rw [hN, ob_no (show i + 1 < N by omega) (by omega)]
  simp only [cl_no (show i + 1 < 2 ^ 31 by omega)]
  rw [e1, bindI_some, sc_N s1, sc_X s1, hN, ob_2 (show i + 1 < N by omega) (by omega), e2, bindI_some, if_pos rfl, B_L_law_1257, li4]
theorem law_754 (d : Nat) {B i N : Nat} {M : Mem} (I : Inv B M) (hN : sN M = N) (hi : i + 4 ≤ N) (hN2 : N ≤ 2048) (hB : B < 90000) : GoL d 754 i B M := by
  have hc : Call B M (fun M0 => XC (d + 40) jX5_canon [vR 5 0 0, vI (sX M (i + 1)), vI (sX M (i + 2))] M0) (fun M0 => XC (d + 40) jX6_canon [vR 6 0 0, vI (sX M (i + 1)), vI (sX M (i + 2))] M0) := I.q (fun P h hSh hRw => q_canon (d + 20) _ _ h)
  obtain ⟨z, M1, M2, e1, e2, hI, s1, s2⟩ := hc.int (by decide +kernel)
  refine ⟨M2, ?_, hI (by omega), s2⟩
  rw [B_L_law_754]
  simp only [li1, li2]
  rw [hN, ob_no (show i + 1 < N by omega) (by omega), ob_no (show i + 2 < N by omega) (by omega)]
  simp only [cl_no (show i + 1 < 2 ^ 31 by omega), cl_no (show i + 2 < 2 ^ 31 by omega)]
  rw [e1, bindI_some, sc_N s1, sc_X s1, hN, ob_2 (show i + 1 < N by omega) (by omega), ob_2 (show i + 2 < N by omega) (by omega), e2, bindI_some, if_pos rfl, B_L_law_1257, li4]
theorem law_787 (d : Nat) {B i N : Nat} {M : Mem} (I : Inv B M) (hN : sN M = N) (hi : i + 4 ≤ N) (hN2 : N ≤ 2048) (hB : B < 90000) : GoL d 787 i B M := by
  have hc : Call B M (fun M0 => XC (d + 40) jX5_props [vR 5 0 0, vI (sX M (i + 1))] M0) (fun M0 => XC (d + 40) jX6_props [vR 6 0 0, vI (sX M (i + 1))] M0) := I.q (fun P h hSh hRw => q_props (d + 20) _ h)
  obtain ⟨z, M1, M2, e1, e2, hI, s1, s2⟩ := hc.int (by decide +kernel)
  refine ⟨M2, ?_, hI (by omega), s2⟩
  rw [B_L_law_787]
  simp only [li1]
  rw [hN, ob_no (show i + 1 < N by omega) (by omega)]
  simp only [cl_no (show i + 1 < 2 ^ 31 by omega)]
  rw [e1, bindI_some, sc_N s1, sc_X s1, hN, ob_2 (show i + 1 < N by omega) (by omega), e2, bindI_some, if_pos rfl, B_L_law_1257, li4]
theorem law_810 (d : Nat) {B i N : Nat} {M : Mem} (I : Inv B M) (hN : sN M = N) (hi : i + 4 ≤ N) (hN2 : N ≤ 2048) (hB : B < 90000) : GoL d 810 i B M := by
  have hc : Call B M (fun M0 => XC (d + 40) jX5_critical [vR 5 0 0, vI (sX M (i + 1))] M0) (fun M0 => XC (d + 40) jX6_critical [vR 6 0 0, vI (sX M (i + 1))] M0) := I.q (fun P h hSh hRw => q_critical (d + 20) _ h)
  obtain ⟨z, M1, M2, e1, e2, hI, s1, s2⟩ := hc.int (by decide +kernel)
  refine ⟨M2, ?_, hI (by omega), s2⟩
  rw [B_L_law_810]
  simp only [li1]
  rw [hN, ob_no (show i + 1 < N by omega) (by omega)]
  simp only [cl_no (show i + 1 < 2 ^ 31 by omega)]
  rw [e1, bindI_some, sc_N s1, sc_X s1, hN, ob_2 (show i + 1 < N by omega) (by omega), e2, bindI_some, if_pos rfl, B_L_law_1257, li4]
theorem law_833 (d : Nat) {B i N : Nat} {M : Mem} (I : Inv B M) (hN : sN M = N) (hi : i + 4 ≤ N) (hN2 : N ≤ 2048) (hB : B < 90000) : GoL d 833 i B M := by
  have hc : Call B M (fun M0 => XC (d + 40) jX5_load [vR 5 0 0] M0) (fun M0 => XC (d + 40) jX6_load [vR 6 0 0] M0) := I.q (fun P h hSh hRw => q_load (d + 20)  h)
  obtain ⟨z, M1, M2, e1, e2, hI, s1, s2⟩ := hc.int (by decide +kernel)
  refine ⟨M2, ?_, hI (by omega), s2⟩
  rw [B_L_law_833, e1, bindI_some, e2, bindI_some, if_pos rfl, B_L_law_1257, li4]
theorem law_846 (d : Nat) {B i N : Nat} {M : Mem} (I : Inv B M) (hN : sN M = N) (hi : i + 4 ≤ N) (hN2 : N ≤ 2048) (hB : B < 90000) : GoL d 846 i B M := by
  have hc : Call B M (fun M0 => XC (d + 40) jX5_dust [vR 5 0 0, vI (sX M (i + 1)), vI (sX M (i + 2))] M0) (fun M0 => XC (d + 40) jX6_dust [vR 6 0 0, vI (sX M (i + 1)), vI (sX M (i + 2))] M0) := c_dust (d + 20) _ _ I
  obtain ⟨z, M1, M2, e1, e2, hI, s1, s2⟩ := hc.int (by decide +kernel)
  refine ⟨M2, ?_, hI (by omega), s2⟩
  rw [B_L_law_846]
  simp only [li1, li2]
  rw [hN, ob_no (show i + 1 < N by omega) (by omega), ob_no (show i + 2 < N by omega) (by omega)]
  simp only [cl_no (show i + 1 < 2 ^ 31 by omega), cl_no (show i + 2 < 2 ^ 31 by omega)]
  rw [e1, bindI_some, sc_N s1, sc_X s1, hN, ob_2 (show i + 1 < N by omega) (by omega), ob_2 (show i + 2 < N by omega) (by omega), e2, bindI_some, if_pos rfl, B_L_law_1257, li4]
theorem law_879 (d : Nat) {B i N : Nat} {M : Mem} (I : Inv B M) (hN : sN M = N) (hi : i + 4 ≤ N) (hN2 : N ≤ 2048) (hB : B < 90000) : GoL d 879 i B M := by
  have hc : Call B M (fun M0 => XC (d + 40) jX5_flat [vR 5 0 0] M0) (fun M0 => XC (d + 40) jX6_flat [vR 6 0 0] M0) := I.q (fun P h hSh hRw => q_flat (d + 20)  h hSh hRw)
  obtain ⟨z, M1, M2, e1, e2, hI, s1, s2⟩ := hc.int (by decide +kernel)
  refine ⟨M2, ?_, hI (by omega), s2⟩
  rw [B_L_law_879, e1, bindI_some, e2, bindI_some, if_pos rfl, B_L_law_1257, li4]
theorem law_892 (d : Nat) {B i N : Nat} {M : Mem} (I : Inv B M) (hN : sN M = N) (hi : i + 4 ≤ N) (hN2 : N ≤ 2048) (hB : B < 90000) : GoL d 892 i B M := by
  have hc : Call B M (fun M0 => XC (d + 40) jX5_order [vR 5 0 0, vI (sX M (i + 1))] M0) (fun M0 => XC (d + 40) jX6_order [vR 6 0 0, vI (sX M (i + 1))] M0) := I.q (fun P h hSh hRw => q_order (d + 20) _ h)
  obtain ⟨z, M1, M2, e1, e2, hI, s1, s2⟩ := hc.int (by decide +kernel)
  refine ⟨M2, ?_, hI (by omega), s2⟩
  rw [B_L_law_892]
  simp only [li1]
  rw [hN, ob_no (show i + 1 < N by omega) (by omega)]
  simp only [cl_no (show i + 1 < 2 ^ 31 by omega)]
  rw [e1, bindI_some, sc_N s1, sc_X s1, hN, ob_2 (show i + 1 < N by omega) (by omega), e2, bindI_some, if_pos rfl, B_L_law_1257, li4]
theorem law_915 (d : Nat) {B i N : Nat} {M : Mem} (I : Inv B M) (hN : sN M = N) (hi : i + 4 ≤ N) (hN2 : N ≤ 2048) (hB : B < 90000) : GoL d 915 i B M := by
  have hc : Call B M (fun M0 => XC (d + 40) jX5_odds [vR 5 0 0, vI (sX M (i + 1))] M0) (fun M0 => XC (d + 40) jX6_odds [vR 6 0 0, vI (sX M (i + 1))] M0) := I.q (fun P h hSh hRw => q_odds (d + 20) _ h)
  obtain ⟨z, M1, M2, e1, e2, hI, s1, s2⟩ := hc.long (by decide +kernel)
  refine ⟨M2, ?_, hI (by omega), s2⟩
  rw [B_L_law_915]
  simp only [li1]
  rw [hN, ob_no (show i + 1 < N by omega) (by omega)]
  simp only [cl_no (show i + 1 < 2 ^ 31 by omega)]
  rw [e1, bindL_some, sc_N s1, sc_X s1, hN, ob_2 (show i + 1 < N by omega) (by omega), e2, bindL_some, lg_self, if_pos rfl, B_L_law_1257, li4]
theorem law_939 (d : Nat) {B i N : Nat} {M : Mem} (I : Inv B M) (hN : sN M = N) (hi : i + 4 ≤ N) (hN2 : N ≤ 2048) (hB : B < 90000) : GoL d 939 i B M := by
  have hc : Call B M (fun M0 => XC (d + 40) jX5_mean [vR 5 0 0, vI (sX M (i + 1)), vI (sX M (i + 2))] M0) (fun M0 => XC (d + 40) jX6_mean [vR 6 0 0, vI (sX M (i + 1)), vI (sX M (i + 2))] M0) := I.q (fun P h hSh hRw => q_mean (d + 20) _ _ h)
  obtain ⟨z, M1, M2, e1, e2, hI, s1, s2⟩ := hc.long (by decide +kernel)
  refine ⟨M2, ?_, hI (by omega), s2⟩
  rw [B_L_law_939]
  simp only [li1, li2]
  rw [hN, ob_no (show i + 1 < N by omega) (by omega), ob_no (show i + 2 < N by omega) (by omega)]
  simp only [cl_no (show i + 1 < 2 ^ 31 by omega), cl_no (show i + 2 < 2 ^ 31 by omega)]
  rw [e1, bindL_some, sc_N s1, sc_X s1, hN, ob_2 (show i + 1 < N by omega) (by omega), ob_2 (show i + 2 < N by omega) (by omega), e2, bindL_some, lg_self, if_pos rfl, B_L_law_1257, li4]
theorem law_973 (d : Nat) {B i N : Nat} {M : Mem} (I : Inv B M) (hN : sN M = N) (hi : i + 4 ≤ N) (hN2 : N ≤ 2048) (hB : B < 90000) : GoL d 973 i B M := by
  have hc : Call B M (fun M0 => XC (d + 40) jX5_wage [vR 5 0 0, vI (sX M (i + 1)), vI (sX M (i + 2))] M0) (fun M0 => XC (d + 40) jX6_wage [vR 6 0 0, vI (sX M (i + 1)), vI (sX M (i + 2))] M0) := I.q (fun P h hSh hRw => q_wage (d + 20) _ _ h)
  obtain ⟨z, M1, M2, e1, e2, hI, s1, s2⟩ := hc.long (by decide +kernel)
  refine ⟨M2, ?_, hI (by omega), s2⟩
  rw [B_L_law_973]
  simp only [li1, li2]
  rw [hN, ob_no (show i + 1 < N by omega) (by omega), ob_no (show i + 2 < N by omega) (by omega)]
  simp only [cl_no (show i + 1 < 2 ^ 31 by omega), cl_no (show i + 2 < 2 ^ 31 by omega)]
  rw [e1, bindL_some, sc_N s1, sc_X s1, hN, ob_2 (show i + 1 < N by omega) (by omega), ob_2 (show i + 2 < N by omega) (by omega), e2, bindL_some, lg_self, if_pos rfl, B_L_law_1257, li4]
theorem law_1007 (d : Nat) {B i N : Nat} {M : Mem} (I : Inv B M) (hN : sN M = N) (hi : i + 4 ≤ N) (hN2 : N ≤ 2048) (hB : B < 90000) : GoL d 1007 i B M := by
  have hc : Call B M (fun M0 => XC (d + 40) jX5_plan [vR 5 0 0, vI (sX M (i + 1)), vI (sX M (i + 2))] M0) (fun M0 => XC (d + 40) jX6_plan [vR 6 0 0, vI (sX M (i + 1)), vI (sX M (i + 2))] M0) := c_plan (d + 20) _ _ I
  obtain ⟨z, M1, M2, e1, e2, hI, s1, s2⟩ := hc.int (by decide +kernel)
  refine ⟨M2, ?_, hI (by omega), s2⟩
  rw [B_L_law_1007]
  simp only [li1, li2]
  rw [hN, ob_no (show i + 1 < N by omega) (by omega), ob_no (show i + 2 < N by omega) (by omega)]
  simp only [cl_no (show i + 1 < 2 ^ 31 by omega), cl_no (show i + 2 < 2 ^ 31 by omega)]
  rw [e1, bindI_some, sc_N s1, sc_X s1, hN, ob_2 (show i + 1 < N by omega) (by omega), ob_2 (show i + 2 < N by omega) (by omega), e2, bindI_some, if_pos rfl, B_L_law_1257, li4]
theorem law_1040 (d : Nat) {B i N : Nat} {M : Mem} (I : Inv B M) (hN : sN M = N) (hi : i + 4 ≤ N) (hN2 : N ≤ 2048) (hB : B < 90000) : GoL d 1040 i B M := by
  have hc : Call B M (fun M0 => XC (d + 40) jX5_planned [vR 5 0 0, vI (sX M (i + 1))] M0) (fun M0 => XC (d + 40) jX6_planned [vR 6 0 0, vI (sX M (i + 1))] M0) := I.q (fun P h hSh hRw => q_planned (d + 20) _ h hSh hRw)
  obtain ⟨z, M1, M2, e1, e2, hI, s1, s2⟩ := hc.int (by decide +kernel)
  refine ⟨M2, ?_, hI (by omega), s2⟩
  rw [B_L_law_1040]
  simp only [li1]
  rw [hN, ob_no (show i + 1 < N by omega) (by omega)]
  simp only [cl_no (show i + 1 < 2 ^ 31 by omega)]
  rw [e1, bindI_some, sc_N s1, sc_X s1, hN, ob_2 (show i + 1 < N by omega) (by omega), e2, bindI_some, if_pos rfl, B_L_law_1257, li4]
theorem law_1063 (d : Nat) {B i N : Nat} {M : Mem} (I : Inv B M) (hN : sN M = N) (hi : i + 4 ≤ N) (hN2 : N ≤ 2048) (hB : B < 90000) : GoL d 1063 i B M := by
  have hc : Call B M (fun M0 => XC (d + 40) jX5_book [vR 5 0 0, vI (sX M (i + 1)), vI (sX M (i + 2))] M0) (fun M0 => XC (d + 40) jX6_book [vR 6 0 0, vI (sX M (i + 1)), vI (sX M (i + 2))] M0) := c_book (d + 20) _ _ I
  obtain ⟨z, M1, M2, e1, e2, hI, s1, s2⟩ := hc.int (by decide +kernel)
  refine ⟨M2, ?_, hI (by omega), s2⟩
  rw [B_L_law_1063]
  simp only [li1, li2]
  rw [hN, ob_no (show i + 1 < N by omega) (by omega), ob_no (show i + 2 < N by omega) (by omega)]
  simp only [cl_no (show i + 1 < 2 ^ 31 by omega), cl_no (show i + 2 < 2 ^ 31 by omega)]
  rw [e1, bindI_some, sc_N s1, sc_X s1, hN, ob_2 (show i + 1 < N by omega) (by omega), ob_2 (show i + 2 < N by omega) (by omega), e2, bindI_some, if_pos rfl, B_L_law_1257, li4]
theorem law_1096 (d : Nat) {B i N : Nat} {M : Mem} (I : Inv B M) (hN : sN M = N) (hi : i + 4 ≤ N) (hN2 : N ≤ 2048) (hB : B < 90000) : GoL d 1096 i B M := by
  have hc : Call B M (fun M0 => XC (d + 40) jX5_looked [vR 5 0 0] M0) (fun M0 => XC (d + 40) jX6_looked [vR 6 0 0] M0) := I.q (fun P h hSh hRw => q_looked (d + 20)  h hSh hRw)
  obtain ⟨z, M1, M2, e1, e2, hI, s1, s2⟩ := hc.int (by decide +kernel)
  refine ⟨M2, ?_, hI (by omega), s2⟩
  rw [B_L_law_1096, e1, bindI_some, e2, bindI_some, if_pos rfl, B_L_law_1257, li4]
theorem law_1109 (d : Nat) {B i N : Nat} {M : Mem} (I : Inv B M) (hN : sN M = N) (hi : i + 4 ≤ N) (hN2 : N ≤ 2048) (hB : B < 90000) : GoL d 1109 i B M := by
  have hc : Call B M (fun M0 => XC (d + 40) jX5_act [vR 5 0 0, vI (sX M (i + 1)), vI (sX M (i + 2)), vI (sX M (i + 3))] M0) (fun M0 => XC (d + 40) jX6_act [vR 6 0 0, vI (sX M (i + 1)), vI (sX M (i + 2)), vI (sX M (i + 3))] M0) := c_act (d + 20) _ _ _ I
  obtain ⟨z, M1, M2, e1, e2, hI, s1, s2⟩ := hc.int (by decide +kernel)
  refine ⟨M2, ?_, hI (by omega), s2⟩
  rw [B_L_law_1109]
  simp only [li1, li2, li3]
  rw [hN, ob_no (show i + 1 < N by omega) (by omega), ob_no (show i + 2 < N by omega) (by omega), ob_no (show i + 3 < N by omega) (by omega)]
  simp only [cl_no (show i + 1 < 2 ^ 31 by omega), cl_no (show i + 2 < 2 ^ 31 by omega), cl_no (show i + 3 < 2 ^ 31 by omega)]
  rw [e1, bindI_some, sc_N s1, sc_X s1, hN, ob_2 (show i + 1 < N by omega) (by omega), ob_2 (show i + 2 < N by omega) (by omega), ob_2 (show i + 3 < N by omega) (by omega), e2, bindI_some, if_pos rfl, B_L_law_1257, li4]
theorem law_1152 (d : Nat) {B i N : Nat} {M : Mem} (I : Inv B M) (hN : sN M = N) (hi : i + 4 ≤ N) (hN2 : N ≤ 2048) (hB : B < 90000) : GoL d 1152 i B M := by
  have hc : Call B M (fun M0 => XC (d + 40) jX5_trace [vR 5 0 0, vI (sX M (i + 1))] M0) (fun M0 => XC (d + 40) jX6_trace [vR 6 0 0, vI (sX M (i + 1))] M0) := c_trace (d + 20) _ I
  obtain ⟨z, M1, M2, e1, e2, hI, s1, s2⟩ := hc.int (by decide +kernel)
  refine ⟨M2, ?_, hI (by omega), s2⟩
  rw [B_L_law_1152]
  simp only [li1]
  rw [hN, ob_no (show i + 1 < N by omega) (by omega)]
  simp only [cl_no (show i + 1 < 2 ^ 31 by omega)]
  rw [e1, bindI_some, sc_N s1, sc_X s1, hN, ob_2 (show i + 1 < N by omega) (by omega), e2, bindI_some, if_pos rfl, B_L_law_1257, li4]
theorem law_1175 (d : Nat) {B i N : Nat} {M : Mem} (I : Inv B M) (hN : sN M = N) (hi : i + 4 ≤ N) (hN2 : N ≤ 2048) (hB : B < 90000) : GoL d 1175 i B M := by
  have hc : Call B M (fun M0 => XC (d + 40) jX5_as [vR 5 0 0, vI (sX M (i + 1)), vI (sX M (i + 2))] M0) (fun M0 => XC (d + 40) jX6_as [vR 6 0 0, vI (sX M (i + 1)), vI (sX M (i + 2))] M0) := c_as (d + 20) _ _ I
  obtain ⟨z, M1, M2, e1, e2, hI, s1, s2⟩ := hc.int (by decide +kernel)
  refine ⟨M2, ?_, hI (by omega), s2⟩
  rw [B_L_law_1175]
  simp only [li1, li2]
  rw [hN, ob_no (show i + 1 < N by omega) (by omega), ob_no (show i + 2 < N by omega) (by omega)]
  simp only [cl_no (show i + 1 < 2 ^ 31 by omega), cl_no (show i + 2 < 2 ^ 31 by omega)]
  rw [e1, bindI_some, sc_N s1, sc_X s1, hN, ob_2 (show i + 1 < N by omega) (by omega), ob_2 (show i + 2 < N by omega) (by omega), e2, bindI_some, if_pos rfl, B_L_law_1257, li4]
theorem law_1208 (d : Nat) {B i N : Nat} {M : Mem} (I : Inv B M) (hN : sN M = N) (hi : i + 4 ≤ N) (hN2 : N ≤ 2048) (hB : B < 90000) : GoL d 1208 i B M := by
  have hc : Call B M (fun M0 => XC (d + 40) jX5_image [vR 5 0 0] M0) (fun M0 => XC (d + 40) jX6_image [vR 6 0 0] M0) := c_image (d + 20)  I
  obtain ⟨z, M1, M2, e1, e2, hI, s1, s2⟩ := hc.int (by decide +kernel)
  refine ⟨M2, ?_, hI (by omega), s2⟩
  rw [B_L_law_1208, e1, bindI_some, e2, bindI_some, if_pos rfl, B_L_law_1257, li4]
theorem law_1221 (d : Nat) {B i N : Nat} {M : Mem} (I : Inv B M) (hN : sN M = N) (hi : i + 4 ≤ N) (hN2 : N ≤ 2048) (hB : B < 90000) : GoL d 1221 i B M := by
  have hc : Call B M (fun M0 => XC (d + 40) jX5_undo [vR 5 0 0] M0) (fun M0 => XC (d + 40) jX6_undo [vR 6 0 0] M0) := c_undo (d + 20)  I
  obtain ⟨z, M1, M2, e1, e2, hI, s1, s2⟩ := hc.int (by decide +kernel)
  refine ⟨M2, ?_, hI (by omega), s2⟩
  rw [B_L_law_1221, e1, bindI_some, e2, bindI_some, if_pos rfl, B_L_law_1257, li4]
theorem law_1234 (d : Nat) {B i N : Nat} {M : Mem} (I : Inv B M) (hN : sN M = N) (hi : i + 4 ≤ N) (hN2 : N ≤ 2048) (hB : B < 90000) : GoL d 1234 i B M := by
  have hc : Call B M (fun M0 => XC (d + 40) jX5_count [vR 5 0 0, vI (sX M (i + 1))] M0) (fun M0 => XC (d + 40) jX6_count [vR 6 0 0, vI (sX M (i + 1))] M0) := c_count (d + 20) _ I
  obtain ⟨z, M1, M2, e1, e2, hI, s1, s2⟩ := hc.int (by decide +kernel)
  refine ⟨M2, ?_, hI (by omega), s2⟩
  rw [B_L_law_1234]
  simp only [li1]
  rw [hN, ob_no (show i + 1 < N by omega) (by omega)]
  simp only [cl_no (show i + 1 < 2 ^ 31 by omega)]
  rw [e1, bindI_some, sc_N s1, sc_X s1, hN, ob_2 (show i + 1 < N by omega) (by omega), e2, bindI_some, if_pos rfl, B_L_law_1257, li4]
theorem law_1257 (d : Nat) {B i N : Nat} {M : Mem} (I : Inv B M) (hN : sN M = N) (hi : i + 4 ≤ N) (hN2 : N ≤ 2048) (hB : B < 90000) : GoL d 1257 i B M := ⟨M, by rw [B_L_law_1257, li4], I.up (by omega), rfl⟩
