/-! canon -/
theorem if_rf {α : Type} {x : Int32} {a b : α} : (if x = x then a else b) = a := if_pos rfl
def rdQ (s : St) (i : Nat) : St := fun k => if 1 ≤ k ∧ k < 1 + i then rdV s (k - 1) else s k
theorem rdQ_0 (s : St) : rdQ s 0 = s := by
  funext k
  unfold rdQ
  exact if_neg (fun q => by omega)
theorem rdQ_n (s : St) : rdQ s (nsS s) = rdP s 0 := by
  funext k
  unfold rdQ rdP
  rfl
theorem rdQ_step (s : St) (i : Nat) : rdQ s (i + 1) = upd (rdQ s i) (1 + i) (rdV s i) := by
  funext k
  unfold rdQ
  by_cases e : k = 1 + i
  · subst e
    rw [if_pos ⟨by omega, by omega⟩, upd_same]
    have : 1 + i - 1 = i := by omega
    rw [this]
  · rw [upd_ne e]
    by_cases c : 1 ≤ k ∧ k < 1 + i
    · rw [if_pos c, if_pos ⟨c.1, by omega⟩]
    · rw [if_neg c, if_neg (fun q => c ⟨q.1, by omega⟩)]
theorem TR.A18 {M0 M : Mem} {B : Nat} {s z : St} {P : List Cl} (h : TR M0 B s z P M) (f : Nat → Int32) : TR M0 B s z P (rsA M 18 f) := ⟨h.1.tr (Rf.A (Or.inl ⟨rfl, by omega⟩)), (rA_ne _ _ (by decide)).trans h.2.1, h.2.2⟩
theorem TR.goesRound (d : Nat) {M0 M : Mem} {B : Nat} {s z : St} {P : List Cl} (h : TR M0 B s z P M) : ∃ M', XC (d + 3) jX6_goesRound [vR 6 0 0] M = some (none, M') ∧ TR M0 B s (rdP z 0) P M' := by
  have hw := h.2.2.2.2
  obtain ⟨hn, h6⟩ := hw.ns
  rw [E_X6_goesRound, h.2.1, hn]
  obtain ⟨M1, e1, T1, F1⟩ := loop_ex (fun i (zM : Mem) => X (d + 2) jX6_goesRound 10 [some (vR 6 0 0), some (vI (nI (nsS z))), some (vI (nI i)), none] [] zM) (fun i zM => TR M0 B s z P zM ∧ ∀ j, j < i → rA zM 18 j = z (1 + j)) (nsS z) M ⟨h, fun j hj => absurd hj (by omega)⟩ (fun i zM hi I => by
    obtain ⟨zT, zF⟩ := I
    try dsimp only
    rw [B_X6_goesRound_10, ge_no hi (by omega), la1, ob_no (by omega) (by omega), ob_no (by omega) (by omega), cl_no (by omega), cl_no (by omega), nI_1]
    refine ⟨_, rfl, zT.A18 _, fun j hj => ?_⟩
    rw [rA_same]
    by_cases q : j = i
    · subst q; rw [upd_same, zT.2.1]
    · rw [upd_ne q]; exact zF j (by omega))
  have e1' : X (d + 2) jX6_goesRound 10 [some (vR 6 0 0), some (vI (nI (nsS z))), some (vI 0), none] [] M = _ := e1
  rw [e1']
  try dsimp only
  rw [B_X6_goesRound_10, le_self, B_X6_goesRound_35]
  obtain ⟨M2, e2, T2, F2⟩ := loop_ex (fun i (zM : Mem) => X (d + 2) jX6_goesRound 37 [some (vR 6 0 0), some (vI (nI (nsS z))), some (vI (nI i)), none] [] zM) (fun i zM => TR M0 B s (rdQ z i) P zM ∧ rA zM 18 = rA M1 18) (nsS z) M1 ⟨by rw [rdQ_0]; exact T1, rfl⟩ (fun i zM hi I => by
    obtain ⟨zT, zF⟩ := I
    have hi6 : i < 6 := by omega
    try dsimp only
    have hm : (i + nsS z - 1) % nsS z < nsS z := Nat.mod_lt _ (by omega)
    have em : nI i + nI (nsS z) - 1 = nI (i + nsS z - 1) := by rw [nI_add]; exact nI_sub (a := i + nsS z) (b := 1) (by omega)
    have ec : ∀ x, canS (rdQ z i) i x ↔ canS z i x := fun x => by
      have : rdQ z i (39 + i) = z (39 + i) := if_neg (fun q => by omega)
      unfold canS hiS
      rw [this]
    have ev : rdV z i = if canS z i (z (1 + (i + nsS z - 1) % nsS z)) then z (1 + (i + nsS z - 1) % nsS z) else -1 := rfl
    have nx := zT.note hi6 (rdV_ok hw hi6)
    rw [← rdQ_step] at nx
    rw [B_X6_goesRound_37, ge_no hi (by omega), if_neg (nI_ne0 (by omega) (by omega)), em, rem_n (by omega) (by omega) (by omega), ob_no (by omega) (by omega), cl_no (by omega), zF, F1 _ hm]
    try dsimp only
    rw [X6_canSing d zT.2.2.2.2 zT.2.1 hi6, bindI_some]
    try dsimp only
    by_cases c : canS z i (z (1 + (i + nsS z - 1) % nsS z))
    · rw [if_pos c] at ev
      rw [ev] at nx
      rw [if_pos ((ec _).mpr c), ne_10, B_X6_goesRound_76, la1, ob_no (by omega) (by omega), cl_no (by omega), nI_1]
      refine ⟨_, rfl, nx, ?_⟩
      rw [rA_ne _ _ (by decide)]; exact zF
    · rw [if_neg c] at ev
      rw [ev] at nx
      rw [if_neg (fun q => c ((ec _).mp q)), if_rf, B_X6_goesRound_75, B_X6_goesRound_76, la1, ob_no (by omega) (by omega), cl_no (by omega), nI_1]
      refine ⟨_, rfl, nx, ?_⟩
      rw [rA_ne _ _ (by decide)]; exact zF)
  have e2' : X (d + 2) jX6_goesRound 37 [some (vR 6 0 0), some (vI (nI (nsS z))), some (vI 0), none] [] M1 = _ := e2
  rw [e2']
  try dsimp only
  rw [B_X6_goesRound_37, le_self, B_X6_goesRound_83]
  rw [rdQ_n] at T2
  exact ⟨_, rfl, T2⟩
theorem TC.round (d : Nat) {M0 M : Mem} {B : Nat} {z : St} {P : List Cl} (h : TC M0 B z P M) : ∃ M', XC (d + 3) jX1_goRound [vR 1 1 0] M = some (none, M') ∧ TC M0 B (rdP z 0) P M' := by
  obtain ⟨D0, hC, hH, hw⟩ := h
  obtain ⟨M', e, D, F⟩ := X1_goRound d 1 M hw hC
  exact ⟨M', e, D0.tr (D.mono chg_SCR), F, hH.ch D, (rdP_ok hw 0).1⟩
def caN (P : List Cl) (s : St) (n : Nat) : St := itr (fun _ z => rdP (goS P z 63) 0) n s
def caL (P : List Cl) (s : St) (n : Nat) : Nat := itr (fun k l => if nowS P (caN P s k) < l then nowS P (caN P s k) else l) n (nowS P s)
theorem caN_ok {B : Nat} {s : St} (hs : Wf B s) (P : List Cl) : ∀ n, Wf (B + n) (caN P s n)
  | 0 => hs
  | n + 1 => (rdP_ok (goS_ok (caN_ok hs P n) P 63).1 0).1
theorem caL_le {B : Nat} (hB : B < 2 ^ 29) {s : St} (hs : Wf B s) {P : List Cl} (hP : WfP P) {n : Nat} (hn : n ≤ 60) : caL P s n ≤ 75600 := itr_inv (fun _ l => l ≤ 75600) n (hs.now (by omega) hP) (fun i l hi hl => by
  have := (caN_ok hs P i).now (by omega) hP
  try dsimp only
  split <;> omega)
def caR (P : List Cl) (s : St) (k : Nat) : Int32 := if k = 0 then 100000000 else nI (caL P s k)
theorem q_canon (d : Nat) (x y : Int32) {B : Nat} {s : St} {P : List Cl} {M : Mem} (h : QC B s P M) : Ans M s (XC (d + 20) jX5_canon [vR 5 0 0, vI x, vI y] M) (fun N => XC (d + 20) jX6_canon [vR 6 0 0, vI x, vI y] N) := by
  obtain ⟨hB, hs, hC, hH, hR⟩ := h
  by_cases b : 0 ≤ y ∧ y ≤ 1
  · have c11 : XC (d + 20) jX5_canon [vR 5 0 0, vI x, vI y] M = if 1 ≤ x ∧ x ≤ 30 then X (d + 19) jX5_canon 25 [some (vR 5 0 0), some (vI x), some (vI y), none, none] [] M else some (some (vI (-2)), M) := by
      rw [E_X5_canon, rng, if_pos b, B_X5_canon_11, rng, B_X5_canon_22]
    have r11 : ∀ N, XC (d + 20) jX6_canon [vR 6 0 0, vI x, vI y] N = if 1 ≤ x ∧ x ≤ 30 then X (d + 19) jX6_canon 24 [some (vR 6 0 0), some (vI x), some (vI y), none, none, none] [] N else some (some (vI (-2)), N) := fun N => by
      rw [E_X6_canon, X6_in, bindI_some, if_pos b, ne_10, B_X6_canon_11, X6_in, bindI_some]
      by_cases q : 1 ≤ x ∧ x ≤ 30
      · rw [if_pos q, if_pos q, ne_10]
      · rw [if_neg q, if_neg q, eq_00]
    by_cases q : 1 ≤ x ∧ x ≤ 30
    · obtain ⟨n, hn, rfl⟩ := in_le (n := 30) (by omega) rfl ⟨Int32.le_trans (by decide) q.1, q.2⟩
      have hn1 : 1 ≤ n := by
        have := (nI_leI (a := 1) (b := n) (by omega) (by omega)).mp q.1
        omega
      obtain ⟨M1, e1, T1⟩ := TC.become (d + 18) hs hC hH
      obtain ⟨M2, e2, T2, _⟩ := T1.allNow (d + 13) (by omega)
      obtain ⟨M3, e3, T3⟩ := loop_ex (fun i (zM : Mem) => X (d + 19) jX5_canon 47 [some (vR 5 0 0), some (vI (nI n)), some (vI y), some (vI (nI (caL P s i))), some (vI (nI i))] [] zM) (fun i zM => TC M (B + i) (caN P s i) P zM) n M2 T2 (fun i zM hi zT => by
        obtain ⟨m1, f1, t1, _⟩ := zT.allNow (d + 13) (by omega)
        obtain ⟨m2, f2, t2⟩ := t1.beat (d + 13) (by omega)
        obtain ⟨m3, f3, t3⟩ := t2.round (d + 16)
        refine ⟨m3, ?_, t3⟩
        have l1 := caL_le hB hs hH.2.2 (n := i) (by omega)
        have l2 := (caN_ok hs P i).now (by omega) hH.2.2
        have es : caL P s (i + 1) = if nowS P (caN P s i) < caL P s i then nowS P (caN P s i) else caL P s i := rfl
        try dsimp only
        rw [B_X5_canon_47, ge_no hi (by omega), f1, bindI_some]
        try dsimp only
        rw [f2, bindI_some]
        try dsimp only
        rw [f3, bindV_some, nI_1, es]
        by_cases w : nowS P (caN P s i) < caL P s i
        · rw [if_pos w, if_pos (nI_lt w (by omega))]
        · rw [if_neg w, if_neg (nI_nlt (by omega) (by omega))])
      have cls : XC (d + 20) jX5_canon [vR 5 0 0, vI (nI n), vI y] M = X (d + 19) jX5_canon 86 [some (vR 5 0 0), none, some (vI y), some (vI (nI (caL P s n))), none] [] M3 := by
        rw [c11, if_pos q, B_X5_canon_25, e1, bindV_some, e2, bindI_some]
        refine Eq.trans e3 ?_
        try dsimp only
        rw [B_X5_canon_47, le_self]
      refine ⟨vI (if y = 0 then nI (faS (caN P s n)) else nI (caL P s n)), M3, ?_, T3.1, fun N hN => ?_⟩
      · rw [cls, B_X5_canon_86]
        by_cases w : y = 0
        · rw [if_pos w, if_pos w, X1_countFallen (d + 18) 1 M3 (caN_ok hs P n) T3.2.1, bindI_some, B_X5_canon_101]
        · rw [if_neg w, if_neg w, B_X5_canon_100, B_X5_canon_101]
      · obtain ⟨N1, g1, K, U1⟩ := TR.keeps (d + 18) hs hN hR
        obtain ⟨N3, g3, U3⟩ := loop_ex (fun i (zM : Mem) => X (d + 19) jX6_canon 34 [some (vR 6 0 0), some (vI (nI n)), some (vI y), some (vI (caR P s i)), some (vI (nI i)), none] [] zM) (fun i zM => TR N1 (B + i) s (caN P s i) P zM) n N1 U1 (fun i zM hi zT => by
          obtain ⟨m1, f1, t1, _⟩ := zT.allNow (d + 13) (by omega)
          obtain ⟨m2, f2, t2⟩ := t1.goes (d + 12) (by omega)
          obtain ⟨m3, f3, t3⟩ := t2.goesRound (d + 16)
          refine ⟨m3, ?_, t3⟩
          have l1 := caL_le hB hs hH.2.2 (n := i) (by omega)
          have l2 := (caN_ok hs P i).now (by omega) hH.2.2
          have es : caL P s (i + 1) = if nowS P (caN P s i) < caL P s i then nowS P (caN P s i) else caL P s i := rfl
          have er : caR P s (i + 1) = nI (caL P s (i + 1)) := if_neg (by omega)
          have go : ∀ v, X (d + 19) jX6_canon 58 [some (vR 6 0 0), some (vI (nI n)), some (vI y), none, some (vI (nI i)), none] [vI v] m1 = X (d + 19) jX6_canon 34 [some (vR 6 0 0), some (vI (nI n)), some (vI y), some (vI v), some (vI (nI (i + 1))), none] [] m3 := fun v => by
            rw [B_X6_canon_58, f2, bindI_some, f3, bindV_some, nI_1]
          try dsimp only
          rw [B_X6_canon_34, ge_no hi (by omega), f1, bindI_some, er, es]
          by_cases z0 : i = 0
          · subst z0
            have c1 : ¬ caR P s 0 ≤ nI (nowS P (caN P s 0)) := nI_ge (b := 100000000) (by omega) (by omega)
            have c2 : ¬ nowS P (caN P s 0) < caL P s 0 := Nat.lt_irrefl _
            rw [if_neg c1, go, if_neg c2]
            rfl
          · have e0 : caR P s i = nI (caL P s i) := if_neg z0
            rw [e0]
            by_cases w : nowS P (caN P s i) < caL P s i
            · rw [if_pos w, if_neg (nI_ge w (by omega)), go]
            · rw [if_neg w, if_pos (nI_le (by omega) (by omega)), B_X6_canon_57, go])
        obtain ⟨N2, g2, R2⟩ := U3.back (d + 18) K hN
        refine ⟨N2, ?_, R2⟩
        try dsimp only
        have er : caR P s n = nI (caL P s n) := if_neg (by omega)
        rw [r11, if_pos q, B_X6_canon_24, g1, bindV_some]
        refine Eq.trans g3 ?_
        try dsimp only
        rw [B_X6_canon_34, le_self, er, B_X6_canon_74, X6_fallenMany (d + 18) N3 (caN_ok hs P n) U3.2.1, bindI_some, g2, bindV_some]
        by_cases w : y = 0
        · rw [if_pos w, if_pos w, B_X6_canon_94]
        · rw [if_neg w, if_neg w, B_X6_canon_93, B_X6_canon_94]
    · refine Ans.pure (vI (-2)) ?_ (fun N hN => ?_)
      · rw [c11, if_neg q]
      · rw [r11, if_neg q]
  · refine Ans.pure (vI (-1)) ?_ (fun N hN => ?_)
    · rw [E_X5_canon, rng, if_neg b, B_X5_canon_9]
    · rw [E_X6_canon, X6_in, bindI_some, if_neg b, eq_00]
