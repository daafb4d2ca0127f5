/-! flat -/
abbrev badD (z : St) (b k : Nat) : Prop := z (81 + k) = nI b ∧ ¬ z (87 + k) = nI (faS z)
abbrev okD (z : St) (b D : Nat) : Prop := ∀ k, k < D → ¬ badD z b k
def lwS (s : St) (p : Nat) : St := upd s (1 + p) (nI ((s (1 + p)).toNatClampNeg - 1))
abbrev flOk (P : List Cl) (s : St) (p : Nat) : Prop := ∀ b, b < 41 → okD (goN P (lwS s p) b) b (duS s)
def fl2 (P : List Cl) (s : St) (i z : Nat) : Nat := if sg s i ∧ flOk P s i then z ||| 2 ^ i else z
def flS (P : List Cl) (s : St) : Nat := itr (fl2 P s) (nsS s) 0
theorem isDustBy_cls (d : Nat) {B : Nat} (hB : B < 2 ^ 29) {s : St} {P : List Cl} {M : Mem} (hs : Wf B s) (hC : Ch M 0 s) (hH : Hd M 0 P) (hSh : Sh M 0 s) (hRw : Rw s) {p : Nat} (hp : p < nsS s) (hsg : sg s p) : ∃ M', XC (d + 8) jX5_isDustBy [vR 5 0 0, vI (nI p)] M = some (some (vI (if flOk P s p then 1 else 0)), M') ∧ Df SCR M M' := by
  obtain ⟨hn, h6⟩ := hs.ns
  obtain ⟨hdu, hd6⟩ := hRw.du
  have hp6 : p < 6 := by omega
  obtain ⟨M1, e1, T1⟩ := TC.become (d + 6) hs hC hH
  have hlow : (if 0 < s (1 + p) - 1 then s (1 + p) - 1 else 0) = nI ((s (1 + p)).toNatClampNeg - 1) ∧ (s (1 + p)).toNatClampNeg ≤ 23 := by
    rcases hs.note hp6 with h | ⟨t, ht, et⟩
    · exact absurd h hsg
    · rw [max_n, et, cl_no (by omega)]
      refine ⟨?_, ht⟩
      congr 1
      have e : nI t - 1 = iI ((t : Int) - 1) := nI_dif t 1
      rw [e, iI_cl (by omega) (by omega)]
      omega
  have T2 := T1.note hp6 (x := nI ((s (1 + p)).toNatClampNeg - 1)) (Or.inr ⟨_, by omega, rfl⟩)
  have hz : upd s (1 + p) (nI ((s (1 + p)).toNatClampNeg - 1)) = lwS s p := rfl
  rw [hz] at T2
  have hw := T2.2.2.2
  have eh : ∀ (b : Nat) (k : Nat), 19 ≤ k → goN P (lwS s p) b k = s k := fun b k hk => ((goN_ok hw P b).2.2 k hk).trans (upd_ne (by omega))
  -- one beat's dust
  have inner : ∀ b n (zM : Mem), b ≤ 41 → TC M (B + b) (goN P (lwS s p) b) P zM → n ≤ duS s → okD (goN P (lwS s p) b) b n → X (d + 7) jX5_isDustBy 54 [some (vR 5 0 0), none, some (vI (nI b)), some (vI (nI (faS (goN P (lwS s p) b)))), some (vI (nI 0))] [] zM = X (d + 7) jX5_isDustBy 54 [some (vR 5 0 0), none, some (vI (nI b)), some (vI (nI (faS (goN P (lwS s p) b)))), some (vI (nI n))] [] zM := fun b n zM hb zT hn2 hh => by
    have hSh1 := hSh.S zT.1
    refine chain (fun k => X (d + 7) jX5_isDustBy 54 [some (vR 5 0 0), none, some (vI (nI b)), some (vI (nI (faS (goN P (lwS s p) b)))), some (vI (nI k))] [] zM) n (fun k hk => ?_)
    have nb := hh k hk
    unfold badD at nb
    rw [eh b _ (by omega), eh b _ (by omega)] at nb
    try dsimp only
    rw [B_X5_isDustBy_54, hSh1.1.2.2.1, hdu, ge_no (by omega) (by omega), ob_no (by omega) (by omega), cl_no (by omega), hSh1.2.2.1 k (by omega)]
    by_cases c : s (81 + k) = nI b
    · have c2 : s (87 + k) = nI (faS (goN P (lwS s p) b)) := Classical.not_not.mp (fun q => nb ⟨c, q⟩)
      rw [if_pos c, ob_n2 (by omega) (by omega), hSh1.2.2.2.1 k (by omega), if_pos c2, B_X5_isDustBy_96, nI_1]
    · rw [if_neg c, B_X5_isDustBy_96, nI_1]
  have outer : ∀ n, n ≤ 41 → (∀ b, b < n → okD (goN P (lwS s p) b) b (duS s)) → ∃ zM, XC (d + 8) jX5_isDustBy [vR 5 0 0, vI (nI p)] M = X (d + 7) jX5_isDustBy 37 [some (vR 5 0 0), none, some (vI (nI n)), none, none] [] zM ∧ TC M (B + n) (goN P (lwS s p) n) P zM := fun n hn2 hh => by
    obtain ⟨zM, e, T⟩ := loop_ex (fun i (zM : Mem) => X (d + 7) jX5_isDustBy 37 [some (vR 5 0 0), none, some (vI (nI i)), none, none] [] zM) (fun i zM => TC M (B + i) (goN P (lwS s p) i) P zM) n _ T2 (fun i zM hi zT => by
      obtain ⟨m2, f2, t2⟩ := zT.beat (d + 1) (by omega)
      refine ⟨m2, ?_, t2⟩
      have l40 : ¬ (40 : Int32) < nI i := nI_nlt (a := 40) (by omega) (by omega)
      have e4 := inner i (duS s) zM (by omega) zT (Nat.le_refl _) (hh i hi)
      have e4' : X (d + 7) jX5_isDustBy 54 [some (vR 5 0 0), none, some (vI (nI i)), some (vI (nI (faS (goN P (lwS s p) i)))), some (vI 0)] [] zM = _ := e4
      try dsimp only
      rw [B_X5_isDustBy_37, if_neg l40, X1_countFallen (d + 6) 1 zM zT.2.2.2 zT.2.1, bindI_some, e4', B_X5_isDustBy_54, (hSh.S zT.1).1.2.2.1, hdu, le_self, B_X5_isDustBy_102, f2, bindI_some, nI_1])
    refine ⟨zM, ?_, T⟩
    rw [E_X5_isDustBy, e1, bindV_some, ob_no (by omega) (by omega), ob_no (by omega) (by omega), cl_no (by omega), (T1.now hC).a8 hp6, hlow.1]
    exact e
  rcases first_hit (fun b => ¬ okD (goN P (lwS s p) b) b (duS s)) 41 with hh | ⟨b, hb, h1, h2⟩
  · have hh2 : ∀ b, b < 41 → okD (goN P (lwS s p) b) b (duS s) := fun b hb => Classical.not_not.mp (hh b hb)
    obtain ⟨zM, e, T⟩ := outer 41 (by omega) hh2
    refine ⟨zM, ?_, T.1⟩
    rw [e, B_X5_isDustBy_37, if_pos (by decide), B_X5_isDustBy_116, if_pos hh2]
  · obtain ⟨zM, e, T⟩ := outer b (by omega) (fun c hc => Classical.not_not.mp (h2 c hc))
    refine ⟨zM, ?_, T.1⟩
    have l40 : ¬ (40 : Int32) < nI b := nI_nlt (a := 40) (by omega) (by omega)
    have nf : ¬ flOk P s p := fun q => h1 (q b hb)
    have hSh1 := hSh.S T.1
    rcases first_hit (badD (goN P (lwS s p) b) b) (duS s) with g | ⟨k, hk, g1, g2⟩
    · exact absurd g h1
    · have e4 := inner b k zM (by omega) T (by omega) g2
      have e4' : X (d + 7) jX5_isDustBy 54 [some (vR 5 0 0), none, some (vI (nI b)), some (vI (nI (faS (goN P (lwS s p) b)))), some (vI 0)] [] zM = _ := e4
      unfold badD at g1
      rw [eh b _ (by omega), eh b _ (by omega)] at g1
      rw [e, if_neg nf, B_X5_isDustBy_37, if_neg l40, X1_countFallen (d + 6) 1 zM T.2.2.2 T.2.1, bindI_some, e4', B_X5_isDustBy_54, hSh1.1.2.2.1, hdu, ge_no (by omega) (by omega), ob_no (by omega) (by omega), cl_no (by omega), hSh1.2.2.1 k (by omega), if_pos g1.1, ob_n2 (by omega) (by omega), hSh1.2.2.2.1 k (by omega), if_neg g1.2]
theorem isDust_ref (d : Nat) {B : Nat} {z : St} {N : Mem} (hz : Wf B z) (hA : rA N 2 = z) (hdu : z 22 = nI (duS z)) (hd6 : duS z ≤ 6) (b : Nat) : XC (d + 2) jX6_isDust [vR 6 0 0, vI (nI b)] N = some (some (vI (if okD z b (duS z) then 1 else 0)), N) := by
  have st : ∀ k, k < duS z → X (d + 1) jX6_isDust 4 [some (vR 6 0 0), some (vI (nI b)), some (vI 1), some (vI (nI k))] [] N = X (d + 1) jX6_isDust 4 [some (vR 6 0 0), some (vI (nI b)), some (vI (if badD z b k then 0 else 1)), some (vI (nI (k + 1)))] [] N := fun k hk => by
    rw [B_X6_isDust_4, hA, hdu, ge_no hk (by omega), if_neg (by decide), la81, ob_no (by omega) (by omega), cl_no (by omega)]
    by_cases c : z (81 + k) = nI b
    · rw [if_pos c, la87, ob_no (by omega) (by omega), cl_no (by omega), X6_fallenMany d N hz hA, bindI_some]
      by_cases c2 : z (87 + k) = nI (faS z)
      · rw [if_pos c2, B_X6_isDust_48, B_X6_isDust_53, nI_1, if_neg (fun q => q.2 c2)]
      · rw [if_neg c2, B_X6_isDust_52, B_X6_isDust_53, nI_1, if_pos ⟨c, c2⟩]
    · rw [if_neg c, B_X6_isDust_48, B_X6_isDust_53, nI_1, if_neg (fun q => c q.1)]
  have s0 : ∀ k, k < duS z → X (d + 1) jX6_isDust 4 [some (vR 6 0 0), some (vI (nI b)), some (vI 0), some (vI (nI k))] [] N = X (d + 1) jX6_isDust 4 [some (vR 6 0 0), some (vI (nI b)), some (vI 0), some (vI (nI (k + 1)))] [] N := fun k hk => by
    rw [B_X6_isDust_4, hA, hdu, ge_no hk (by omega), if_pos rfl, B_X6_isDust_52, B_X6_isDust_53, nI_1]
  have all1 : ∀ n, n ≤ duS z → okD z b n → XC (d + 2) jX6_isDust [vR 6 0 0, vI (nI b)] N = X (d + 1) jX6_isDust 4 [some (vR 6 0 0), some (vI (nI b)), some (vI 1), some (vI (nI n))] [] N := fun n hn hh => by
    rw [E_X6_isDust]
    refine chain (fun k => X (d + 1) jX6_isDust 4 [some (vR 6 0 0), some (vI (nI b)), some (vI 1), some (vI (nI k))] [] N) n (fun k hk => ?_)
    try dsimp only
    rw [st k (by omega), if_neg (hh k hk)]
  rcases first_hit (badD z b) (duS z) with hh | ⟨k, hk, h1, h2⟩
  · rw [all1 _ (Nat.le_refl _) hh, B_X6_isDust_4, hA, hdu, le_self, B_X6_isDust_60, zo_1, if_pos hh]
  · have nf : ¬ okD z b (duS z) := fun q => q k hk h1
    have tail : ∀ n, k + 1 + n ≤ duS z → X (d + 1) jX6_isDust 4 [some (vR 6 0 0), some (vI (nI b)), some (vI 0), some (vI (nI (k + 1)))] [] N = X (d + 1) jX6_isDust 4 [some (vR 6 0 0), some (vI (nI b)), some (vI 0), some (vI (nI (k + 1 + n)))] [] N := fun n hn => chain (fun i => X (d + 1) jX6_isDust 4 [some (vR 6 0 0), some (vI (nI b)), some (vI 0), some (vI (nI (k + 1 + i)))] [] N) n (fun i hi => s0 (k + 1 + i) (by omega))
    have t := tail (duS z - (k + 1)) (by omega)
    rw [show k + 1 + (duS z - (k + 1)) = duS z by omega] at t
    rw [all1 k (by omega) h2, st k hk, if_pos h1, t, B_X6_isDust_4, hA, hdu, le_self, B_X6_isDust_60, zo_0, if_neg nf]
theorem isFlat_ref (d : Nat) {B : Nat} (hB : B < 2 ^ 29) {s : St} {P : List Cl} {N : Mem} (hs : Wf B s) (hN : rA N 2 = s) (hR : HdR s P) (hRw : Rw s) {p : Nat} (hp : p < nsS s) (hsg : sg s p) : ∃ N', XC (d + 9) jX6_isFlat [vR 6 0 0, vI (nI p)] N = some (some (vI (if flOk P s p then 1 else 0)), N') ∧ RQ N N' := by
  obtain ⟨hn, h6⟩ := hs.ns
  obtain ⟨hdu, hd6⟩ := hRw.du
  have hp6 : p < 6 := by omega
  obtain ⟨N1, g1, K, U1⟩ := TR.keeps (d + 7) hs hN hR
  have U2 := U1.note hp6 (x := nI ((s (1 + p)).toNatClampNeg - 1)) (Or.inr ⟨(s (1 + p)).toNatClampNeg - 1, by
    rcases hs.note hp6 with h | ⟨t, ht, et⟩
    · exact absurd h hsg
    · rw [et, cl_no (by omega)]; omega, rfl⟩)
  have hz : upd s (1 + p) (nI ((s (1 + p)).toNatClampNeg - 1)) = lwS s p := rfl
  rw [hz] at U2
  have hw := U2.2.2.2.2
  have eh : ∀ (b : Nat) (k : Nat), 19 ≤ k → goN P (lwS s p) b k = s k := fun b k hk => ((goN_ok hw P b).2.2 k hk).trans (upd_ne (by omega))
  have ed : ∀ b, duS (goN P (lwS s p) b) = duS s := fun b => by unfold duS; rw [eh b 22 (by omega)]
  have dust : ∀ b (zM : Mem), TR N1 (B + b) s (goN P (lwS s p) b) P zM → XC (d + 8) jX6_isDust [vR 6 0 0, vI (nI b)] zM = some (some (vI (if okD (goN P (lwS s p) b) b (duS s) then 1 else 0)), zM) := fun b zM zT => by
    have e := isDust_ref (d + 6) zT.2.2.2.2 zT.2.1 (by rw [ed b, eh b 22 (by omega), hdu]) (by rw [ed b]; exact hd6) b
    rw [ed b] at e
    exact e
  have head : ∃ zM, XC (d + 9) jX6_isFlat [vR 6 0 0, vI (nI p)] N = X (d + 8) jX6_isFlat 35 [some (vR 6 0 0), none, some (vI 1), some (vI (nI 0))] [] zM ∧ TR N1 B s (lwS s p) P zM := by
    refine ⟨_, ?_, U2⟩
    rw [E_X6_isFlat, g1, bindV_some, la1, ob_no (by omega) (by omega), ob_no (by omega) (by omega), cl_no (by omega), U1.2.1]
    rcases hs.note hp6 with h | ⟨t, ht, et⟩
    · exact absurd h hsg
    · rw [et, cl_no (by omega)]
      by_cases c : nI t ≤ 0
      · have t0 : t = 0 := by
          have := (nI_leI (b := 0) (by omega) (by omega)).mp c
          omega
        subst t0
        rw [if_pos c, B_X6_isFlat_28, B_X6_isFlat_29, ob_no (by omega) (by omega), cl_no (by omega), U1.2.1]
        rfl
      · have t0 : 0 < t := by
          rcases Nat.eq_zero_or_pos t with q | q
          · subst q; exact absurd (by decide) c
          · exact q
        rw [if_neg c, B_X6_isFlat_29, ob_no (by omega) (by omega), cl_no (by omega), U1.2.1, show nI t - 1 = nI (t - 1) from nI_sub (a := t) (b := 1) (by omega)]
        rfl
  obtain ⟨M2, e2, V2⟩ := head
  have outer : ∀ n, n ≤ 41 → (∀ b, b < n → okD (goN P (lwS s p) b) b (duS s)) → ∃ zM, XC (d + 9) jX6_isFlat [vR 6 0 0, vI (nI p)] N = X (d + 8) jX6_isFlat 35 [some (vR 6 0 0), none, some (vI 1), some (vI (nI n))] [] zM ∧ TR N1 (B + n) s (goN P (lwS s p) n) P zM := fun n hn2 hh => by
    obtain ⟨zM, e, T⟩ := loop_ex (fun i (zM : Mem) => X (d + 8) jX6_isFlat 35 [some (vR 6 0 0), none, some (vI 1), some (vI (nI i))] [] zM) (fun i zM => TR N1 (B + i) s (goN P (lwS s p) i) P zM) n M2 V2 (fun i zM hi zT => by
      obtain ⟨m2, f2, t2⟩ := zT.goes (d + 1) (by omega)
      refine ⟨m2, ?_, t2⟩
      have l40 : ¬ (40 : Int32) < nI i := nI_nlt (a := 40) (by omega) (by omega)
      try dsimp only
      rw [B_X6_isFlat_35, if_neg l40, if_neg (by decide), dust i zM zT, bindI_some, f2, bindI_some, if_pos (hh i hi), nI_1])
    exact ⟨zM, e2.trans e, T⟩
  rcases first_hit (fun b => ¬ okD (goN P (lwS s p) b) b (duS s)) 41 with hh | ⟨b, hb, h1, h2⟩
  · have hh2 : ∀ b, b < 41 → okD (goN P (lwS s p) b) b (duS s) := fun b hb => Classical.not_not.mp (hh b hb)
    obtain ⟨zM, e, T⟩ := outer 41 (by omega) hh2
    obtain ⟨N3, g3, R3⟩ := T.back (d + 7) K hN
    refine ⟨N3, ?_, R3⟩
    rw [e, B_X6_isFlat_35, if_pos (by decide), B_X6_isFlat_62, g3, bindV_some, zo_1, if_pos hh2]
  · obtain ⟨zM, e, T⟩ := outer b (by omega) (fun c hc => Classical.not_not.mp (h2 c hc))
    obtain ⟨m2, f2, t2⟩ := T.goes (d + 1) (by omega)
    obtain ⟨N3, g3, R3⟩ := t2.back (d + 7) K hN
    refine ⟨N3, ?_, R3⟩
    have l40 : ¬ (40 : Int32) < nI b := nI_nlt (a := 40) (by omega) (by omega)
    have nf : ¬ flOk P s p := fun q => h1 (q b hb)
    rw [e, if_neg nf, B_X6_isFlat_35, if_neg l40, if_neg (by decide), dust b zM T, bindI_some, f2, bindI_some, if_neg h1, nI_1, B_X6_isFlat_35]
    by_cases l : (40 : Int32) < nI (b + 1)
    · rw [if_pos l, B_X6_isFlat_62, g3, bindV_some, zo_0]
    · rw [if_neg l, if_pos rfl, B_X6_isFlat_62, g3, bindV_some, zo_0]
theorem fl2_lt {P : List Cl} {s : St} {i z : Nat} (hi : i < 6) (hz : z < 64) : fl2 P s i z < 64 := by
  unfold fl2
  split
  · exact or_lt hz hi
  · exact hz
theorem q_flat (d : Nat) {B : Nat} {s : St} {P : List Cl} {M : Mem} (h : QC B s P M) (hSh : Sh M 0 s) (hRw : Rw s) : Ans M s (XC (d + 20) jX5_flat [vR 5 0 0] M) (fun N => XC (d + 20) jX6_flat [vR 6 0 0] N) := by
  obtain ⟨hB, hs, hC, hH, hR⟩ := h
  obtain ⟨hn, h6⟩ := hs.ns
  obtain ⟨hdu, hd6⟩ := hRw.du
  have zlt : ∀ i, i ≤ nsS s → itr (fl2 P s) i 0 < 64 := fun i hi => itr_inv (fun _ z => z < 64) i (by decide) (fun j z hj hz => fl2_lt (by omega) hz)
  obtain ⟨M', e, D'⟩ := loop_ex (fun i (zM : Mem) => X (d + 19) jX5_flat 4 [some (vR 5 0 0), some (vI (nI (itr (fl2 P s) i 0))), some (vI (nI i))] [] zM) (fun i zM => Df SCR M zM) (nsS s) M Df.rf (fun i zM hi zD => by
    have hi6 : i < 6 := by omega
    have hc0 := hC.S zD
    have es : itr (fl2 P s) (i + 1) 0 = fl2 P s i (itr (fl2 P s) i 0) := rfl
    try dsimp only
    rw [B_X5_flat_4, hc0.c0, hn, ge_no hi (by omega), ob_no (by omega) (by omega), cl_no (by omega), hc0.a8 hi6, es]
    by_cases c : s (1 + i) = -1
    · refine ⟨zM, ?_, zD⟩
      unfold fl2
      rw [if_pos c, if_neg (fun q => q.1 c), B_X5_flat_42, nI_1]
    · obtain ⟨m2, f2, d2⟩ := isDustBy_cls (d + 11) hB hs hc0 (hH.S zD) (hSh.S zD) hRw hi c
      refine ⟨m2, ?_, zD.tr d2⟩
      rw [if_neg c, f2, bindI_some]
      by_cases q : flOk P s i
      · have e9 : fl2 P s i (itr (fl2 P s) i 0) = itr (fl2 P s) i 0 ||| 2 ^ i := if_pos ⟨c, q⟩
        rw [e9, if_pos q, ne_10, shl_p hi6, or_p (zlt i (by omega)) hi6, B_X5_flat_42, nI_1]
      · have e9 : fl2 P s i (itr (fl2 P s) i 0) = itr (fl2 P s) i 0 := if_neg (fun z => q z.2)
        rw [e9, if_neg q, eq_00, B_X5_flat_42, nI_1])
  refine ⟨vI (nI (flS P s)), M', ?_, D', fun N hN => ?_⟩
  · rw [E_X5_flat]
    refine Eq.trans e ?_
    try dsimp only
    rw [B_X5_flat_4, (hC.S D').c0, hn, le_self, B_X5_flat_48]
    rfl
  · obtain ⟨N', e, R'⟩ := loop_ex (fun i (zM : Mem) => X (d + 19) jX6_flat 4 [some (vR 6 0 0), some (vI (nI (itr (fl2 P s) i 0))), some (vI (nI i))] [] zM) (fun i zM => RQ N zM) (nsS s) N RQ.rf (fun i zM hi zR => by
      have hi6 : i < 6 := by omega
      have hA := zR.2.trans hN
      have es : itr (fl2 P s) (i + 1) 0 = fl2 P s i (itr (fl2 P s) i 0) := rfl
      try dsimp only
      rw [B_X6_flat_4, hA, hn, ge_no hi (by omega), X6_doesSing _ _ hA hi6, bindI_some, es]
      by_cases c : sg s i
      · rw [if_pos c, ne_10, hA]
        by_cases c0 : s 22 = 0
        · have d0 : duS s = 0 := by unfold duS; rw [c0]; rfl
          have q : flOk P s i := fun b _ k hk => by omega
          have e9 : fl2 P s i (itr (fl2 P s) i 0) = itr (fl2 P s) i 0 ||| 2 ^ i := if_pos ⟨c, q⟩
          refine ⟨zM, ?_, zR⟩
          rw [if_pos c0, B_X6_flat_42, B_X6_flat_49, e9, shl_p hi6, or_p (zlt i (by omega)) hi6, nI_1]
        · obtain ⟨m2, f2, r2⟩ := isFlat_ref (d + 10) hB hs hA hR hRw hi c
          refine ⟨m2, ?_, zR.tr r2⟩
          rw [if_neg c0, f2, bindI_some]
          by_cases q : flOk P s i
          · have e9 : fl2 P s i (itr (fl2 P s) i 0) = itr (fl2 P s) i 0 ||| 2 ^ i := if_pos ⟨c, q⟩
            rw [e9, if_pos q, ne_10, B_X6_flat_42, B_X6_flat_49, shl_p hi6, or_p (zlt i (by omega)) hi6, nI_1]
          · have e9 : fl2 P s i (itr (fl2 P s) i 0) = itr (fl2 P s) i 0 := if_neg (fun z => q z.2)
            rw [e9, if_neg q, eq_00, B_X6_flat_48, B_X6_flat_49, or_0, nI_1]
      · have e9 : fl2 P s i (itr (fl2 P s) i 0) = itr (fl2 P s) i 0 := if_neg (fun z => c z.1)
        refine ⟨zM, ?_, zR⟩
        rw [e9, if_neg c, eq_00, B_X6_flat_48, B_X6_flat_49, or_0, nI_1])
    refine ⟨N', ?_, R'⟩
    try dsimp only
    rw [E_X6_flat]
    refine Eq.trans e ?_
    try dsimp only
    rw [B_X6_flat_4, R'.2, hN, hn, le_self, B_X6_flat_57]
    rfl
