/-! ill, canon, planned -/
def bnN (P : List Cl) (z : St) (p : Nat) : Nat := match bnS P z p (hiS z p + 1 - loS' z p) with
  | none => 0
  | some (n, _) => n
def bnA (P : List Cl) (z : St) (p : Nat) : Nat := match bnS P z p (hiS z p + 1 - loS' z p) with
  | none => 0
  | some (_, a) => a
theorem bn_ok {B : Nat} (hB : B < 2 ^ 30) {z : St} (hs : Wf B z) {P : List Cl} (hP : WfP P) {p : Nat} (hp : p < 6) : bnS P z p (hiS z p + 1 - loS' z p) = some (bnN P z p, bnA P z p) ∧ bnN P z p ≤ 23 ∧ bnA P z p ≤ 75600 ∧ bnA P z p = bnV P z p (bnN P z p) := by
  obtain ⟨n, a, e, h1, h2, h3⟩ := bnS_some hB hs hP hp
  have e1 : bnN P z p = n := by unfold bnN; rw [e]
  have e2 : bnA P z p = a := by unfold bnA; rw [e]
  rw [e1, e2]
  exact ⟨e, h1, h2, h3⟩
def il2 (P : List Cl) (z : St) (i : Nat) (o : Option (Nat × Nat)) : Option (Nat × Nat) := match o with
  | none => some (100 * i + bnN P z i, bnA P z i)
  | some (c, l) => if l < bnA P z i then some (100 * i + bnN P z i, bnA P z i) else some (c, l)
def il1 (P : List Cl) (s z : St) (x i : Nat) (o : Option (Nat × Nat)) : Option (Nat × Nat) := if ¬ i = x ∧ s (1 + i) = -1 then il2 P z i o else o
theorem il2_new {P : List Cl} {z : St} {i c l : Nat} (h : l < bnA P z i) : il2 P z i (some (c, l)) = some (100 * i + bnN P z i, bnA P z i) := if_pos h
theorem il2_old {P : List Cl} {z : St} {i c l : Nat} (h : ¬ l < bnA P z i) : il2 P z i (some (c, l)) = some (c, l) := if_neg h
def ilS (P : List Cl) (s z : St) (x k : Nat) : Option (Nat × Nat) := itr (il1 P s z x) k none
def ilO (o : Option (Nat × Nat)) : Prop := match o with
  | none => True
  | some (c, l) => c ≤ 700 ∧ l ≤ 75600
theorem il1_ok {B : Nat} (hB : B < 2 ^ 30) {s z : St} (hs : Wf B z) {P : List Cl} (hP : WfP P) {x i : Nat} (hi : i < 6) {o : Option (Nat × Nat)} (ho : ilO o) : ilO (il1 P s z x i o) := by
  obtain ⟨_, h1, h2, _⟩ := bn_ok hB hs hP hi
  unfold il1
  split
  · match o, ho with
    | none, _ => exact ⟨by omega, h2⟩
    | some (c, l), ho =>
      by_cases r : l < bnA P z i
      · rw [il2_new r]; exact ⟨by omega, h2⟩
      · rw [il2_old r]; exact ho
  · exact ho
theorem nI_m5' {w : Nat} (h : w < 2 ^ 31) : ¬ nI w = -5 := fun q => absurd (q ▸ (by decide : (-5 : Int32) < 0)) (nI_pos h)
theorem q_ill (d : Nat) (x : Int32) {B : Nat} {s : St} {P : List Cl} {M : Mem} (h : QC B s P M) : Ans M s (XC (d + 20) jX5_ill [vR 5 0 0, vI x] M) (fun N => XC (d + 20) jX6_ill [vR 6 0 0, vI x] N) := by
  obtain ⟨hB, hs, hC, hH, hR⟩ := h
  obtain ⟨hn, h6⟩ := hs.ns
  by_cases a : isSg s x
  · obtain ⟨p, hp, rfl⟩ := a.num hs
    have hp6 : p < 6 := by omega
    by_cases c0 : s (1 + p) = -1
    · refine Ans.pure (vI (-5)) ?_ (fun N hN => ?_)
      · rw [E_X5_ill, X5_isSinger (d + 18) hC, bindI_some, if_pos a, ne_10, B_X5_ill_10, ob_no (by omega) (by omega), cl_no (by omega), hC.a8 hp6, if_pos c0]
      · rw [E_X6_ill, X6_isSinger (d + 17) hs hN, bindI_some, if_pos a, ne_10, B_X6_ill_10, X6_doesSing _ _ hN hp6, bindI_some, if_neg (show ¬ sg s p from fun q => q c0), eq_00]
    · obtain ⟨M1, e1, T1⟩ := TC.become (d + 18) hs hC hH
      have T2 := T1.note hp6 (x := -1) (Or.inl rfl)
      generalize hz : upd s (1 + p) (-1) = z at T2
      have hw : Wf B z := T2.2.2.2
      have hzi : ∀ i, ¬ i = p → z (1 + i) = s (1 + i) := fun i hi => by rw [← hz]; exact upd_ne (by omega)
      have hz39 : ∀ i, i < 6 → z (39 + i) = s (39 + i) := fun i hi => by rw [← hz]; exact upd_ne (by omega)
      have hz19 : z 19 = s 19 := by rw [← hz]; exact upd_ne (by omega)
      obtain ⟨M', e, T', _⟩ := loop_ex (fun i (zM : Mem) => X (d + 19) jX5_ill 55 [some (vR 5 0 0), some (vI (nI p)), some (vI (neW (ilS P s z p i))), some (vI (neL 0 (ilS P s z p i))), some (vI (nI i)), none, none] [] zM) (fun i zM => TC M B z P zM ∧ ilO (ilS P s z p i)) (nsS s) _ ⟨T2, trivial⟩ (fun i zM hi I => by
        obtain ⟨zT, zo⟩ := I
        have hi6 : i < 6 := by omega
        have es : ilS P s z p (i + 1) = il1 P s z p i (ilS P s z p i) := rfl
        have ok := il1_ok (s := s) (x := p) (by omega) hw hH.2.2 hi6 zo
        rw [← es] at ok
        have hc0 := zT.now hC
        try dsimp only
        rw [B_X5_ill_55, hc0.c0, hn, ge_no hi (by omega)]
        by_cases q : i = p
        · subst q
          rw [if_pos rfl, B_X5_ill_151, nI_1]
          rw [es] at ok ⊢
          unfold il1 at ok ⊢
          rw [if_neg (fun z => z.1 rfl)] at ok ⊢
          exact ⟨zM, rfl, zT, ok⟩
        · rw [if_neg (nI_ne (by omega) (by omega) q), ob_no (by omega) (by omega), cl_no (by omega), hc0.a8 hi6]
          by_cases q2 : s (1 + i) = -1
          · obtain ⟨b1, b2, b3, b4⟩ := bn_ok (by omega) hw hH.2.2 hi6
            obtain ⟨M3, e3, T3⟩ := bestNote_cls (d + 11) (by omega) hs hC zT hi6 (hz39 i hi6) b1
            have T4 := T3.note hi6 (x := nI (bnN P z i)) (Or.inr ⟨_, b2, rfl⟩)
            obtain ⟨M5, e5, T5, _⟩ := T4.allNow (d + 13) (by omega)
            have T6 := T5.note hi6 (x := -1) (Or.inl rfl)
            rw [upd_upd, upd_self ((hzi i q).trans q2).symm] at T6
            have ev : nowS P (upd z (1 + i) (nI (bnN P z i))) = bnA P z i := b4.symm
            rw [if_pos q2, e3, bindI_some, ob_n2 hi6 (by omega)]
            try dsimp only
            rw [e5, bindI_some, ob_n2 hi6 (by omega), ev]
            try dsimp only
            have h100 : (100 : Int32) * nI i + nI (bnN P z i) = nI (100 * i + bnN P z i) := by rw [show (100 : Int32) = nI 100 from rfl, nI_mul, nI_add]
            refine ⟨_, ?_, T6, ok⟩
            rw [es, show il1 P s z p i (ilS P s z p i) = il2 P z i (ilS P s z p i) from if_pos ⟨q, q2⟩]
            match hm : ilS P s z p i, zo with
            | none, _ => rw [show neW none = -5 from rfl, if_pos rfl, B_X5_ill_139, B_X5_ill_151, nI_1, h100]; rfl
            | some (c, l), zo =>
              have k1 : c ≤ 700 := zo.1
              have k2 : l ≤ 75600 := zo.2
              have k3 : neW (some (c, l)) = nI c := rfl
              have k4 : neL 0 (some (c, l)) = nI l := rfl
              rw [k3, k4, if_neg (nI_m5' (by omega))]
              by_cases r : l < bnA P z i
              · rw [il2_new r]
                rw [if_neg (nI_ge r (by omega)), B_X5_ill_139, B_X5_ill_151, nI_1, h100]
                rfl
              · rw [il2_old r]
                rw [if_pos (nI_le (by omega) (by omega)), B_X5_ill_151, nI_1]
                rfl
          · rw [if_neg q2, B_X5_ill_151, nI_1]
            rw [es] at ok ⊢
            unfold il1 at ok ⊢
            rw [if_neg (fun z => q2 z.2)] at ok ⊢
            exact ⟨zM, rfl, zT, ok⟩)
      refine ⟨vI (neW (ilS P s z p (nsS s))), M', ?_, T'.1, fun N hN => ?_⟩
      · rw [E_X5_ill, X5_isSinger (d + 18) hC, bindI_some, if_pos a, ne_10, B_X5_ill_10, ob_no (by omega) (by omega), cl_no (by omega), hC.a8 hp6, if_neg c0, B_X5_ill_26, e1, bindV_some, ob_no (by omega) (by omega), cl_no (by omega)]
        try dsimp only
        refine Eq.trans e ?_
        try dsimp only
        rw [B_X5_ill_55, (T'.now hC).c0, hn, le_self, B_X5_ill_157]
      · have R2 := (TR.start hs hN hR).note hp6 (x := -1) (Or.inl rfl)
        rw [hz] at R2
        obtain ⟨N', e, T', _⟩ := loop_ex (fun i (zM : Mem) => X (d + 19) jX6_ill 48 [some (vR 6 0 0), some (vI (nI p)), some (vI (s (1 + p))), some (vI (neL (-1) (ilS P s z p i))), some (vI (neW (ilS P s z p i))), some (vI (nI i))] [] zM) (fun i zM => TR N B s z P zM ∧ ilO (ilS P s z p i)) (nsS s) _ ⟨R2, trivial⟩ (fun i zM hi I => by
          obtain ⟨zT, zo⟩ := I
          have hi6 : i < 6 := by omega
          have es : ilS P s z p (i + 1) = il1 P s z p i (ilS P s z p i) := rfl
          have ok := il1_ok (s := s) (x := p) (by omega) hw hH.2.2 hi6 zo
          rw [← es] at ok
          try dsimp only
          rw [B_X6_ill_48, zT.2.1, hz19, hn, ge_no hi (by omega)]
          by_cases q : i = p
          · subst q
            rw [if_pos rfl, B_X6_ill_123, nI_1]
            rw [es] at ok ⊢
            unfold il1 at ok ⊢
            rw [if_neg (fun z => z.1 rfl)] at ok ⊢
            exact ⟨zM, rfl, zT, ok⟩
          · rw [if_neg (nI_ne (by omega) (by omega) q), X6_doesSing _ _ zT.2.1 hi6, bindI_some]
            by_cases q2 : s (1 + i) = -1
            · have nsg : ¬ sg z i := fun w => w ((hzi i q).trans q2)
              obtain ⟨b1, b2, b3, b4⟩ := bn_ok (by omega) hw hH.2.2 hi6
              obtain ⟨N3, e3, T3, r13, r14⟩ := looksForNote_ref (d + 12) (by omega) zT hi6 b1
              rw [if_neg nsg, eq_00, e3, bindV_some, r13, r14]
              have h100 : (100 : Int32) * nI i + nI (bnN P z i) = nI (100 * i + bnN P z i) := by rw [show (100 : Int32) = nI 100 from rfl, nI_mul, nI_add]
              refine ⟨N3, ?_, T3, ok⟩
              rw [es, show il1 P s z p i (ilS P s z p i) = il2 P z i (ilS P s z p i) from if_pos ⟨q, q2⟩]
              match hm : ilS P s z p i, zo with
              | none, _ => rw [show neL (-1) none = -1 from rfl, if_neg (nI_gm1 (by omega)), B_X6_ill_104, r14, if_neg (nI_gm1 (by omega)), B_X6_ill_122, B_X6_ill_123, nI_1, h100]; rfl
              | some (c, l), zo =>
                have k1 : c ≤ 700 := zo.1
                have k2 : l ≤ 75600 := zo.2
                have k4 : neL (-1) (some (c, l)) = nI l := rfl
                rw [k4]
                by_cases r : l < bnA P z i
                · rw [il2_new r]
                  rw [if_neg (nI_ge r (by omega)), B_X6_ill_104, r14, if_neg (nI_ge r (by omega)), B_X6_ill_122, B_X6_ill_123, nI_1, h100]
                  rfl
                · rw [il2_old r]
                  rw [if_pos (nI_le (by omega) (by omega)), B_X6_ill_102, B_X6_ill_104, r14, if_pos (nI_le (by omega) (by omega)), B_X6_ill_121, B_X6_ill_122, B_X6_ill_123, nI_1]
                  rfl
            · have hsg : sg z i := fun w => q2 ((hzi i q).symm.trans w)
              rw [if_pos hsg, ne_10, B_X6_ill_123, nI_1]
              rw [es] at ok ⊢
              unfold il1 at ok ⊢
              rw [if_neg (fun z => q2 z.2)] at ok ⊢
              exact ⟨zM, rfl, zT, ok⟩)
        have T3 := T'.note hp6 (x := s (1 + p)) (hs.note hp6)
        have ez : upd z (1 + p) (s (1 + p)) = s := by rw [← hz, upd_upd, upd_self rfl]
        rw [ez] at T3
        refine ⟨_, ?_, T3.fin hN⟩
        try dsimp only
        rw [E_X6_ill, X6_isSinger (d + 17) hs hN, bindI_some, if_pos a, ne_10, B_X6_ill_10, X6_doesSing _ _ hN hp6, bindI_some, if_pos c0, ne_10, B_X6_ill_21, la1, ob_no (by omega) (by omega), ob_no (by omega) (by omega), cl_no (by omega), hN]
        try dsimp only
        rw [hN] at e
        refine Eq.trans e ?_
        try dsimp only
        rw [B_X6_ill_48, T'.2.1, hz19, hn, le_self, B_X6_ill_129, la1, ob_no (by omega) (by omega), cl_no (by omega)]
        try dsimp only
        rw [T'.2.1]
  · refine Ans.pure (vI (-1)) ?_ (fun N hN => ?_)
    · rw [E_X5_ill, X5_isSinger (d + 18) hC, bindI_some, if_neg a, eq_00]
    · rw [E_X6_ill, X6_isSinger (d + 17) hs hN, bindI_some, if_neg a, eq_00]
