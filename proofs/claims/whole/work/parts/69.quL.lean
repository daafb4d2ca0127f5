/-! shift -/
theorem kp_at (o : St) (a k : Nat) (z : St) : ∀ n, itr (kp1 o a) n z k = if 1 ≤ k ∧ k < 1 + n then (if bt a (k - 1) then o k else -1) else z k
  | 0 => by rw [if_neg (by omega)]; rfl
  | n + 1 => by
    show upd (itr (kp1 o a) n z) (1 + n) _ k = _
    by_cases e : k = 1 + n
    · subst e
      rw [upd_same, if_pos (show 1 ≤ 1 + n ∧ 1 + n < 1 + (n + 1) from ⟨by omega, by omega⟩), show 1 + n - 1 = n by omega]
    · rw [upd_ne e, kp_at o a k z n]
      by_cases c : 1 ≤ k ∧ k < 1 + n
      · rw [if_pos c, if_pos (show 1 ≤ k ∧ k < 1 + (n + 1) from ⟨c.1, by omega⟩)]
      · rw [if_neg c, if_neg (show ¬ (1 ≤ k ∧ k < 1 + (n + 1)) from fun q => c ⟨q.1, by omega⟩)]
theorem kpS_at (z o : St) (a k : Nat) : kpS z o a k = if 1 ≤ k ∧ k < 1 + nsS z then (if bt a (k - 1) then o k else -1) else z k := kp_at o a k z (nsS z)
theorem kpS_hi (z o : St) (a : Nat) {k : Nat} (hk : 7 ≤ k ∨ k = 0) (h6 : nsS z ≤ 6) : kpS z o a k = z k := by
  rw [kpS_at]
  exact if_neg (fun q => by omega)
theorem kpS_ns (z o : St) (a : Nat) (h6 : nsS z ≤ 6) : nsS (kpS z o a) = nsS z := by
  unfold nsS
  rw [kpS_hi z o a (by omega) h6]
theorem kpS_nt (z o : St) (a : Nat) (h6 : nsS z ≤ 6) : ntS (kpS z o a) = ntS z := by
  unfold ntS
  rw [kpS_hi z o a (by omega) h6]
def tiV (P : List Cl) (w : St) (a p : Nat) : Int32 := if bt a p ∧ sg w p then nI (min 99 ((w (7 + p)).toNatClampNeg + weP P)) else nI ((w (7 + p)).toNatClampNeg - eaP P)
theorem flA_at (L k : Nat) (z : St) : ∀ n, itr (fl1 L) n z k = if 13 ≤ k ∧ k < 13 + n then (if bt L (k - 13) then 1 else z k) else z k
  | 0 => by rw [if_neg (by omega)]; rfl
  | n + 1 => by
    show upd (itr (fl1 L) n z) (13 + n) _ k = _
    by_cases e : k = 13 + n
    · subst e
      rw [upd_same, flA_at L (13 + n) z n, if_neg (show ¬ (13 ≤ 13 + n ∧ 13 + n < 13 + n) from fun q => by omega), if_pos (show 13 ≤ 13 + n ∧ 13 + n < 13 + (n + 1) from ⟨by omega, by omega⟩), show 13 + n - 13 = n by omega]
    · rw [upd_ne e, flA_at L k z n]
      by_cases c : 13 ≤ k ∧ k < 13 + n
      · rw [if_pos c, if_pos (show 13 ≤ k ∧ k < 13 + (n + 1) from ⟨c.1, by omega⟩)]
      · rw [if_neg c, if_neg (show ¬ (13 ≤ k ∧ k < 13 + (n + 1)) from fun q => c ⟨q.1, by omega⟩)]
theorem tiA_at (P : List Cl) (a : Nat) (z : St) : ∀ n, n ≤ 6 → ∀ k, itr (ti1 P a) n z k = if 7 ≤ k ∧ k < 7 + n then tiV P z a (k - 7) else z k
  | 0, _, k => by rw [if_neg (by omega)]; rfl
  | n + 1, hn, k => by
    have ih := tiA_at P a z n (by omega)
    show upd (itr (ti1 P a) n z) (7 + n) _ k = _
    by_cases e : k = 7 + n
    · subst e
      have i1 : itr (ti1 P a) n z (7 + n) = z (7 + n) := (ih (7 + n)).trans (if_neg (fun q => by omega))
      have i2 : itr (ti1 P a) n z (1 + n) = z (1 + n) := (ih (1 + n)).trans (if_neg (fun q => by omega))
      rw [upd_same, i1, if_pos (show 7 ≤ 7 + n ∧ 7 + n < 7 + (n + 1) from ⟨by omega, by omega⟩), show 7 + n - 7 = n by omega]
      unfold tiV sg
      rw [i2]
    · rw [upd_ne e, ih k]
      by_cases c : 7 ≤ k ∧ k < 7 + n
      · rw [if_pos c, if_pos (show 7 ≤ k ∧ k < 7 + (n + 1) from ⟨c.1, by omega⟩)]
      · rw [if_neg c, if_neg (show ¬ (7 ≤ k ∧ k < 7 + (n + 1)) from fun q => c ⟨q.1, by omega⟩)]
theorem goS_at (P : List Cl) {z : St} (h6 : nsS z ≤ 6) (a k : Nat) : goS P z a k = if k = 0 then z 0 + 1 else if 7 ≤ k ∧ k < 7 + nsS z then tiV P z a (k - 7) else if 13 ≤ k ∧ k < 13 + ntS z then (if bt (lbS P z a) (k - 13) then 1 else z k) else z k := by
  have hA : ∀ j, goA P z a j = if 13 ≤ j ∧ j < 13 + ntS z then (if bt (lbS P z a) (j - 13) then 1 else z j) else z j := fun j => flA_at _ j z _
  have hB : ∀ j, goB P z a j = if 7 ≤ j ∧ j < 7 + nsS z then tiV P (goA P z a) a (j - 7) else goA P z a j := tiA_at P a (goA P z a) (nsS z) h6
  have hT : ∀ p, p < 6 → tiV P (goA P z a) a p = tiV P z a p := fun p hp => by
    have a1 : goA P z a (1 + p) = z (1 + p) := (hA (1 + p)).trans (if_neg (fun q => by omega))
    have a7 : goA P z a (7 + p) = z (7 + p) := (hA (7 + p)).trans (if_neg (fun q => by omega))
    unfold tiV sg
    rw [a1, a7]
  show upd (goB P z a) 0 (goB P z a 0 + 1) k = _
  by_cases e : k = 0
  · subst e
    rw [upd_same, if_pos rfl, hB 0, if_neg (by omega), hA 0, if_neg (by omega)]
  · rw [upd_ne e, if_neg e, hB k]
    by_cases c : 7 ≤ k ∧ k < 7 + nsS z
    · rw [if_pos c, if_pos c, hT _ (by omega)]
    · rw [if_neg c, if_neg c, hA k]
theorem kp_sg {z s : St} {a p : Nat} (hp : p < nsS z) (hz : z (1 + p) = s (1 + p)) : (sg (kpS z s a) p ↔ bt a p ∧ sg z p) ∧ (bt a p → kpS z s a (1 + p) = z (1 + p)) := by
  have e : kpS z s a (1 + p) = if bt a p then s (1 + p) else -1 := by
    rw [kpS_at, if_pos ⟨by omega, by omega⟩, show 1 + p - 1 = p by omega]
  unfold sg
  rw [e]
  by_cases c : bt a p
  · rw [if_pos c, hz]
    exact ⟨⟨fun h => ⟨c, h⟩, fun h => h.2⟩, fun _ => rfl⟩
  · rw [if_neg c]
    exact ⟨⟨fun h => absurd rfl h, fun h => absurd h.1 c⟩, fun h => absurd h c⟩
theorem kp_foS (P : List Cl) {z s : St} {a p : Nat} (h6 : nsS z ≤ 6) (hp : p < nsS z) (hz : z (1 + p) = s (1 + p)) (hb : bt a p) : foS P (kpS z s a) p = foS P z p := by
  have e1 := (kp_sg (a := a) hp hz).2 hb
  have hi : ∀ k, 7 ≤ k ∨ k = 0 → kpS z s a k = z k := fun k hk => kpS_hi z s a hk h6
  have e2 : strS (kpS z s a) p = strS z p := by
    unfold strS
    rw [e1, hi (27 + p) (by omega), hi (33 + p) (by omega), hi 0 (by omega), hi (45 + (4 * p + (z 0).toNatClampNeg % 4)) (by omega)]
  have e3 : ∀ k, k < 6 → abS (kpS z s a) p k = abS z p k := fun k hk => by
    unfold abS
    rw [e1, hi (27 + p) (by omega), hi (33 + p) (by omega), hi (7 + p) (by omega), hi 0 (by omega)]
  unfold foS sg
  rw [e1, e2, gnP_cg e3, hi (7 + p) (by omega)]
theorem if_cg {α : Type} {b c : Prop} [Decidable b] [Decidable c] {x y : α} (h : b ↔ c) : (if b then x else y) = if c then x else y := by
  by_cases q : b
  · rw [if_pos q, if_pos (h.mp q)]
  · rw [if_neg q, if_neg (fun w => q (h.mpr w))]
theorem itr_cg2 {σ : Type} {f g : Nat → σ → σ} {s t : σ} (hs : s = t) : ∀ (n m : Nat), n = m → (∀ i z, i < n → f i z = g i z) → itr f n s = itr g m t := by
  intro n m e h
  subst e
  subst hs
  exact itr_congr n h
theorem kp_beS (P : List Cl) {z s : St} {a p : Nat} (h6 : nsS z ≤ 6) (hz : ∀ i, i < nsS z → z (1 + i) = s (1 + i)) (hp : p < nsS z) : beS (kpS z s a) (foS P (kpS z s a)) 63 p = beS z (foS P z) a p := by
  obtain ⟨g1, g2⟩ := kp_sg (a := a) hp (hz p hp)
  have h63 : bt 63 p := bt_63 (by omega)
  by_cases c : bt a p ∧ sg z p
  · have e1 : beS (kpS z s a) (foS P (kpS z s a)) 63 p = if paS (kpS z s a) 63 p = 0 then foS P (kpS z s a) p / 2 else foS P (kpS z s a) p * paS (kpS z s a) 63 p := if_pos ⟨h63, g1.mpr c⟩
    have e2 : beS z (foS P z) a p = if paS z a p = 0 then foS P z p / 2 else foS P z p * paS z a p := if_pos c
    have e3 : paS (kpS z s a) 63 p = paS z a p := by
      refine itr_cg2 rfl _ _ (kpS_ns z s a h6) (fun q w hq => ?_)
      rw [kpS_ns z s a h6] at hq
      obtain ⟨k1, k2⟩ := kp_sg (a := a) hq (hz q hq)
      have hq6 : bt 63 q := bt_63 (by omega)
      try dsimp only
      by_cases c2 : bt a q ∧ sg z q
      · have k3 := k1.mpr c2
        have et : tuS (kpS z s a (1 + p)) (kpS z s a (1 + q)) = tuS (z (1 + p)) (z (1 + q)) := by rw [g2 c.1, k2 c2.1]
        exact if_cg ⟨fun w => ⟨w.1, c2.1, c2.2, et ▸ w.2.2.2⟩, fun w => ⟨w.1, hq6, k3, et.trans w.2.2.2⟩⟩
      · rw [if_neg (fun w => c2 (k1.mp w.2.2.1)), if_neg (fun w => c2 ⟨w.2.1, w.2.2.1⟩)]
    rw [e1, e2, e3, kp_foS P h6 hp (hz p hp) c.1]
  · have e1 : beS (kpS z s a) (foS P (kpS z s a)) 63 p = 0 := if_neg (fun w => c (g1.mp w.2))
    have e2 : beS z (foS P z) a p = 0 := if_neg c
    rw [e1, e2]
theorem kp_alS (P : List Cl) {z s : St} {a : Nat} (h6 : nsS z ≤ 6) (hz : ∀ i, i < nsS z → z (1 + i) = s (1 + i)) : alS (kpS z s a) (foS P (kpS z s a)) 63 = alS z (foS P z) a := by
  refine itr_cg2 rfl _ _ (kpS_ns z s a h6) (fun p w hp => ?_)
  rw [kpS_ns z s a h6] at hp
  try dsimp only
  rw [kp_beS P h6 hz hp]
theorem kp_loS (z s : St) (a all : Nat) (h6 : nsS z ≤ 6) (h6t : ntS z ≤ 6) : loS (kpS z s a) all = loS z all := by
  refine itr_cg2 (σ := Nat × Nat) rfl _ _ (kpS_nt z s a h6) (fun q w hq => ?_)
  have e1 := kpS_hi z s a (k := 75 + q) (by omega) h6
  have e2 := kpS_hi z s a (k := 13 + q) (by omega) h6
  have e3 := kpS_hi z s a (k := 69 + q) (by omega) h6
  unfold hg wtS
  rw [e1, e2, e3]
theorem kp_go (P : List Cl) {z s : St} {a : Nat} (h6 : nsS z ≤ 6) (h6t : ntS z ≤ 6) (hz : ∀ i, i < nsS z → z (1 + i) = s (1 + i)) : goS P (kpS z s a) 63 = kpS (goS P z a) s a := by
  have eL : lbS P (kpS z s a) 63 = lbS P z a := by
    unfold lbS
    rw [kp_alS P h6 hz, kp_loS z s a _ h6 h6t]
  have en : nsS (goS P z a) = nsS z := by
    unfold nsS
    rw [goS_19 P h6 h6t a 19 (by omega)]
  funext k
  rw [goS_at P (by rw [kpS_ns z s a h6]; exact h6), kpS_ns z s a h6, kpS_nt z s a h6, eL, kpS_at (goS P z a), en, goS_at P h6]
  by_cases k0 : k = 0
  · subst k0
    rw [if_pos rfl, if_neg (by omega), if_pos rfl, kpS_hi z s a (by omega) h6]
  rw [if_neg k0, if_neg k0]
  by_cases c1 : 7 ≤ k ∧ k < 7 + nsS z
  · rw [if_pos c1, if_neg (by omega), if_pos c1]
    obtain ⟨g1, g2⟩ := kp_sg (a := a) (p := k - 7) (by omega) (hz (k - 7) (by omega))
    have h63 : bt 63 (k - 7) := bt_63 (by omega)
    have e7 : kpS z s a (7 + (k - 7)) = z (7 + (k - 7)) := kpS_hi z s a (by omega) h6
    unfold tiV
    rw [e7]
    by_cases c : bt a (k - 7) ∧ sg z (k - 7)
    · rw [if_pos ⟨h63, g1.mpr c⟩, if_pos c]
    · rw [if_neg (fun w => c (g1.mp w.2)), if_neg c]
  rw [if_neg c1, if_neg c1]
  by_cases c2 : 13 ≤ k ∧ k < 13 + ntS z
  · rw [if_pos c2, if_pos c2, if_neg (show ¬ (1 ≤ k ∧ k < 1 + nsS z) from fun q => by omega), kpS_hi z s a (by omega) h6]
  · rw [if_neg c2, if_neg c2, kpS_at]
theorem kp_kp (z s : St) (a b : Nat) (h6 : nsS z ≤ 6) : kpS (kpS z s a) s b = kpS z s b := by
  funext k
  rw [kpS_at, kpS_ns z s a h6, kpS_at z s b]
  by_cases c : 1 ≤ k ∧ k < 1 + nsS z
  · rw [if_pos c, if_pos c]
  · rw [if_neg c, if_neg c, kpS_at, if_neg c]
theorem kp_si {z s : St} (hn : nsS z = nsS s) (hz : ∀ i, i < nsS z → z (1 + i) = s (1 + i)) : kpS z s (siS s) = z := by
  funext k
  rw [kpS_at]
  by_cases c : 1 ≤ k ∧ k < 1 + nsS z
  · rw [if_pos c]
    have e := hz (k - 1) (by omega)
    rw [show 1 + (k - 1) = k by omega] at e
    by_cases b : bt (siS s) (k - 1)
    · rw [if_pos b, e]
    · rw [if_neg b, e]
      have : ¬ sg s (k - 1) := fun q => b ((siS_bt s (k - 1)).mpr ⟨by omega, q⟩)
      unfold sg at this
      rw [show 1 + (k - 1) = k by omega] at this
      exact (Classical.not_not.mp this).symm
  · rw [if_neg c]
/-! the smallest set -/
def fw2 (k : Nat) (b : Option Nat) : Option Nat := match b with
  | none => some k
  | some c => if pop k < pop c then some k else some c
def fw1 (P : List Cl) (z : St) (o k : Nat) (b : Option Nat) : Option Nat := if nsb k o = 0 ∧ lmS z (foS P z) k = 0 then fw2 k b else b
def fwB (P : List Cl) (z : St) (o n : Nat) : Option Nat := itr (fw1 P z o) n none
def fwV (o : Nat) (b : Option Nat) : Nat := match b with
  | none => o
  | some c => c
def fwC (b : Option Nat) : Nat := match b with
  | none => 7
  | some c => pop c
def fwR (b : Option Nat) : Int32 := match b with
  | none => -1
  | some c => nI c
def fwS (P : List Cl) (z : St) (o : Nat) : Nat := fwV o (fwB P z o (o + 1))
def fwO (o : Nat) (b : Option Nat) : Prop := match b with
  | none => True
  | some c => c < 64 ∧ nsb c o = 0
theorem fw1_ok {P : List Cl} {z : St} {o k : Nat} (hk : k < 64) {b : Option Nat} (hb : fwO o b) : fwO o (fw1 P z o k b) := by
  unfold fw1
  by_cases c : nsb k o = 0 ∧ lmS z (foS P z) k = 0
  · rw [if_pos c]
    match b, hb with
    | none, _ => exact ⟨hk, c.1⟩
    | some e, hb =>
      unfold fw2
      simp only
      split
      · exact ⟨hk, c.1⟩
      · exact hb
  · rw [if_neg c]; exact hb
theorem fwB_ok {P : List Cl} {z : St} {o : Nat} (ho : o < 64) {n : Nat} (hn : n ≤ o + 1) : fwO o (fwB P z o n) := itr_inv (fun _ b => fwO o b) n trivial (fun i b hi hb => fw1_ok (by omega) hb)
theorem fwS_ok {P : List Cl} {z : St} {o : Nat} (ho : o < 64) : fwS P z o < 64 ∧ nsb (fwS P z o) o = 0 := by
  have h := fwB_ok (P := P) (z := z) ho (Nat.le_refl (o + 1))
  unfold fwS
  match fwB P z o (o + 1), h with
  | none, _ =>
    refine ⟨ho, ?_⟩
    have h9 : ∀ o, o < 64 → nsb o o = 0 := by decide +kernel
    exact h9 o ho
  | some c, h => exact h
theorem pop_z {a : Nat} (ha : a < 64) : pop a = 0 ↔ a = 0 := by
  constructor
  · intro h
    have h9 : ∀ a, a < 64 → (pop a == 0) = (a == 0) := by decide +kernel
    have := h9 a ha
    rw [h] at this
    simpa using this.symm
  · rintro rfl; decide
theorem setShift_cls (d : Nat) {B : Nat} (hB : B < 2 ^ 30) {s z : St} {P : List Cl} {M0 M : Mem} (hs : Wf B s) (hC : Ch M0 0 s) {a : Nat} (T : TC M0 B (kpS z s a) P M) (hw : Wf B z) (hn : nsS z = nsS s) (hz : ∀ i, i < nsS z → z (1 + i) = s (1 + i)) : ∃ M', XC (d + 9) jX5_setShift [vR 5 0 0] M = some (some (vI (nI (fwS P z (siS s)))), M') ∧ TC M0 B (kpS z s (fwS P z (siS s))) P M' := by
  have h6 := hw.ns.2
  have h6s := hs.ns.2
  have hS := siS_sub (s := s) h6s
  have hPf := T.2.2.1.2.2
  obtain ⟨M1, e1, D1, C1, W1, m1⟩ := X1_keepNotes (d + 6) 1 0 (by decide) M T.2.2.2 hs T.2.1 (T.now hC) hS.1
  rw [kp_kp z s a _ h6, kp_si hn hz] at C1 W1
  have T1 : TC M0 B z P M1 := ⟨T.1.tr (D1.mono chg_SCR), C1, T.2.2.1.ch D1, W1⟩
  obtain ⟨M2, e2, D2, F2⟩ := X1_measure (d + 3) 1 M1 hB hw C1 T1.2.2.1
  have C2 := C1.sc D2
  have T2 : TC M0 B z P M2 := ⟨T1.1.tr (D2.mono scr1_SCR), C2, T1.2.2.1.sc D2, hw⟩
  have subs : ∀ k, k < 64 → nsb k (siS s) = 0 → Sub z k := fun k hk q => ⟨hk, fun r hr hb => by
    have b2 := nsb_sub hk hS.1 q hr hb
    obtain ⟨r1, r2⟩ := (siS_bt s r).mp b2
    unfold sg
    rw [hz r (by omega)]
    exact r2⟩
  generalize ho : siS s = o at hS subs e1
  have ho4 : o < 64 := hS.1
  have L := (chain (fun i => X (d + 8) jX5_setShift 35 [some (vR 5 0 0), some (vI (nI o)), some (vI (nI (fwV o (fwB P z o i)))), some (vI (nI (fwC (fwB P z o i)))), some (vI (nI i))] [] M2) (o + 1) (fun i hi => by
    have hi6 : i < 64 := by omega
    have hl := nsb_lt (o := o) hi6
    have hp := pop_le i
    have ok := fwB_ok (P := P) (z := z) ho4 (n := i) (by omega)
    have es : fwB P z o (i + 1) = fw1 P z o i (fwB P z o i) := rfl
    have hc7 : fwC (fwB P z o i) ≤ 7 := by
      match fwB P z o i with
      | none => exact Nat.le_refl _
      | some c => exact Nat.le_trans (pop_le c) (by decide)
    try dsimp only
    rw [B_X5_setShift_35, if_neg (nI_nlt (by omega) (by omega)), nsb_p hi6 ho4, es]
    unfold fw1
    by_cases q : nsb i o = 0
    · have q1 : nI (nsb i o) = 0 := by rw [q]; rfl
      have hSu := subs i hi6 q
      have hal := alS_le (s := z) (f := foS P z) i h6 (fun j hj => (F2 j hj).2)
      have hlo := loS_lt (all := alS z (foS P z) i) hw.nt.2
      rw [if_pos q1, J6_bitCount (d + 7) M2 hi6, bindI_some]
      by_cases c : fwC (fwB P z o i) ≤ pop i
      · rw [if_pos (nI_le c (by omega)), B_X5_setShift_87, nI_1]
        have e9 : (if nsb i o = 0 ∧ lmS z (foS P z) i = 0 then fw2 i (fwB P z o i) else fwB P z o i) = fwB P z o i := by
          by_cases g : nsb i o = 0 ∧ lmS z (foS P z) i = 0
          · rw [if_pos g]
            match hm : fwB P z o i with
            | none => rw [hm] at c; exact absurd c (by show ¬ 7 ≤ pop i; omega)
            | some e => rw [hm] at c; exact if_neg (by show ¬ pop i < pop e; exact Nat.not_lt.mpr c)
          · rw [if_neg g]
        rw [e9]
      · rw [if_neg (nI_ge (by omega) (by omega)), X1_allOf (d + 4) 1 M2 hw C2 F2 hSu, bindI_some, X1_looseBits (d + 6) 1 (by omega) M2 hw C2, bindI_some]
        by_cases g : (loS z (alS z (foS P z) i)).1 = 0
        · have g1 : nI (loS z (alS z (foS P z) i)).1 = 0 := by rw [g]; rfl
          have g2 : lmS z (foS P z) i = 0 := (pop_z hlo).mpr g
          have e9 : fw2 i (fwB P z o i) = some i := by
            match hm : fwB P z o i with
            | none => rfl
            | some e => rw [hm] at c; exact if_pos (by show pop i < pop e; exact Nat.not_le.mp c)
          rw [if_pos g1, J6_bitCount (d + 7) M2 hi6, bindI_some, B_X5_setShift_87, nI_1, if_pos ⟨q, g2⟩, e9]
          rfl
        · have g1 : ¬ nI (loS z (alS z (foS P z) i)).1 = 0 := nI_ne0 (by omega) (by omega)
          have g2 : ¬ lmS z (foS P z) i = 0 := fun w => g ((pop_z hlo).mp w)
          rw [if_neg g1, B_X5_setShift_87, nI_1, if_neg (fun w => g2 w.2)]
    · rw [if_neg (nI_ne0 (by omega) (by omega)), B_X5_setShift_87, nI_1, if_neg (fun w => q w.1)]))
  have hf := fwS_ok (P := P) (z := z) ho4
  obtain ⟨M3, e3, D3, C3, W3, m3⟩ := X1_keepNotes (d + 6) 1 0 (by decide) M2 hw hs C2 (T2.now hC) hf.1
  refine ⟨M3, ?_, ⟨T2.1.tr (D3.mono chg_SCR), C3, T2.2.2.1.ch D3, W3⟩⟩
  rw [E_X5_setShift, X1_singing (d + 7) 0 M hs (T.now hC), bindI_some, ho, e1, bindV_some, e2, bindV_some]
  refine Eq.trans L ?_
  try dsimp only
  have e4 : fwV o (fwB P z o (o + 1)) = fwS P z o := rfl
  rw [e4, B_X5_setShift_35, if_pos (nI_lt (by omega) (by omega)), B_X5_setShift_93, e3, bindV_some]
theorem fewestOf_ref (d : Nat) {B : Nat} (hB : B < 2 ^ 30) {s z : St} {P : List Cl} {N0 N : Mem} (T : TR N0 B s z P N) {o : Nat} (ho4 : o < 64) : ∃ N', XC (d + 9) jX6_fewestOf [vR 6 0 0, vI (nI o)] N = some (some (vI (nI (fwS P z o))), N') ∧ TR N0 B s z P N' := by
  obtain ⟨N', e, T', F⟩ := T.forces (d + 4) hB
  have hw := T.2.2.2.2
  refine ⟨N', ?_, T'⟩
  rw [E_X6_fewestOf, e, bindV_some]
  have L := (chain (fun i => X (d + 8) jX6_fewestOf 8 [some (vR 6 0 0), some (vI (nI o)), some (vI (fwR (fwB P z o i))), some (vI (nI i))] [] N') (o + 1) (fun i hi => by
    have hi6 : i < 64 := by omega
    have hl := nsb_lt (o := o) hi6
    have hp := pop_le i
    have ok := fwB_ok (P := P) (z := z) ho4 (n := i) (by omega)
    have hlm := lmS_le z (foS P z) i
    have es : fwB P z o (i + 1) = fw1 P z o i (fwB P z o i) := rfl
    try dsimp only
    rw [B_X6_fewestOf_8, if_neg (nI_nlt (by omega) (by omega)), nsb_p hi6 ho4, es]
    unfold fw1
    by_cases q : nsb i o = 0
    · have q1 : nI (nsb i o) = 0 := by rw [q]; rfl
      rw [if_pos q1, X6_looseMany (d + 2) hw T'.2.1 F hi6, bindI_some]
      by_cases g : lmS z (foS P z) i = 0
      · have g1 : nI (lmS z (foS P z) i) = 0 := by rw [g]; rfl
        rw [if_pos g1, if_pos (show nsb i o = 0 ∧ lmS z (foS P z) i = 0 from ⟨q, g⟩)]
        match hm : fwB P z o i, ok with
        | none, _ =>
          rw [show fwR none = -1 from rfl, if_pos rfl, B_X6_fewestOf_45, B_X6_fewestOf_47, nI_1]
          rfl
        | some c, ok =>
          have hpc := pop_le c
          have ec : fwR (some c) = nI c := rfl
          have c64 : c < 64 := ok.1
          rw [ec, if_neg (nI_m1 (by omega)), X6_sizeOf (d + 7) N' hi6, bindI_some, X6_sizeOf (d + 7) N' c64, bindI_some]
          unfold fw2
          by_cases w : pop i < pop c
          · simp only [if_pos w]
            rw [if_neg (nI_ge w (by omega)), B_X6_fewestOf_45, B_X6_fewestOf_47, nI_1]
            rfl
          · simp only [if_neg w]
            rw [if_pos (nI_le (by omega) (by omega)), B_X6_fewestOf_47, nI_1]
            rfl
      · rw [if_neg (nI_ne0 (by omega) (by omega)), B_X6_fewestOf_47, nI_1, if_neg (fun w => g w.2)]
    · rw [if_neg (nI_ne0 (by omega) (by omega)), B_X6_fewestOf_47, nI_1, if_neg (fun w => q w.1)]))
  refine Eq.trans L ?_
  try dsimp only
  rw [B_X6_fewestOf_8, if_pos (nI_lt (by omega) (by omega)), B_X6_fewestOf_53]
  unfold fwS
  match hm : fwB P z o (o + 1), fwB_ok (P := P) (z := z) ho4 (Nat.le_refl (o + 1)) with
  | none, _ => rw [show fwR none = -1 from rfl, if_pos rfl, B_X6_fewestOf_63]; rfl
  | some c, ok =>
    have ec : fwR (some c) = nI c := rfl
    have c64 : c < 64 := ok.1
    rw [ec, if_neg (nI_m1 (by omega)), B_X6_fewestOf_62, B_X6_fewestOf_63]
    rfl
def shZ (P : List Cl) (s : St) (n : Nat) : St := itr (fun _ z => goS P z (fwS P z (siS s))) n s
def shK (P : List Cl) (s : St) (n : Nat) : Nat := match n with
  | 0 => siS s
  | n + 1 => fwS P (shZ P s n) (siS s)
def shV (P : List Cl) (s : St) (n : Nat) : Int32 := match n with
  | 0 => 0
  | n + 1 => nI (fwS P (shZ P s n) (siS s))
theorem shZ_ok {B : Nat} {s : St} (hs : Wf B s) (P : List Cl) : ∀ n, Wf (B + n) (shZ P s n) ∧ Sm s (shZ P s n) ∧ ∀ i, i < 6 → shZ P s n (1 + i) = s (1 + i)
  | 0 => ⟨hs, ⟨rfl, rfl⟩, fun _ _ => rfl⟩
  | n + 1 => by
    obtain ⟨h1, h2, h3⟩ := shZ_ok hs P n
    have g := goS_ok h1 P (fwS P (shZ P s n) (siS s))
    have n1 := h1.ns.2
    refine ⟨g.1, ⟨g.2.1.trans h2.1, g.2.2.trans h2.2⟩, fun i hi => ?_⟩
    rw [← h3 i hi]
    show goS P (shZ P s n) (fwS P (shZ P s n) (siS s)) (1 + i) = _
    rw [goS_at P n1, if_neg (by omega), if_neg (by omega), if_neg (by omega)]
theorem q_shift (d : Nat) (x y : Int32) {B : Nat} {s : St} {P : List Cl} {M : Mem} (h : QC B s P M) : Ans M s (XC (d + 20) jX5_shift [vR 5 0 0, vI x, vI y] M) (fun N => XC (d + 20) jX6_shift [vR 6 0 0, vI x, vI y] N) := by
  obtain ⟨hB, hs, hC, hH, hR⟩ := h
  obtain ⟨hn, h6⟩ := hs.ns
  have hS := siS_sub (s := s) h6
  by_cases b : 0 ≤ y ∧ y ≤ 2
  · have c11 : XC (d + 20) jX5_shift [vR 5 0 0, vI x, vI y] M = if 1 ≤ x ∧ x ≤ 8 then X (d + 19) jX5_shift 25 [some (vR 5 0 0), some (vI x), some (vI y), none, none] [] M else some (some (vI (-2)), M) := by
      rw [E_X5_shift, rng, if_pos b, B_X5_shift_11, rng, B_X5_shift_22]
    have r11 : ∀ N, XC (d + 20) jX6_shift [vR 6 0 0, vI x, vI y] N = if 1 ≤ x ∧ x ≤ 8 then X (d + 19) jX6_shift 24 [some (vR 6 0 0), some (vI x), some (vI y), none, none, none, none] [] N else some (some (vI (-2)), N) := fun N => by
      rw [E_X6_shift, X6_in, bindI_some, if_pos b, ne_10, B_X6_shift_11, X6_in, bindI_some]
      by_cases q : 1 ≤ x ∧ x ≤ 8
      · rw [if_pos q, if_pos q, ne_10]
      · rw [if_neg q, if_neg q, eq_00]
    by_cases q : 1 ≤ x ∧ x ≤ 8
    · obtain ⟨n, hn8, rfl⟩ := in_le (n := 8) (by omega) rfl ⟨Int32.le_trans (by decide) q.1, q.2⟩
      obtain ⟨M1, e1, T1⟩ := TC.become (d + 18) hs hC hH
      have ns : ∀ i, nsS (shZ P s i) = nsS s := fun i => by unfold nsS; rw [(shZ_ok hs P i).2.1.1]
      obtain ⟨M3, e3, T3⟩ := loop_ex (fun i (zM : Mem) => X (d + 19) jX5_shift 41 [some (vR 5 0 0), some (vI (nI n)), some (vI y), some (vI (shV P s i)), some (vI (nI i))] [] zM) (fun i zM => TC M (B + i) (kpS (shZ P s i) s (shK P s i)) P zM) n M1 (by
          have e0 : kpS (shZ P s 0) s (shK P s 0) = s := kp_si rfl (fun _ _ => rfl)
          rw [e0]; exact T1) (fun i zM hi zT => by
        obtain ⟨w1, w2, w3⟩ := shZ_ok hs P i
        have h6z : nsS (shZ P s i) ≤ 6 := by rw [ns]; exact h6
        have hz : ∀ j, j < nsS (shZ P s i) → shZ P s i (1 + j) = s (1 + j) := fun j hj => w3 j (by omega)
        obtain ⟨m1, f1, t1⟩ := setShift_cls (d + 10) (by omega) (hs.mono (by omega)) hC zT w1 (ns i) hz
        obtain ⟨m2, f2, t2⟩ := t1.beat (d + 13) (by omega)
        refine ⟨m2, ?_, ?_⟩
        · try dsimp only
          rw [B_X5_shift_41, ge_no hi (by omega), f1, bindI_some, f2, bindI_some, nI_1]
          rfl
        · rw [kp_go P h6z w1.nt.2 hz] at t2
          exact t2)
      obtain ⟨w1, w2, w3⟩ := shZ_ok hs P n
      have h6z : nsS (shZ P s n) ≤ 6 := by rw [ns]; exact h6
      have cls : XC (d + 20) jX5_shift [vR 5 0 0, vI (nI n), vI y] M = X (d + 19) jX5_shift 66 [some (vR 5 0 0), none, some (vI y), some (vI (shV P s n)), none] [] M3 := by
        rw [c11, if_pos q, B_X5_shift_25, e1, bindV_some]
        refine Eq.trans e3 ?_
        try dsimp only
        rw [B_X5_shift_41, le_self]
      have eT : tiS (kpS (shZ P s n) s (shK P s n)) = tiS (shZ P s n) := itr_cg2 rfl _ _ (kpS_ns _ _ _ h6z) (fun i z hi => by
        rw [kpS_hi _ _ _ (by omega) h6z])
      have eF : faS (kpS (shZ P s n) s (shK P s n)) = faS (shZ P s n) := itr_cg2 rfl _ _ (kpS_nt _ _ _ h6z) (fun i z hi => by
        rw [kpS_hi _ _ _ (by omega) h6z])
      refine ⟨vI (if y = 0 then nI (tiS (shZ P s n)) else if y = 1 then nI (faS (shZ P s n)) else shV P s n), M3, ?_, T3.1, fun N hN => ?_⟩
      · rw [cls, B_X5_shift_66]
        by_cases c0 : y = 0
        · rw [if_pos c0, if_pos c0, X1_sumTired (d + 18) 1 M3 T3.2.2.2 T3.2.1, bindI_some, eT]
        · rw [if_neg c0, if_neg c0, B_X5_shift_78]
          by_cases c1 : y = 1
          · rw [if_pos c1, if_pos c1, X1_countFallen (d + 18) 1 M3 T3.2.2.2 T3.2.1, bindI_some, B_X5_shift_94, eF]
          · rw [if_neg c1, if_neg c1, B_X5_shift_93, B_X5_shift_94]
      · obtain ⟨N1, g1, K, U1⟩ := TR.keeps (d + 18) hs hN hR
        obtain ⟨N3, g3, U3⟩ := loop_ex (fun i (zM : Mem) => X (d + 19) jX6_shift 39 [some (vR 6 0 0), some (vI (nI n)), some (vI y), some (vI (nI (siS s))), some (vI (shV P s i)), some (vI (nI i)), none] [] zM) (fun i zM => TR N1 (B + i) s (shZ P s i) P zM) n N1 U1 (fun i zM hi zT => by
          obtain ⟨m1, f1, t1⟩ := fewestOf_ref (d + 10) (by omega) zT hS.1
          obtain ⟨m2, f2, t2⟩ := t1.goesBy (d + 13) (by omega) (fwS_ok (P := P) (z := shZ P s i) hS.1).1
          refine ⟨m2, ?_, t2⟩
          try dsimp only
          rw [B_X6_shift_39, ge_no hi (by omega), f1, bindI_some, f2, bindI_some, nI_1]
          rfl)
        obtain ⟨N2, g2, R2⟩ := U3.back (d + 18) K hN
        have U1A := U1.2.1
        have LT := loop_all (fun i (z : Nat) => X (d + 19) jX6_shift 71 [some (vR 6 0 0), none, some (vI y), none, some (vI (shV P s n)), some (vI (nI z)), some (vI (nI i))] [] N3) (fun i z => z + (shZ P s n (7 + i)).toNatClampNeg) (nsS (shZ P s n)) 0 (fun i z hi => by
          try dsimp only
          rw [B_X6_shift_71, U3.2.1, w1.ns.1, ge_no hi (by omega), la7, ob_no (by omega) (by omega), cl_no (by omega)]
          try dsimp only
          rw [← nI_add z, ← (w1.2.2.2.2.2.2.1.val (i := i) (by omega) (by decide)).1, nI_1])
        refine ⟨N2, ?_, R2⟩
        try dsimp only
        rw [r11, if_pos q, B_X6_shift_24, g1, bindV_some, X6_singing (d + 17) N1 hs U1A, bindI_some]
        refine Eq.trans g3 ?_
        try dsimp only
        rw [B_X6_shift_39, le_self, B_X6_shift_65]
        refine Eq.trans LT ?_
        try dsimp only
        rw [B_X6_shift_71, U3.2.1, w1.ns.1, le_self, B_X6_shift_104]
        by_cases c0 : y = 0
        · rw [if_pos c0, if_pos c0, B_X6_shift_127, g2, bindV_some]
          rfl
        · rw [if_neg c0, if_neg c0, B_X6_shift_113]
          by_cases c1 : y = 1
          · rw [if_pos c1, if_pos c1, X6_fallenMany (d + 18) N3 w1 U3.2.1, bindI_some, B_X6_shift_127, g2, bindV_some]
          · rw [if_neg c1, if_neg c1, B_X6_shift_125, B_X6_shift_127, g2, bindV_some]
    · refine Ans.pure (vI (-2)) ?_ (fun N hN => ?_)
      · rw [c11, if_neg q]
      · rw [r11, if_neg q]
  · refine Ans.pure (vI (-1)) ?_ (fun N hN => ?_)
    · rw [E_X5_shift, rng, if_neg b, B_X5_shift_9]
    · rw [E_X6_shift, X6_in, bindI_some, if_neg b, eq_00]
