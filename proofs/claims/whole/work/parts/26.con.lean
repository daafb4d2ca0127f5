/-! runs and contracts -/
theorem chB_drop {b : ByteArray} (t : Nat) : ∀ (l : List CE) (pc : Nat), chB b pc l = true → chB b t (dropTo t l) = true
  | [], _, _ => rfl
  | (p, n, i, a, b9, e) :: r, pc, h => by
    simp only [dropTo]
    cases hp : (p == t)
    · simp only [chB, Bool.and_eq_true] at h
      exact chB_drop t r _ h.2
    · have hp : p = t := by simpa using hp
      simp only [cond_true]
      have h9 := h
      simp only [chB, Bool.and_eq_true, beq_iff_eq] at h9
      rw [h9.1.1] at hp
      rw [← hp]; exact h
theorem eoks_drop {j : Nat} (t : Nat) : ∀ l : List CE, eoks j l → eoks j (dropTo t l)
  | [], h => h
  | q :: r, h => by
    simp only [dropTo]
    cases (q.1 == t)
    · exact eoks_drop t r h.2
    · exact h
theorem lnB_drop (t : Nat) : ∀ l : List CE, lnB l = true → lnB (dropTo t l) = true
  | [], h => h
  | q :: r, h => by
    simp only [dropTo]
    cases (q.1 == t)
    · simp only [lnB, List.all_cons, Bool.and_eq_true] at h
      exact lnB_drop t r h.2
    · exact h
section
variable {p : Program} {l : Launch} {e : Env} {R : Room} {s : State} {m : MethodId} {args : Array Value} {below : List Frame} {meth : Method} {c : Code} {cells slots : Nat} {Q : State → Prop} {dC : Nat → ClassId} {dI : Nat → Nat → Nat} {ρ : EnvR} {A : Nat → Prop} {x : ScrX} {Ts : List Cond} {d j : Nat}
theorem Jd.mask {t : Nat} {ls : LL} {st : List AV} {M : Mem} (z : Nat) (h : Jd p l e R s m args below meth c cells slots Q dC dI ρ A x j t (maskL ls z) st M) : Jd p l e R s m args below meth c cells slots Q dC dI ρ A x j t ls st M :=
  fun H locs la hx9 hL hSt hP hD hS hl => h H locs la hx9 (hL.mask z) hSt hP hD hS (hl.mask z)
theorem Jd.of {t : Nat} {ls : LL} {st : List AV} {M : Mem} (h : M.2.2 = x → okS st → Jd p l e R s m args below meth c cells slots Q dC dI ρ A x j t ls st M) : Jd p l e R s m args below meth c cells slots Q dC dI ρ A x j t ls st M :=
  fun H locs la hx9 hL hSt hP hD hS hl => h hx9 hSt H locs la hx9 hL hSt hP hD hS hl
def clO (n d : Nat) : ClT := fun j' as M' => match d with
  | 0 => none
  | d' + 1 => bif Nat.ble (argL as).length (mlO j') then exec n d' j' 0 (padL (mlO j') (argL as)) [] M' else none
theorem clO_keep {n d jj : Nat} {as : List AV} {M : Mem} {r : Option AV × Mem} (h : clO n d jj as M = some r) : r.2.2.2 = M.2.2 := by
  unfold clO at h
  match d, h with
  | 0, h => cases h
  | d' + 1, h =>
    simp only at h
    cases hb : Nat.ble (argL as).length (mlO jj)
    · rw [hb] at h; cases h
    · rw [hb] at h; exact exec_keep n d' jj 0 _ [] M r h
theorem eok_s {jj i pc n b9 e9 : Nat} (hjj : jj < nM - 1) (h : eok j (pc, n, .invokestatic i, jj, b9, e9)) : (owO j, i, yO jj) ∈ nstM ∨ Cond.methodLink (owO j) i (yO jj) ∈ wBig := by
  have h209 : nM - 1 = 209 := rfl
  simp only [eok] at h
  rw [if_neg (by omega), if_neg (by omega), if_neg (by omega), if_neg (by omega), if_neg (by omega)] at h
  exact h
theorem sound_run (F : Fr p R s m args c cells slots dC dI ρ A x Ts d j) {n : Nat} {res : Option AV × Mem}
    (hcl : ∀ jj as M o M', clO n d jj as M = some (o, M') → jj < nM - 1 → okS as → M.2.2 = x → Con l dC dI ρ x d jj as M o M')
    (hag : ∀ t ls st M, exec n d j t ls st M = some res → Jd p l e R s m args below meth c cells slots Q dC dI ρ A x j t ls st M)
    (hret : ∀ pc v M, some (v, M) = some res → RetC j pc v → ∀ (H : Heap) (locs : List Loc) (la : Array Slot), M.2.2 = x → va_P (dC, dI) clsT (wsO ρ M) H → va_D A (wsO ρ M) → va_S A s.heap H locs → W p l e R s m args below meth c H locs cells slots Q (F0 m pc la (v.toList.map (cv ρ)))) :
    ∀ (L : List CE) (pc : Nat), chB (bO j) pc L = true → eoks j L → lnB L = true → ∀ (ls : LL) (st : List AV) (M : Mem), run (exec n d j) (clO n d) L ls st M = some res → Jd p l e R s m args below meth c cells slots Q dC dI ρ A x j pc ls st M
  | [], _, _, _, _, _, _, _, h => by cases h
  | (p9, len, ins, a, b, e9) :: r, pc, hch, hek, hln, ls, st, M, h => by
    simp only [chB, Bool.and_eq_true, beq_iff_eq, decide_eq_true_eq] at hch
    obtain ⟨⟨rfl, hdec⟩, hch⟩ := hch
    obtain ⟨hek1, hek⟩ := hek
    simp only [lnB, List.all_cons, Bool.and_eq_true, Bool.or_eq_true, beq_iff_eq] at hln
    obtain ⟨hln1, hln⟩ := hln
    have hnx : ∀ (ls : LL) (st : List AV) (M : Mem), (bif e9 == 0 then run (exec n d j) (clO n d) r ls st M else exec n d j (p9 + len) (maskL ls (e9 - 1)) st M) = some res → Jd p l e R s m args below meth c cells slots Q dC dI ρ A x j (p9 + len) ls st M := by
      intro ls st M h
      cases hz : (e9 == 0)
      · rw [hz] at h; exact (hag _ _ _ _ h).mask _
      · rw [hz] at h; exact sound_run F hcl hag hret r (p9 + len) hch hek hln ls st M h
    simp only [run] at h
    refine sound_step F hdec hln1 hek1 hnx hag ?_ ?_ (fun v M hh hr => hret p9 v M hh hr) h
    · intro i jj as ls st M hi ha hc n9 r9 hjj hst has hrl hcs
      subst ha
      subst hi
      have hlen : 3 = len := by simpa [lenO] using hln1
      subst hlen
      obtain ⟨o, M2, h1, h2, hos⟩ := bindR_ok hc
      have hm : mok a := mok_all a hjj
      match d, F, hcl, h1 with
      | 0, F, hcl, h1 => cases h1
      | d + 1, F, hcl, h1 =>
        refine Jd.of (fun hx9 hSt => ?_)
        have hoka : okS as := fun v hv => hSt v (List.mem_append_left _ (List.mem_reverse.mpr hv))
        have hok : okS st := fun v hv => hSt v (List.mem_append_right _ hv)
        exact call_v F hdec hek1 hm hst hjj has hrl hcs (hcl a as M o M2 h1 hjj hoka hx9) ((clO_keep h1).trans hx9) hoka hok hos (hnx _ _ _ h2)
    · intro i jj as ls st M hi ha hc hjj hst hn hcs
      subst ha
      subst hi
      have hlen : 3 = len := by simpa [lenO] using hln1
      subst hlen
      obtain ⟨o, M2, h1, h2, hos⟩ := bindR_ok hc
      have hm : mok a := mok_all a hjj
      match d, F, hcl, h1 with
      | 0, F, hcl, h1 => cases h1
      | d + 1, F, hcl, h1 =>
        refine Jd.of (fun hx9 hSt => ?_)
        have hoka : okS as := fun v hv => hSt v (List.mem_append_left _ (List.mem_reverse.mpr hv))
        have hok : okS st := fun v hv => hSt v (List.mem_append_right _ hv)
        exact call_s F hdec (eok_s hjj hek1) hm hst hn hcs (hcl a as M o M2 h1 hjj hoka hx9) ((clO_keep h1).trans hx9) hok hos (hnx _ _ _ h2)
theorem sound_exec (F : Fr p R s m args c cells slots dC dI ρ A x Ts d j) (hcode : chB (bO j) 0 (kO j) = true ∧ eoks j (kO j) ∧ lnB (kO j) = true) {res : Option AV × Mem}
    (hret : ∀ pc v M, some (v, M) = some res → RetC j pc v → ∀ (H : Heap) (locs : List Loc) (la : Array Slot), M.2.2 = x → va_P (dC, dI) clsT (wsO ρ M) H → va_D A (wsO ρ M) → va_S A s.heap H locs → W p l e R s m args below meth c H locs cells slots Q (F0 m pc la (v.toList.map (cv ρ)))) :
    ∀ n : Nat, (∀ n', n' < n → ∀ jj as M o M', clO n' d jj as M = some (o, M') → jj < nM - 1 → okS as → M.2.2 = x → Con l dC dI ρ x d jj as M o M') →
    ∀ (pc : Nat) (ls : LL) (st : List AV) (M : Mem), exec n d j pc ls st M = some res → Jd p l e R s m args below meth c cells slots Q dC dI ρ A x j pc ls st M
  | 0, _, _, _, _, _, h => by cases h
  | n + 1, hcl, pc, ls, st, M, h => by
    rw [exec] at h
    exact sound_run F (hcl n (Nat.lt_succ_self n)) (fun t ls st M h => sound_exec F hcode hret n (fun n' hn => hcl n' (Nat.lt_succ_of_lt hn)) t ls st M h) hret _ pc (chB_drop pc _ _ hcode.1) (eoks_drop pc _ hcode.2.1) (lnB_drop pc _ hcode.2.2) ls st M h
end
theorem lget_app {a b : LL} (hb : ∀ k, lget b k = none) : ∀ {i : Nat} {v : AV}, lget (a ++ b) i = some v → lget a i = some v := by
  induction a with
  | nil => intro i v h; rw [List.nil_append, hb] at h; cases h
  | cons q r ih =>
    intro i v h
    match i, h with
    | 0, h => exact h
    | i + 1, h => exact ih h
theorem lget_none : ∀ (n k : Nat), lget (List.replicate n (none : Option AV)) k = none
  | 0, _ => rfl
  | n + 1, 0 => rfl
  | n + 1, k + 1 => lget_none n k
theorem argL_args {ρ : EnvR} (hs : ρ.2.1.category = 1) : ∀ (as : List AV) (k i : Nat) (v : AV), lget (argL as) i = some v → (k + i, cv ρ v) ∈ lv_args k (as.map (cv ρ)) ∧ v ∈ as
  | [], _, _, _, h => by cases h
  | .inl y :: r, k, 0, v, h => by cases h; exact ⟨List.mem_cons_self, List.mem_cons_self⟩
  | .inl y :: r, k, i + 1, v, h => by
    have h9 := argL_args hs r (k + 1) i v h
    refine ⟨List.mem_cons_of_mem _ ?_, List.mem_cons_of_mem _ h9.2⟩
    rw [show k + (i + 1) = k + 1 + i from by omega]; exact h9.1
  | .inr (.inl y) :: r, k, 0, v, h => by cases h; exact ⟨List.mem_cons_self, List.mem_cons_self⟩
  | .inr (.inl y) :: r, k, 1, v, h => by cases h
  | .inr (.inl y) :: r, k, i + 2, v, h => by
    have h9 := argL_args hs r (k + 2) i v h
    refine ⟨List.mem_cons_of_mem _ ?_, List.mem_cons_of_mem _ h9.2⟩
    rw [show k + (i + 2) = k + 2 + i from by omega]; exact h9.1
  | .inr (.inr q) :: r, k, 0, v, h => by cases h; exact ⟨List.mem_cons_self, List.mem_cons_self⟩
  | .inr (.inr q) :: r, k, i + 1, v, h => by
    have h9 := argL_args hs r (k + 1) i v h
    have hc : (cv ρ (.inr (.inr q))).category = 1 := cv_cat ρ hs (.inr (.inr q))
    refine ⟨List.mem_cons_of_mem _ ?_, List.mem_cons_of_mem _ h9.2⟩
    show (k + (i + 1), cv ρ v) ∈ lv_args (if (cv ρ (.inr (.inr q))).category = 2 then k + 2 else k + 1) (r.map (cv ρ))
    rw [hc, show k + (i + 1) = k + 1 + i from by omega]; exact h9.1
theorem argL_len {ρ : EnvR} (hs : ρ.2.1.category = 1) : ∀ as : List AV, (lg_sl (as.map (cv ρ))).length = (argL as).length
  | [] => rfl
  | v :: r => by
    have ih := argL_len hs r
    have hc := cv_cat ρ hs v
    have e1 : (lg_sl ((v :: r).map (cv ρ))).length = (if (cv ρ v).category = 2 then 2 else 1) + (lg_sl (r.map (cv ρ))).length := by
      simp only [lg_sl, List.map_cons, List.flatMap_cons, List.length_append]
      split <;> rfl
    rw [e1, ih, hc]
    match v with
    | .inl y => simp only [isL, argL, List.length_cons, cond_false]; simp; omega
    | .inr (.inl y) => simp only [isL, argL, List.length_cons, cond_true]; simp; omega
    | .inr (.inr q) => simp only [isL, argL, List.length_cons, cond_false]; simp; omega
/-- every method's contract -/
theorem con_all (l : Launch) (dC : Nat → ClassId) (dI : Nat → Nat → Nat) (ρ : EnvR) (x : ScrX) : ∀ (N n : Nat), n < N → ∀ (d jj : Nat) (as : List AV) (M : Mem) (o : Option AV) (M' : Mem), clO n d jj as M = some (o, M') → jj < nM - 1 → okS as → M.2.2 = x → Con l dC dI ρ x d jj as M o M' := by
  intro N
  induction N with
  | zero => intro n hn; exact absurd hn (Nat.not_lt_zero _)
  | succ N ih =>
    intro n hn d jj as M o M' h hjj hoka hx9
    match d, h with
    | 0, h => cases h
    | d + 1, h =>
      simp only [clO] at h
      cases hfit : Nat.ble (argL as).length (mlO jj)
      · rw [hfit] at h; cases h
      · rw [hfit] at h
        have h : exec n d jj 0 (padL (mlO jj) (argL as)) [] M = some (o, M') := h
        have hfit := Nat.le_of_ble_eq_true hfit
        obtain ⟨m1, m2, m3, m4, m5, m6, m7, m8, m9, m10⟩ := mok_all jj hjj
        intro sz
        refine Met.ofW (cc := bO jj) (maxL := mlO jj) (ret := reO jj) m4 rfl ?_
        intro p e s m args below meth c s₁ B hml hv
        obtain ⟨rfl, hsz, hP, hK, hD0, hSta⟩ := hv
        have hx := B.exec
        have hb := B.bytes
        have hr := B.returns
        have hts := atoms_spec (ws := wU jj) B.pre
        have hown : s.vm.findClass (owO jj) = some m.cls := by rw [m6]; exact findClass_of_methodNamed B.named
        have hlocks := B.notSynchronized
        subst hsz
        have hD := hD0.self (sz := s.heap.size)
        have hA : ∀ q : Nat, s.heap.size ≤ q → va_A (wsO ρ M) s.heap.size q := fun q h => Or.inr h
        have hsio : ρ.2.1.category = 1 := cat_of_ref hSta.2.2.2.2.2.2.2.2.2.2
        have F : Fr p (headSpec (wU jj) (rmO (d + 1))).room s m (as.map (cv ρ)).toArray c 0 0 dC dI ρ (va_A (wsO ρ M) s.heap.size) x (wU jj) d jj :=
          ⟨hx, hb, hml, hown, hts, fun w hw => List.mem_cons_of_mem _ hw, hK, hSta, hA, ⟨Nat.le_refl _, Nat.le_refl _⟩, ⟨Nat.le_refl _, Nat.le_refl _⟩⟩
        rw [lg_entry_eq]
        have hle : (lg_sl (as.map (cv ρ))).length ≤ mlO jj := by rw [argL_len hsio]; exact hfit
        have hl := lv_entry (as.map (cv ρ)) hle
        generalize (lg_sl (as.map (cv ρ)) ++ List.replicate (mlO jj - (lg_sl (as.map (cv ρ))).length) Slot.unset).toArray = la at hl ⊢
        have hget : ∀ i v, lget (padL (mlO jj) (argL as)) i = some v → lget (argL as) i = some v := fun i v hv => lget_app (lget_none _) hv
        have hLh : Lh ρ (mlO jj) la (padL (mlO jj) (argL as)) := by
          refine ⟨hl.1, hl.2.1, ?_, fun i v hv => ?_⟩
          · simp only [padL, List.length_append, List.length_replicate]; omega
          · have h9 := (argL_args hsio as 0 i v (hget i v hv)).1
            have h10 := hl.2.2 _ h9
            simpa using h10
        have hokL : okL (padL (mlO jj) (argL as)) := fun i v hv => hoka v (argL_args hsio as 0 i v (hget i v hv)).2
        have key := sound_exec (Q := MQ below (postO o (fun t => va_P (dC, dI) clsT (wsO ρ M') t.heap) (va_A (wsO ρ M) s.heap.size)) (as.map (cv ρ)).toArray s 0 0 (va_A (wsO ρ M) s.heap.size)) (l := l) (e := e) (below := below) (meth := meth) F ⟨m7, m8, m10⟩ (res := (o, M')) ?_ n (fun n' hn' jj as M o M' h1 h2 h3 h4 => ih n' (by omega) d jj as M o M' h1 h2 h3 h4) 0 _ [] M h
        · exact key s.heap [] la hx9 hokL (fun v hv => by cases hv) hP hD va_S.rf hLh
        · intro pc v M2 hh hrc H locs la2 hx2 hP2 hD2 hS2
          cases hh
          match o, hrc with
          | none, hrc =>
            obtain ⟨r1, r2⟩ := hrc
            exact W.vret hx hb (hr.trans r2.symm) (fun t ht hW => ⟨⟨(), rfl, trivial, (show va_P (dC, dI) clsT (wsO ρ M') t.heap by rw [ht]; exact hP2)⟩, hS2.F ht⟩) hS2.2.2 r1
          | some (.inl z), hrc =>
            obtain ⟨r1, ty, r2, r3⟩ := hrc
            exact W.zret hx hb (hr.trans r2) r3 (fun t ht hW => ⟨⟨z, (), rfl, rfl, (show va_P (dC, dI) clsT (wsO ρ M') t.heap by rw [ht]; exact hP2)⟩, hS2.F ht⟩) hS2.2.2 r1
          | some (.inr (.inl z)), hrc =>
            obtain ⟨r1, r2⟩ := hrc
            exact W.lret hx hb (hr.trans r2.symm) (fun t ht hW => ⟨⟨z, (), rfl, rfl, (show va_P (dC, dI) clsT (wsO ρ M') t.heap by rw [ht]; exact hP2)⟩, hS2.F ht⟩) hS2.2.2 r1
          | some (.inr (.inr z)), hrc => exact absurd hrc id
