/-! WHAT STANDS STILL: texts, static arrays, the script; what a frame of the machine knows -/
abbrev ScrX : Type := (Nat → Int32) × Nat
def Sta (ρ : EnvR) (A : Nat → Prop) (x : ScrX) (U : State) (H : Heap) : Prop :=
  (∀ n : Nat, n < 6 → va_O "java/lang/String" (ρ.1 20 n 0) A U H ∧ va_OF "java/lang/String" "coder" "B" (.int 0) (ρ.1 20 n 0) A U H ∧ va_OF "java/lang/String" "value" "[B" (.ref (ρ.1 20 n 1)) (ρ.1 20 n 0) A U H ∧ va_T .byte (ρ.1 20 n 1) (strBL.getD n []).length (fun j => .int (strB n j)) A U H) ∧
  (∀ n : Nat, n < 3 → va_Z "ChoirRoof" (staN.getD n "") "[I" (.ref (ρ.1 21 n 1)) A U H ∧ va_T .int (ρ.1 21 n 1) (staBL.getD n []).length (fun j => .int (staB n j)) A U H) ∧
  va_Z "java/lang/String" "COMPACT_STRINGS" "Z" (.int 1) A U H ∧
  va_Z "jdk/internal/util/Preconditions" "SIOOBE_FORMATTER" "Ljava/util/function/BiFunction;" ρ.2.1 A U H ∧
  (∀ e ∈ strTab, vk_R e.1 e.2.1 (strX.getD e.2.2 "") (ρ.1 20 e.2.2 0) U) ∧
  (∀ e ∈ nstM, va_Nw (.methodLinkNest e.1 e.2.1 e.2.2 "ChoirRoof") U) ∧
  (∀ e ∈ nstF, va_Nw (.fieldLinkNest e.1 e.2.1 "ChoirRoof" (staN.getD e.2.2 "") "[I" "ChoirRoof") U) ∧
  va_X (ρ.1 24 0 0) x.2 x.1 U H ∧ ρ.1 24 0 0 < H.size ∧ ¬ A (ρ.1 24 0 0) ∧ ρ.2.1.isRef = true
theorem Sta.to {ρ : EnvR} {A B : Nat → Prop} {x : ScrX} {s U : State} {H : Heap} {locs : List Loc} (h : Sta ρ A x s s.heap) (hS : va_S A s.heap H locs) (hW : s.WarmedH U.vm) (hU : U.heap = H) (hAB : ∀ q, B q → A q) : Sta ρ B x U U.heap := by
  obtain ⟨h1, h2, h3, h4, h5, h6, h7, h8, h9, h10, h11⟩ := h
  rw [hU]
  refine ⟨fun n hn => ?_, fun n hn => ?_, ((h3.kept hS.2.1).moved hW.alike).narrow hAB, ((h4.kept hS.2.1).moved hW.alike).narrow hAB, fun e he => vk_R.warm hW (h5 e he), fun e he => va_Nw.warmM hW (h6 e he), fun e he => va_Nw.warmF hW (h7 e he), ?_, Nat.lt_of_lt_of_le h9 hS.1, fun q => h10 (hAB _ q), h11⟩
  · obtain ⟨a, b, c, d⟩ := h1 n hn
    exact ⟨((a.kept hS.2.1).moved hW.alike).narrow hAB, ((b.kept hS.2.1).moved hW.alike).narrow hAB, ((c.kept hS.2.1).moved hW.alike).narrow hAB, ((d.kept hS.2.1).moved hW.alike).narrow hAB⟩
  · obtain ⟨a, b⟩ := h2 n hn
    exact ⟨((a.kept hS.2.1).moved hW.alike).narrow hAB, ((b.kept hS.2.1).moved hW.alike).narrow hAB⟩
  · exact (h8.kept (hS.2.1 _ h9 h10)).moved hW.alike
theorem Sta.calling {ρ : EnvR} {A : Nat → Prop} {x : ScrX} {U : State} (g : JFrame) (mk : MethodId) (a : Array Value) (h : Sta ρ A x U U.heap) : Sta ρ A x (U.calling g mk a) (U.calling g mk a).heap := by
  have hv : U.vm.Alike (U.calling g mk a).vm := Vm.Alike.refl U.vm
  obtain ⟨h1, h2, h3, h4, h5, h6, h7, h8, h9, h10, h11⟩ := h
  refine ⟨fun n hn => ?_, fun n hn => ?_, va_Z.moved (H := U.heap) hv h3, va_Z.moved (H := U.heap) hv h4, fun e he => vk_R.same rfl (h5 e he), fun e he => va_Nw.same rfl rfl (h6 e he), fun e he => va_Nw.same rfl rfl (h7 e he), va_X.moved (H := U.heap) hv h8, h9, h10, h11⟩
  · obtain ⟨a1, b, c, d⟩ := h1 n hn
    exact ⟨va_O.moved (H := U.heap) hv a1, va_OF.moved (H := U.heap) hv b, va_OF.moved (H := U.heap) hv c, va_T.moved (H := U.heap) hv d⟩
  · obtain ⟨a1, b⟩ := h2 n hn
    exact ⟨va_Z.moved (H := U.heap) hv a1, va_T.moved (H := U.heap) hv b⟩
/-! ## locals -/
def Lh (ρ : EnvR) (n : Nat) (la : Array Slot) (ls : LL) : Prop := la.size = n ∧ lv_wf la ∧ ls.length = n ∧ ∀ i v, lget ls i = some v → la[i]? = some (.val (cv ρ v))
theorem lget_lt : ∀ {ls : LL} {i : Nat} {v : AV}, lget ls i = some v → i < ls.length
  | [], _, _, h => absurd h (by simp [lget])
  | _ :: _, 0, _, _ => Nat.zero_lt_succ _
  | _ :: r, i + 1, v, h => Nat.succ_lt_succ (lget_lt (ls := r) h)
def lprs (ρ : EnvR) (ls : LL) : List (Nat × Value) := (List.range ls.length).filterMap (fun i => (lget ls i).map (fun v => (i, cv ρ v)))
theorem lprs_mem {ρ : EnvR} {ls : LL} {q : Nat × Value} : q ∈ lprs ρ ls ↔ ∃ v, lget ls q.1 = some v ∧ q.2 = cv ρ v := by
  unfold lprs
  rw [List.mem_filterMap]
  constructor
  · rintro ⟨i, _, h⟩
    rw [Option.map_eq_some_iff] at h
    obtain ⟨v, h1, rfl⟩ := h
    exact ⟨v, h1, rfl⟩
  · rintro ⟨v, h1, h2⟩
    exact ⟨q.1, List.mem_range.mpr (lget_lt h1), by rw [h1]; simp [← h2]⟩
theorem Lh.has {ρ : EnvR} {n : Nat} {la : Array Slot} {ls : LL} (h : Lh ρ n la ls) : lv_has la n (lprs ρ ls) := by
  refine ⟨h.1, h.2.1, fun q hq => ?_⟩
  obtain ⟨v, h1, h2⟩ := lprs_mem.mp hq
  rw [h2]; exact h.2.2.2 _ _ h1
theorem lset_len : ∀ (ls : LL) (i : Nat) (v : AV), (lset ls i v).length = ls.length
  | [], _, _ => rfl
  | a :: r, 0, v => by
    simp only [lset, List.length_cons]
    cases isL (some v)
    · rfl
    · match r with
      | [] => rfl
      | _ :: _ => rfl
  | a :: r, i + 1, v => by simp only [lset, List.length_cons, lset_len r i v]
theorem lget_lset : ∀ (ls : LL) (i : Nat) (v : AV) (k : Nat) (w : AV), lget (lset ls i v) k = some w → (k = i ∧ w = v) ∨ (k ≠ i ∧ lget ls k = some w ∧ ¬ (k + 1 = i ∧ isL (some w) = true) ∧ ¬ (isL (some v) = true ∧ k = i + 1))
  | [], _, _, _, _, h => absurd h (by simp [lset, lget])
  | a :: r, 0, v, 0, w, h => Or.inl ⟨rfl, by simpa [lset, lget] using h.symm⟩
  | a :: r, 0, v, k + 1, w, h => by
    right
    simp only [lset, lget] at h
    cases hl : isL (some v) with
    | false =>
      rw [hl] at h
      exact ⟨by omega, h, by omega, fun q => by cases q.1⟩
    | true =>
      rw [hl] at h
      match r, h with
      | [], h => exact absurd h (by simp [lget])
      | b :: r', h =>
        match k, h with
        | 0, h => exact absurd h (by simp [lget])
        | k + 1, h => exact ⟨by omega, h, by omega, fun q => by omega⟩
  | a :: r, i + 1, v, 0, w, h => by
    right
    simp only [lset, lget] at h ⊢
    cases hi : (i == 0 && isL a) with
    | true => rw [hi] at h; cases h
    | false =>
      rw [hi] at h
      have h : a = some w := h
      refine ⟨by omega, h, ?_, by omega⟩
      rintro ⟨h1, h2⟩
      rw [Bool.and_eq_false_iff] at hi
      rcases hi with hi | hi
      · exact absurd hi (by simp; omega)
      · rw [h] at hi; rw [hi] at h2; cases h2
  | a :: r, i + 1, v, k + 1, w, h => by
    have h : lget (lset r i v) k = some w := h
    rcases lget_lset r i v k w h with ⟨h1, h2⟩ | ⟨h1, h2, h3, h4⟩
    · exact Or.inl ⟨by omega, h2⟩
    · exact Or.inr ⟨by omega, h2, fun q => h3 ⟨by omega, q.2⟩, fun q => h4 ⟨q.1, by omega⟩⟩
theorem Lh.set1 {ρ : EnvR} (hs : ρ.2.1.category = 1) {n : Nat} {la la' : Array Slot} {ls : LL} {i : Nat} {v : AV} (hv : isL (some v) = false) (h : Lh ρ n la ls) (h' : lv_has la' n ((i, cv ρ v) :: (lprs ρ ls).filter (fun q => !(q.1 == i) && !(q.1 + 1 == i && q.2.category == 2)))) : Lh ρ n la' (lset ls i v) := by
  refine ⟨h'.1, h'.2.1, by rw [lset_len]; exact h.2.2.1, fun k w hk => ?_⟩
  rcases lget_lset ls i v k w hk with ⟨rfl, rfl⟩ | ⟨h1, h2, h3, -⟩
  · exact h'.2.2 _ List.mem_cons_self
  · refine h'.2.2 (k, cv ρ w) (List.mem_cons_of_mem _ (List.mem_filter.mpr ⟨lprs_mem.mpr ⟨w, h2, rfl⟩, ?_⟩))
    have e1 : (k == i) = false := by simpa using h1
    simp only [e1, Bool.not_false, Bool.true_and, Bool.not_eq_true', Bool.and_eq_false_iff, beq_eq_false_iff_ne, cv_cat ρ hs]
    by_cases hki : k + 1 = i
    · right
      have : isL (some w) = false := by
        cases hw : isL (some w)
        · rfl
        · exact absurd ⟨hki, hw⟩ h3
      rw [this]; decide
    · left; exact hki
theorem Lh.set2 {ρ : EnvR} (hs : ρ.2.1.category = 1) {n : Nat} {la la' : Array Slot} {ls : LL} {i : Nat} {v : AV} (hv : isL (some v) = true) (h : Lh ρ n la ls) (h' : lv_has la' n ((i, cv ρ v) :: (lprs ρ ls).filter (fun q => !(q.1 == i) && (!(q.1 == i + 1) && !(q.1 + 1 == i && q.2.category == 2))))) : Lh ρ n la' (lset ls i v) := by
  refine ⟨h'.1, h'.2.1, by rw [lset_len]; exact h.2.2.1, fun k w hk => ?_⟩
  rcases lget_lset ls i v k w hk with ⟨rfl, rfl⟩ | ⟨h1, h2, h3, h4⟩
  · exact h'.2.2 _ List.mem_cons_self
  · refine h'.2.2 (k, cv ρ w) (List.mem_cons_of_mem _ (List.mem_filter.mpr ⟨lprs_mem.mpr ⟨w, h2, rfl⟩, ?_⟩))
    have e1 : (k == i) = false := by simpa using h1
    have e2 : (k == i + 1) = false := by simpa using fun q => h4 ⟨hv, q⟩
    simp only [e1, e2, Bool.not_false, Bool.true_and, Bool.not_eq_true', Bool.and_eq_false_iff, beq_eq_false_iff_ne, cv_cat ρ hs]
    by_cases hki : k + 1 = i
    · right
      have : isL (some w) = false := by
        cases hw : isL (some w)
        · rfl
        · exact absurd ⟨hki, hw⟩ h3
      rw [this]; decide
    · left; exact hki
theorem lget_mask : ∀ (ls : LL) (z i : Nat) (v : AV), lget (maskL ls z) i = some v → lget ls i = some v
  | [], _, _, _, h => h
  | a :: r, z, 0, v, h => by
    simp only [maskL, lget] at h ⊢
    cases hz : (z % 2 == 1) <;> rw [hz] at h
    · cases h
    · exact h
  | a :: r, z, i + 1, v, h => lget_mask r (z / 2) i v h
theorem mask_len : ∀ (ls : LL) (z : Nat), (maskL ls z).length = ls.length
  | [], _ => rfl
  | _ :: r, z => by simp only [maskL, List.length_cons, mask_len r (z / 2)]
theorem Lh.mask {ρ : EnvR} {n : Nat} {la : Array Slot} {ls : LL} (h : Lh ρ n la ls) (z : Nat) : Lh ρ n la (maskL ls z) := ⟨h.1, h.2.1, by rw [mask_len]; exact h.2.2.1, fun i v hv => h.2.2.2 i v (lget_mask ls z i v hv)⟩
theorem okL.mask {ls : LL} (h : okL ls) (z : Nat) : okL (maskL ls z) := fun i v hv => h i v (lget_mask ls z i v hv)
theorem okL.set {ls : LL} (h : okL ls) {i : Nat} {v : AV} (hv : okV v) : okL (lset ls i v) := fun k w hk => by
  rcases lget_lset ls i v k w hk with ⟨-, rfl⟩ | ⟨-, h2, -⟩
  · exact hv
  · exact h k w h2
/-! ## the frame -/
def wU (j : Nat) : List Cond := Cond.code (yO j) (bO j) (mlO j) (reO j) :: wBig
def rmO (d : Nat) : Room := { frames := d, cells := 0, slots := 0, locals := 64 * d }
/-- what holds all through a method's frame -/
def Fr (p : Program) (R : Room) (s : State) (m : MethodId) (args : Array Value) (c : Code) (cells slots : Nat) (dC : Nat → ClassId) (dI : Nat → Nat → Nat) (ρ : EnvR) (A : Nat → Prop) (x : ScrX) (Ts : List Cond) (d j : Nat) : Prop :=
  p.tables.exec = Jvm.exec ∧ c.code = bO j ∧ c.maxLocals = mlO j ∧ s.vm.findClass (owO j) = some m.cls ∧ (∀ w ∈ Ts, w.before args s = true) ∧ (∀ w ∈ wBig, w ∈ Ts) ∧ va_K (dC, dI) clsT (tysL ρ) s ∧ Sta ρ A x s s.heap ∧ (∀ q : Nat, s.heap.size ≤ q → A q) ∧ (d + 1 ≤ R.frames ∧ 64 * (d + 1) ≤ R.locals) ∧ (cells ≤ R.cells ∧ slots ≤ R.slots)
/-- from this place on the machine comes to Q -/
def Jd (p : Program) (l : Launch) (e : Env) (R : Room) (s : State) (m : MethodId) (args : Array Value) (below : List Frame) (meth : Method) (c : Code) (cells slots : Nat) (Q : State → Prop) (dC : Nat → ClassId) (dI : Nat → Nat → Nat) (ρ : EnvR) (A : Nat → Prop) (x : ScrX) (j pc : Nat) (ls : LL) (st : List AV) (M : Mem) : Prop :=
  ∀ (H : Heap) (locs : List Loc) (la : Array Slot), M.2.2 = x → okL ls → okS st → va_P (dC, dI) clsT (wsO ρ M) H → va_D A (wsO ρ M) → va_S A s.heap H locs → Lh ρ (mlO j) la ls → W p l e R s m args below meth c H locs cells slots Q (F0 m pc la (st.map (cv ρ)))
def postO (o : Option AV) (B : State → Prop) (A : Nat → Prop) : Array Value → State → Outcome → State → Prop := match o with
  | none => va_Qv (fun _ : Unit => True) (fun _ t => B t) A
  | some (.inl r) => va_Qi (fun r' (_ : Unit) => r' = r) (fun _ t => B t) A
  | some (.inr (.inl r)) => va_Ql (fun r' (_ : Unit) => r' = r) (fun _ t => B t) A
  | some (.inr (.inr _)) => fun _ _ _ _ => False
def preO (dC : Nat → ClassId) (dI : Nat → Nat → Nat) (ρ : EnvR) (x : ScrX) (M : Mem) (sz : Nat) : State → Prop := fun U => U.heap.size = sz ∧ va_P (dC, dI) clsT (wsO ρ M) U.heap ∧ va_K (dC, dI) clsT (tysL ρ) U ∧ va_D (fun _ => True) (wsO ρ M) ∧ Sta ρ (va_A (wsO ρ M) sz) x U U.heap
/-- a method's contract -/
def Con (l : Launch) (dC : Nat → ClassId) (dI : Nat → Nat → Nat) (ρ : EnvR) (x : ScrX) (d j : Nat) (as : List AV) (M : Mem) (o : Option AV) (M' : Mem) : Prop :=
  ∀ sz : Nat, Met l (yO j) (wU j) (rmO d) (va_Pc (as.map (cv ρ)) (preO dC dI ρ x M sz)) (postO o (fun t => va_P (dC, dI) clsT (wsO ρ M') t.heap) (va_A (wsO ρ M) sz)) 0 0 (va_A (wsO ρ M) sz)
theorem preO_blind {dC : Nat → ClassId} {dI : Nat → Nat → Nat} {ρ : EnvR} {x : ScrX} {M : Mem} {sz : Nat} {av : List Value} : FrameBlind (va_Pc av (preO dC dI ρ x M sz)) := fun a U g mk q => by
  obtain ⟨q0, q1, qP, qK, qD, qS⟩ := q
  exact ⟨q0, q1, qP, va_K.moved (u := U) (U := U.calling g mk a) (Vm.Alike.refl U.vm) qK, qD, qS.calling g mk a⟩
theorem cat_of_ref {v : Value} (h : v.isRef = true) : v.category = 1 := by
  cases v <;> first | rfl | (simp [Value.isRef] at h)
theorem cv_isRef {ρ : EnvR} (hs : ρ.2.1.isRef = true) (q : Nat × Nat × Nat) : (cv ρ (.inr (.inr q))).isRef = true := by
  obtain ⟨c, n, k⟩ := q
  simp only [cv]
  cases (c == 22)
  · cases (c == 3 && n == 99) <;> rfl
  · exact hs
