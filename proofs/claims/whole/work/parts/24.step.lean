/-! ONE INSTRUCTION: WHAT THE ABSTRACT MACHINE DOES THE MACHINE DOES -/
def RO (a : Nat) : String := match clsT[a]? with
  | some q => q.1
  | none => RX0
def tyO (a : Nat) : Nat → FieldType := match a with
  | 0 => tyX0
  | 1 => tyX1
  | 2 => tyX2
  | 3 => tyX3
  | 4 => tyX4
  | 5 => tyX5
  | _ => tyX6
theorem lt7 {P : Nat → Prop} (h0 : P 0) (h1 : P 1) (h2 : P 2) (h3 : P 3) (h4 : P 4) (h5 : P 5) (h6 : P 6) : ∀ a, a < 7 → P a := by
  intro a h
  match a, h with
  | 0, _ => exact h0
  | 1, _ => exact h1
  | 2, _ => exact h2
  | 3, _ => exact h3
  | 4, _ => exact h4
  | 5, _ => exact h5
  | 6, _ => exact h6
  | a + 7, h => exact absurd h (by omega)
theorem cls_at : ∀ a, a < 7 → clsT[a]? = some (RO a, TO a, nFl.getD a 0) := lt7 rfl rfl rfl rfl rfl rfl rfl
theorem cls_in : ∀ a, a < 7 → ∀ w ∈ u_ws (RO a) (TO a) (nFl.getD a 0), w ∈ wBig := lt7 inB0 inB1 inB2 inB3 inB4 inB5 inB6
theorem cls_ty : ∀ a, a < 7 → ∀ k, k < nFl.getD a 0 → parseFieldDescriptor (TO a k).2.2.1 = some (tyO a k) := lt7 tyX0_ok tyX1_ok tyX2_ok tyX3_ok tyX4_ok tyX5_ok tyX6_ok
theorem cls_nm : ∀ a, a < 7 → ∀ u, u < nFl.getD a 0 → ∀ v, v < nFl.getD a 0 → u ≠ v → (TO a u).2.1 ≠ (TO a v).2.1 := lt7 nmX0 nmX1 nmX2 nmX3 nmX4 nmX5 nmX6
def chkF (a b : Nat) : Bool := (bif (shp a b).1 == 0 then !(TO a b).2.2.2 && decide (tyO a b = .int) else true) && (bif (shp a b).1 == 5 then !(TO a b).2.2.2 && decide (tyO a b = .boolean) else true) && (bif (shp a b).1 == 3 then !(TO a b).2.2.2 && (decide (tyO a b = .object "ChoirRoof$Setting") || decide (tyO a b = .array .int)) && ((shp a b).2 == (3, 0) || (shp a b).2 == (4, 6)) else true)
theorem chkF_all : ((List.range 7).all fun a => (List.range 23).all fun b => !inF a b || chkF a b) = true := by decide +kernel
theorem inF_lt {a b : Nat} (h : inF a b = true) : a < 7 ∧ b < nFl.getD a 0 := by
  unfold inF at h
  rw [Bool.and_eq_true] at h
  exact ⟨Nat.le_of_ble_eq_true h.1, Nat.le_of_ble_eq_true h.2⟩
theorem nFl_le : ∀ a, a < 7 → nFl.getD a 0 ≤ 23 := lt7 (by decide) (by decide) (by decide) (by decide) (by decide) (by decide) (by decide)
theorem chkF_at {a b : Nat} (h : inF a b = true) : chkF a b = true := by
  obtain ⟨h1, h2⟩ := inF_lt h
  have h3 := List.all_eq_true.mp (List.all_eq_true.mp chkF_all a (List.mem_range.mpr h1)) b (List.mem_range.mpr (Nat.lt_of_lt_of_le h2 (nFl_le a h1)))
  rw [h] at h3
  simpa using h3
def chkG (q : Nat × Nat × Nat) (b : Nat) : Bool := match shp q.1 b with
  | (0, _, _) => true
  | (1, _, _) => cellsL.contains (q.1, q.2.1, b + 1)
  | (2, c, n) => cellsL.contains (c, n, 0)
  | (3, _, _) => true
  | (4, _, _) => true
  | (5, _, _) => true
  | _ => false
theorem chkG_all : (cellsL.all fun q => (List.range 23).all fun b => q.2.2 != 0 || !inF q.1 b || chkG q b) = true := by decide +kernel
theorem cells_3 : ∀ v, v < 6 → (3, v, 0) ∈ cellsL := by decide +kernel
theorem cells_4 : ∀ v, v < 2 → (4, v, 6) ∈ cellsL := by decide +kernel
theorem okMut {M : Mem} {a n b c2 k2 : Nat} (hch : chkF a b = true) (hsh : shp a b = (3, c2, k2)) (hlt : cR M a n b < cntO c2) : okV (vR c2 (cR M a n b) k2) := by
  unfold chkF at hch
  rw [hsh] at hch
  simp only [Bool.and_eq_true] at hch
  have h9 := hch.2
  simp only [BEq.rfl, cond_true, Bool.and_eq_true, Bool.or_eq_true, beq_iff_eq, Prod.mk.injEq] at h9
  rcases h9.2 with ⟨rfl, rfl⟩ | ⟨rfl, rfl⟩
  · exact ok_cell (cells_3 _ hlt)
  · exact ok_cell (cells_4 _ hlt)
theorem okFv {M : Mem} {a n b : Nat} (hcell : (a, n, 0) ∈ cellsL) (hin : inF a b = true) (hns : ∀ c2 k2 : Nat, shp a b = (3, c2, k2) → False) : okV (fv M a n b) := by
  obtain ⟨h1, h2⟩ := inF_lt hin
  have h3 := List.all_eq_true.mp (List.all_eq_true.mp chkG_all _ hcell) b (List.mem_range.mpr (Nat.lt_of_lt_of_le h2 (nFl_le a h1)))
  simp only [hin] at h3
  have h3 : chkG (a, n, 0) b = true := by simpa using h3
  unfold chkG at h3
  simp only at h3
  unfold fv
  split at h3
  · next hs => rw [hs]; trivial
  · next hs => rw [hs]; exact ok_cell (List.contains_iff_mem.mp h3)
  · next hs => rw [hs]; exact ok_cell (List.contains_iff_mem.mp h3)
  · next hs => exact absurd (hns _ _ hs) id
  · next hs => rw [hs]; trivial
  · next hs => rw [hs]; trivial
  · cases h3
theorem ak_low {M : Mem} {c n k : Nat} (hc : c < 7) : ak M c n k = (akL.getD c []).getD k (0, 0) := by
  unfold ak
  have e1 : (c == 20) = false := by simp; omega
  have e2 : (c == 21) = false := by simp; omega
  have e3 : (c == 24) = false := by simp; omega
  rw [e1, e2, e3]; rfl
theorem ak_lowk : ((List.range 7).all fun a => (List.range 25).all fun k => ((akL.getD a []).getD k (0, 0)).1 == 0 || ((akL.getD a []).getD k (0, 0)).1 == 1 || ((akL.getD a []).getD k (0, 0)).1 == 2 || (((akL.getD a []).getD k (0, 0)).1 == 6 && ((akL.getD a []).getD k (0, 0)).2 == 6)) = true := by decide +kernel
theorem ak_len : ∀ a, a < 7 → (akL.getD a []).length ≤ 25 := lt7 (by decide) (by decide) (by decide) (by decide) (by decide) (by decide) (by decide)
theorem ak_low3 {M : Mem} {c n k : Nat} (hc : c < 7) : (ak M c n k).1 = 0 ∨ (ak M c n k).1 = 1 ∨ (ak M c n k).1 = 2 ∨ ((ak M c n k).1 = 6 ∧ (ak M c n k).2 = 6) := by
  rw [ak_low hc]
  rcases Nat.lt_or_ge k 25 with hk | hk
  · have h := List.all_eq_true.mp (List.all_eq_true.mp ak_lowk c (List.mem_range.mpr hc)) k (List.mem_range.mpr hk)
    simp only [Bool.or_eq_true, Bool.and_eq_true, beq_iff_eq, or_assoc] at h
    exact h
  · have h9 := ak_len c hc
    have : (akL.getD c []).getD k (0, 0) = (0, 0) := by
      rw [List.getD_eq_getElem?_getD, List.getElem?_eq_none (by omega)]; rfl
    rw [this]; exact Or.inl rfl
theorem ak_hi {M : Mem} {c n k : Nat} (h7 : 7 ≤ c) (h20 : c ≠ 20) (h21 : c ≠ 21) (h24 : c ≠ 24) : (ak M c n k).1 = 0 := by
  unfold ak
  have e1 : (c == 20) = false := by simpa using h20
  have e2 : (c == 21) = false := by simpa using h21
  have e3 : (c == 24) = false := by simpa using h24
  rw [e1, e2, e3]
  simp only [cond_false]
  have : akL.getD c [] = [] := by rw [List.getD_eq_getElem?_getD, List.getElem?_eq_none (by exact h7)]; rfl
  rw [this]; rfl
theorem ak_20 {M : Mem} {n k : Nat} : (ak M 20 n k).1 = if k = 1 then 3 else 0 := by
  unfold ak
  simp only [BEq.rfl, cond_true]
  by_cases hk : k = 1
  · subst hk; rfl
  · have : (k == 1) = false := by simpa using hk
    rw [this, if_neg hk]; rfl
theorem ak_21 {M : Mem} {n k : Nat} : (ak M 21 n k).1 = if k = 1 then 4 else 0 := by
  unfold ak
  have e1 : ((21 : Nat) == 20) = false := rfl
  simp only [e1, BEq.rfl, cond_true, cond_false]
  by_cases hk : k = 1
  · subst hk; rfl
  · have : (k == 1) = false := by simpa using hk
    rw [this, if_neg hk]; rfl
theorem ak_24 {M : Mem} {n k : Nat} : (ak M 24 n k).1 = 5 := rfl
theorem ak_by (M : Mem) (c n k : Nat) : (c < 7 ∧ ((ak M c n k).1 = 0 ∨ (ak M c n k).1 = 1 ∨ (ak M c n k).1 = 2 ∨ ((ak M c n k).1 = 6 ∧ (ak M c n k).2 = 6))) ∨ (c = 20 ∧ (ak M c n k).1 = if k = 1 then 3 else 0) ∨ (c = 21 ∧ (ak M c n k).1 = if k = 1 then 4 else 0) ∨ (c = 24 ∧ (ak M c n k).1 = 5) ∨ (ak M c n k).1 = 0 := by
  rcases Nat.lt_or_ge c 7 with hc | hc
  · exact Or.inl ⟨hc, ak_low3 hc⟩
  · by_cases h20 : c = 20
    · subst h20; exact Or.inr (Or.inl ⟨rfl, ak_20⟩)
    · by_cases h21 : c = 21
      · subst h21; exact Or.inr (Or.inr (Or.inl ⟨rfl, ak_21⟩))
      · by_cases h24 : c = 24
        · subst h24; exact Or.inr (Or.inr (Or.inr (Or.inl ⟨rfl, rfl⟩)))
        · exact Or.inr (Or.inr (Or.inr (Or.inr (ak_hi hc h20 h21 h24))))
theorem not_cell {c n k : Nat} (h : 7 ≤ c) : cellsL.contains (c, n, k) = false := by
  cases hcc : cellsL.contains (c, n, k)
  · rfl
  · exact absurd (cells_c _ (List.contains_iff_mem.mp hcc)) (by simp only; omega)
theorem ak_cell {M : Mem} {c n k : Nat} (hok : okR c n k = true) (h : (ak M c n k).1 = 1 ∨ (ak M c n k).1 = 2 ∨ (ak M c n k).1 = 6) : (c, n, k) ∈ cellsL ∧ ∃ k', k = k' + 1 := by
  have hc : c < 7 := by
    rcases ak_by M c n k with ⟨hc, _⟩ | ⟨rfl, h1⟩ | ⟨rfl, h1⟩ | ⟨rfl, h1⟩ | h1
    · exact hc
    · exfalso; split at h1 <;> omega
    · exfalso; split at h1 <;> omega
    · omega
    · omega
  refine ⟨cell_ok hok hc, ?_⟩
  match k, h with
  | 0, h =>
    have hz : ∀ a, a < 7 → ((akL.getD a []).getD 0 (0, 0)).1 = 0 := lt7 rfl rfl rfl rfl rfl rfl rfl
    rw [ak_low hc, hz c hc] at h
    simp at h
  | k' + 1, _ => exact ⟨k', rfl⟩
theorem ok_str {M : Mem} {c n k : Nat} (hok : okR c n k = true) (h : (ak M c n k).1 = 3) : c = 20 ∧ n < 6 ∧ k = 1 := by
  rcases ak_by M c n k with ⟨_, h1 | h1 | h1 | h1⟩ | ⟨rfl, h1⟩ | ⟨rfl, h1⟩ | ⟨rfl, h1⟩ | h1
  · omega
  · omega
  · omega
  · omega
  · rw [h] at h1
    by_cases hk : k = 1
    · unfold okR at hok
      rw [not_cell (by omega)] at hok
      have e1 : ((20 : Nat) == 22) = false := rfl
      have e2 : ((20 : Nat) == 21) = false := rfl
      have e3 : ((20 : Nat) == 24) = false := rfl
      simp only [e1, e2, e3, BEq.rfl, Bool.true_and, Bool.false_and, Bool.false_or, Bool.or_false, Bool.and_eq_true] at hok
      exact ⟨rfl, Nat.le_of_ble_eq_true hok.1, hk⟩
    · rw [if_neg hk] at h1; cases h1
  · split at h1 <;> omega
  · omega
  · omega
theorem ok_sta {M : Mem} {c n k : Nat} (hok : okR c n k = true) (h : (ak M c n k).1 = 4) : c = 21 ∧ n < 3 ∧ k = 1 := by
  rcases ak_by M c n k with ⟨_, h1 | h1 | h1 | h1⟩ | ⟨rfl, h1⟩ | ⟨rfl, h1⟩ | ⟨rfl, h1⟩ | h1
  · omega
  · omega
  · omega
  · omega
  · split at h1 <;> omega
  · rw [h] at h1
    by_cases hk : k = 1
    · unfold okR at hok
      rw [not_cell (by omega)] at hok
      have e1 : ((21 : Nat) == 22) = false := rfl
      have e2 : ((21 : Nat) == 20) = false := rfl
      have e3 : ((21 : Nat) == 24) = false := rfl
      simp only [e1, e2, e3, BEq.rfl, Bool.true_and, Bool.false_and, Bool.false_or, Bool.or_false, Bool.and_eq_true] at hok
      exact ⟨rfl, Nat.le_of_ble_eq_true hok.1, hk⟩
    · rw [if_neg hk] at h1; cases h1
  · omega
  · omega
theorem ok_scr {M : Mem} {c n k : Nat} (hok : okR c n k = true) (h : (ak M c n k).1 = 5) : c = 24 ∧ n = 0 ∧ k = 0 := by
  rcases ak_by M c n k with ⟨_, h1 | h1 | h1 | h1⟩ | ⟨rfl, h1⟩ | ⟨rfl, h1⟩ | ⟨rfl, h1⟩ | h1
  · omega
  · omega
  · omega
  · omega
  · split at h1 <;> omega
  · split at h1 <;> omega
  · unfold okR at hok
    rw [not_cell (by omega)] at hok
    have e1 : ((24 : Nat) == 22) = false := rfl
    have e2 : ((24 : Nat) == 20) = false := rfl
    have e3 : ((24 : Nat) == 21) = false := rfl
    simp only [e1, e2, e3, BEq.rfl, Bool.true_and, Bool.false_and, Bool.false_or, Bool.or_false, Bool.and_eq_true, beq_iff_eq] at hok
    exact ⟨rfl, hok.1, hok.2⟩
  · omega
theorem ak_kinds {M : Mem} {c n k : Nat} (_hok : okR c n k = true) (h : ¬ (ak M c n k).1 = 0) : (ak M c n k).1 = 1 ∨ (ak M c n k).1 = 2 ∨ (ak M c n k).1 = 3 ∨ (ak M c n k).1 = 4 ∨ (ak M c n k).1 = 5 ∨ (ak M c n k).1 = 6 := by
  rcases ak_by M c n k with ⟨_, h1 | h1 | h1 | h1⟩ | ⟨rfl, h1⟩ | ⟨rfl, h1⟩ | ⟨rfl, h1⟩ | h1
  · exact absurd h1 h
  · omega
  · omega
  · omega
  · split at h1 <;> omega
  · split at h1 <;> omega
  · omega
  · exact absurd h1 h
theorem ak_six {M : Mem} {c n k : Nat} (hcell : (c, n, k) ∈ cellsL) (h : (ak M c n k).1 = 6) : (ak M c n k).2 = 6 := by
  have hc : c < 7 := cells_c _ hcell
  rcases ak_low3 (M := M) (n := n) (k := k) hc with h1 | h1 | h1 | h1
  · omega
  · omega
  · omega
  · exact h1.2
theorem bnd {i : Int32} {n : Nat} (h : ¬ (i < 0 ∨ n ≤ i.toNatClampNeg)) : vp_in i n := h
theorem okS.tl {v : AV} {st : List AV} (h : okS (v :: st)) : okS st := fun u hu => h u (List.mem_cons_of_mem _ hu)
theorem okS.hd {v : AV} {st : List AV} (h : okS (v :: st)) : okV v := h v List.mem_cons_self
theorem okS.cs {v : AV} {st : List AV} (hv : okV v) (h : okS st) : okS (v :: st) := fun u hu => (List.mem_cons.mp hu).elim (fun q => q ▸ hv) (h u)
theorem okS.ci {z : Int32} {st : List AV} (h : okS st) : okS (vI z :: st) := okS.cs (v := vI z) trivial h
theorem okS.cl {z : Int64} {st : List AV} (h : okS st) : okS (vL z :: st) := okS.cs (v := vL z) trivial h

section
variable {p : Program} {l : Launch} {e : Env} {R : Room} {s : State} {m : MethodId} {args : Array Value} {below : List Frame} {meth : Method} {c : Code} {H : Heap} {locs : List Loc} {cells slots : Nat} {Q : State → Prop}
variable {cc : ByteArray} {pc : Nat} {ls : Array Slot} {rest : List Value}
theorem lv_aload_nv (hexec : p.tables.exec = Jvm.exec) (hb : c.code = cc) {k : Fin 4} {v : Value} (hdg : decode cc pc = .ok (.aload_n k, 1)) (hv : v.isRef = true) (hl : ls[(k : Nat)]? = some (.val v))
    (kk : W p l e R s m args below meth c H locs cells slots Q (F0 m (pc + 1) ls (v :: rest))) : W p l e R s m args below meth c H locs cells slots Q (F0 m pc ls rest) := by
  cases v <;> first | exact lv_aload_n hexec hb hdg rfl hl kk | (simp [Value.isRef] at hv; done) | skip
  intro T hT X
  obtain ⟨t, a, b⟩ := kk T hT X
  refine ⟨t, ?_, b⟩
  jvm_step X.here [X.here.top, hexec, hb, hdg, hl, Value.isRef]
  exact a
theorem lv_aloadv (hexec : p.tables.exec = Jvm.exec) (hb : c.code = cc) {i : Nat} {v : Value} (hdg : decode cc pc = .ok (.aload i, 2)) (hv : v.isRef = true) (hl : ls[i]? = some (.val v))
    (kk : W p l e R s m args below meth c H locs cells slots Q (F0 m (pc + 2) ls (v :: rest))) : W p l e R s m args below meth c H locs cells slots Q (F0 m pc ls rest) := by
  cases v <;> first | exact lv_aload hexec hb hdg hl kk | (simp [Value.isRef] at hv; done) | skip
  intro T hT X
  obtain ⟨t, a, b⟩ := kk T hT X
  refine ⟨t, ?_, b⟩
  jvm_step X.here [X.here.top, hexec, hb, hdg, hl, Value.isRef]
  exact a
theorem lv_astore_nv (hexec : p.tables.exec = Jvm.exec) (hb : c.code = cc) {k : Fin 4} {nL : Nat} {v : Value} {lv : List (Nat × Value)} (hdg : decode cc pc = .ok (.astore_n k, 1)) (hv : v.isRef = true) (h : lv_has ls nL lv) (hn : (k : Nat) < nL)
    (kk : ∀ ls' : Array Slot, lv_has ls' nL (((k : Nat), v) :: lv.filter (fun q => !(q.1 == (k : Nat)) && !(q.1 + 1 == (k : Nat) && q.2.category == 2))) → W p l e R s m args below meth c H locs cells slots Q (F0 m (pc + 1) ls' rest)) : W p l e R s m args below meth c H locs cells slots Q (F0 m pc ls (v :: rest)) := by
  cases v <;> first | exact lv_astore_n hexec hb hdg rfl h hn rfl kk | (simp [Value.isRef] at hv; done) | skip
  obtain ⟨ls', e', h'⟩ := lv_store1 (v := .null) h hn rfl
  intro T hT X
  obtain ⟨t, a, b⟩ := kk ls' h' T hT X
  refine ⟨t, ?_, b⟩
  jvm_step X.here [X.here.top, ↓top_set X.here.top, hexec, hb, hdg, e', Value.isRef]
  exact a
theorem lv_astorev (hexec : p.tables.exec = Jvm.exec) (hb : c.code = cc) {i nL : Nat} {v : Value} {lv : List (Nat × Value)} (hdg : decode cc pc = .ok (.astore i, 2)) (hv : v.isRef = true) (h : lv_has ls nL lv) (hn : i < nL)
    (kk : ∀ ls' : Array Slot, lv_has ls' nL ((i, v) :: lv.filter (fun q => !(q.1 == i) && !(q.1 + 1 == i && q.2.category == 2))) → W p l e R s m args below meth c H locs cells slots Q (F0 m (pc + 2) ls' rest)) : W p l e R s m args below meth c H locs cells slots Q (F0 m pc ls (v :: rest)) := by
  cases v <;> first | exact lv_astore hexec hb hdg h hn rfl kk | (simp [Value.isRef] at hv; done) | skip
  obtain ⟨ls', e', h'⟩ := lv_store1 (v := .null) h hn rfl
  intro T hT X
  obtain ⟨t, a, b⟩ := kk ls' h' T hT X
  refine ⟨t, ?_, b⟩
  jvm_step X.here [X.here.top, ↓top_set X.here.top, hexec, hb, hdg, e', Value.isRef]
  exact a
end

/-- what a return leaves to do -/
def RetC (j pc : Nat) : Option AV → Prop
  | none => decode (bO j) pc = .ok (.return_, 1) ∧ none = reO j
  | some (.inl z) => decode (bO j) pc = .ok (.ireturn, 1) ∧ ∃ ty, reO j = some ty ∧ narrow ty (.int z) = .int z
  | some (.inr (.inl _)) => decode (bO j) pc = .ok (.lreturn, 1) ∧ some .long = reO j
  | some (.inr (.inr _)) => False
theorem sw_T {g : Nat → Res} {pc : Nat} {z : Int32} {res : Option AV × Mem} : ∀ (offs : List Int) (lo dd : Int), -1000 ≤ lo → lo + offs.length ≤ 1001 → swT g pc z lo offs dd = some res →
    (∃ k : Nat, k < offs.length ∧ z.toInt = lo + k ∧ ∃ off, offs[k]? = some off ∧ g ((pc : Int) + off).toNat = some res) ∨ ((z.toInt < lo ∨ lo + offs.length ≤ z.toInt) ∧ g ((pc : Int) + dd).toNat = some res)
  | [], lo, dd, _, _, h => Or.inr ⟨by simp only [List.length_nil]; omega, h⟩
  | o :: r, lo, dd, h1, h2, h => by
    simp only [List.length_cons] at h2 ⊢
    have hlo : (Int32.ofInt lo).toInt = lo := Int32.toInt_ofInt_of_le (by omega) (by omega)
    simp only [swT] at h
    split at h
    · next he => exact Or.inl ⟨0, by omega, by rw [he, hlo]; omega, o, rfl, h⟩
    · next he =>
      have hne : z.toInt ≠ lo := fun q => he (Int32.toInt_inj.mp (by rw [hlo]; exact q))
      rcases sw_T r (lo + 1) dd (by omega) (by omega) h with ⟨k, hk, hz, off, ho, hg⟩ | ⟨hz, hg⟩
      · exact Or.inl ⟨k + 1, by omega, by omega, off, by simpa using ho, hg⟩
      · exact Or.inr ⟨by omega, hg⟩
theorem sw_L {g : Nat → Res} {pc : Nat} {z : Int32} {res : Option AV × Mem} : ∀ (ps : List (Int × Int)) (dd : Int), (∀ q ∈ ps, -1000 ≤ q.1 ∧ q.1 ≤ 1000) → swL g pc z ps dd = some res →
    ∃ off, Op.lookupswitch.offset ps dd z.toInt = off ∧ g ((pc : Int) + off).toNat = some res ∧ (off = dd ∨ ∃ q ∈ ps, off = q.2)
  | [], dd, _, h => ⟨dd, by simp [Op.lookupswitch.offset], h, Or.inl rfl⟩
  | (a, o) :: r, dd, hb, h => by
    have ha := hb _ List.mem_cons_self
    have hlo : (Int32.ofInt a).toInt = a := Int32.toInt_ofInt_of_le (by omega) (by omega)
    simp only [swL] at h
    split at h
    · next he => exact ⟨o, by rw [he, hlo]; simp [Op.lookupswitch.offset], h, Or.inr ⟨_, List.mem_cons_self, rfl⟩⟩
    · next he =>
      obtain ⟨off, h1, h2, h3⟩ := sw_L r dd (fun q hq => hb q (List.mem_cons_of_mem _ hq)) h
      exact ⟨off, by rw [lv_osw he hlo]; exact h1, h2, h3.elim Or.inl (fun ⟨q, hq, e⟩ => Or.inr ⟨q, List.mem_cons_of_mem _ hq, e⟩)⟩
theorem jtgt {pc : Nat} {o : Int} (h : decide (0 ≤ (pc : Int) + o) = true) : (pc : Int) + o = (((pc : Int) + o).toNat : Int) := (Int.toNat_of_nonneg (of_decide_eq_true h)).symm

set_option maxHeartbeats 8000000 in
theorem sound_step {p : Program} {l : Launch} {e : Env} {R : Room} {s : State} {m : MethodId} {args : Array Value} {below : List Frame} {meth : Method} {c : Code} {cells slots : Nat} {Q : State → Prop} {dC : Nat → ClassId} {dI : Nat → Nat → Nat} {ρ : EnvR} {A : Nat → Prop} {x : ScrX} {Ts : List Cond} {d j : Nat} (F : Fr p R s m args c cells slots dC dI ρ A x Ts d j) {pc len a b e9 : Nat} {ins : Instr} {ls : LL} {st : List AV} {M : Mem} {nx : LL → List AV → Mem → Res} {ag : AgT} {ca : Nat → List AV → LL → List AV → Mem → Res} {res : Option AV × Mem}
    (hdec : decode (bO j) pc = .ok (ins, len)) (hlen : lenO ins = 0 ∨ lenO ins = len) (hlk : eok j (pc, len, ins, a, b, e9))
    (hnx : ∀ ls st M, nx ls st M = some res → Jd p l e R s m args below meth c cells slots Q dC dI ρ A x j (pc + len) ls st M)
    (hjp : ∀ t ls st M, ag t ls st M = some res → Jd p l e R s m args below meth c cells slots Q dC dI ρ A x j t ls st M)
    (hcv : ∀ i jj as ls st M, ins = .invokevirtual i → a = jj → ca jj as ls st M = some res → ∀ (n : Nat) (r : List AV), jj < nM - 1 → stO jj = false → as = vR (ctO jj) n 0 :: r → r.length = naO jj → cats st ≤ 8 → Jd p l e R s m args below meth c cells slots Q dC dI ρ A x j pc ls (as.reverse ++ st) M)
    (hcs : ∀ i jj as ls st M, ins = .invokestatic i → a = jj → ca jj as ls st M = some res → jj < nM - 1 → stO jj = true → as.length = naO jj → cats st ≤ 8 → Jd p l e R s m args below meth c cells slots Q dC dI ρ A x j pc ls (as.reverse ++ st) M)
    (hret : ∀ v M, some (v, M) = some res → RetC j pc v → ∀ (H : Heap) (locs : List Loc) (la : Array Slot), M.2.2 = x → va_P (dC, dI) clsT (wsO ρ M) H → va_D A (wsO ρ M) → va_S A s.heap H locs → W p l e R s m args below meth c H locs cells slots Q (F0 m pc la (v.toList.map (cv ρ))))
    (h : stepG none nx ag ca (fun v M => some (v, M)) pc a b ins ls st M = some res) : Jd p l e R s m args below meth c cells slots Q dC dI ρ A x j pc ls st M := by
  obtain ⟨hx, hb, hml, hown, hts, hbig, hK, hSta, hA, hR, hC⟩ := id F
  have hsr : ρ.2.1.isRef = true := hSta.2.2.2.2.2.2.2.2.2.2
  have hsio : ρ.2.1.category = 1 := cat_of_ref hsr
  have hw : ∀ w ∈ wBig, w.before args s = true := fun w h => hts w (hbig w h)
  cases ins
  case iconst =>
    have hlen : 1 = len := by simpa [lenO] using hlen
    subst hlen
    intro H locs la hx9 hL hSt hP hD hS hl
    exact lv_iconst hx hb hdec rfl (hnx _ _ _ h H locs la hx9 hL (okS.ci hSt) hP hD hS hl)
  case bipush =>
    have hlen : 2 = len := by simpa [lenO] using hlen
    subst hlen
    intro H locs la hx9 hL hSt hP hD hS hl
    exact lv_bipush hx hb hdec rfl (hnx _ _ _ h H locs la hx9 hL (okS.ci hSt) hP hD hS hl)
  case sipush =>
    have hlen : 3 = len := by simpa [lenO] using hlen
    subst hlen
    intro H locs la hx9 hL hSt hP hD hS hl
    exact lv_sipush hx hb hdec rfl (hnx _ _ _ h H locs la hx9 hL (okS.ci hSt) hP hD hS hl)
  case lconst =>
    have hlen : 1 = len := by simpa [lenO] using hlen
    subst hlen
    intro H locs la hx9 hL hSt hP hD hS hl
    exact lv_lconst hx hb hdec rfl (hnx _ _ _ h H locs la hx9 hL (okS.cl hSt) hP hD hS hl)
  case ldc i =>
    have hlen : 2 = len := by simpa [lenO] using hlen
    subst hlen
    simp only [stepG, cond_eq_ite] at h
    simp only [eok] at hlk
    split at h
    · next ha =>
      have ha : a = 0 := by simpa using ha
      subst ha
      rw [if_neg (by decide)] at hlk
      intro H locs la hx9 hL hSt hP hD hS hl
      exact lv_ldc hx hb hown (hw _ hlk) hdec (hnx _ _ _ h H locs la hx9 hL (okS.ci hSt) hP hD hS hl)
    · split at h
      · next ha =>
        have ha : a = 1 := by simpa using ha
        subst ha
        rw [if_pos rfl] at hlk
        intro H locs la hx9 hL hSt hP hD hS hl
        have hR5 := hSta.2.2.2.2.1 _ hlk
        have hb6 : b < 6 := by
          have h9 : ∀ q ∈ strTab, q.2.2 < 6 := by decide +kernel
          exact h9 _ hlk
        have hok : okV (vR 20 b 0) := by
          show okR 20 b 0 = true
          unfold okR
          have : Nat.blt b 6 = true := Nat.ble_eq_true_of_le hb6
          rw [this]; rfl
        exact va_ldcS hx hb hown hR5 hdec (hnx _ _ _ h H locs la hx9 hL (okS.cs hok hSt) hP hD hS hl)
      · cases h
  case ldc_w i =>
    have hlen : 3 = len := by simpa [lenO] using hlen
    subst hlen
    simp only [stepG, cond_eq_ite] at h
    simp only [eok] at hlk
    split at h
    · intro H locs la hx9 hL hSt hP hD hS hl
      exact lv_ldcw hx hb hown (hw _ hlk) hdec (hnx _ _ _ h H locs la hx9 hL (okS.ci hSt) hP hD hS hl)
    · cases h
  case ldc2_w i =>
    have hlen : 3 = len := by simpa [lenO] using hlen
    subst hlen
    simp only [eok] at hlk
    intro H locs la hx9 hL hSt hP hD hS hl
    exact lv_ldc2 hx hb hown (hw _ hlk) hdec (hnx _ _ _ h H locs la hx9 hL (okS.cl hSt) hP hD hS hl)
  case iload i =>
    have hlen : 2 = len := by simpa [lenO] using hlen
    subst hlen
    simp only [stepG] at h
    split at h
    · next hg =>
      intro H locs la hx9 hL hSt hP hD hS hl
      exact lv_iload hx hb hdec (hl.2.2.2 _ _ hg) (hnx _ _ _ h H locs la hx9 hL (okS.ci hSt) hP hD hS hl)
    · cases h
  case iload_n i =>
    have hlen : 1 = len := by simpa [lenO] using hlen
    subst hlen
    simp only [stepG] at h
    split at h
    · next hg =>
      intro H locs la hx9 hL hSt hP hD hS hl
      exact lv_iload_n hx hb hdec rfl (hl.2.2.2 _ _ hg) (hnx _ _ _ h H locs la hx9 hL (okS.ci hSt) hP hD hS hl)
    · cases h
  case lload i =>
    have hlen : 2 = len := by simpa [lenO] using hlen
    subst hlen
    simp only [stepG] at h
    split at h
    · next hg =>
      intro H locs la hx9 hL hSt hP hD hS hl
      exact lv_lload hx hb hdec (hl.2.2.2 _ _ hg) (hnx _ _ _ h H locs la hx9 hL (okS.cl hSt) hP hD hS hl)
    · cases h
  case lload_n i =>
    have hlen : 1 = len := by simpa [lenO] using hlen
    subst hlen
    simp only [stepG] at h
    split at h
    · next hg =>
      intro H locs la hx9 hL hSt hP hD hS hl
      exact lv_lload_n hx hb hdec rfl (hl.2.2.2 _ _ hg) (hnx _ _ _ h H locs la hx9 hL (okS.cl hSt) hP hD hS hl)
    · cases h
  case aload i =>
    have hlen : 2 = len := by simpa [lenO] using hlen
    subst hlen
    simp only [stepG] at h
    split at h
    · next q hg =>
      intro H locs la hx9 hL hSt hP hD hS hl
      have h1 := hl.2.2.2 _ _ hg
      exact lv_aloadv hx hb hdec (cv_isRef hsr q) h1 (hnx _ _ _ h H locs la hx9 hL (okS.cs (hL _ _ hg) hSt) hP hD hS hl)
    · cases h
  case aload_n i =>
    have hlen : 1 = len := by simpa [lenO] using hlen
    subst hlen
    simp only [stepG] at h
    split at h
    · next q hg =>
      intro H locs la hx9 hL hSt hP hD hS hl
      have h1 := hl.2.2.2 _ _ hg
      exact lv_aload_nv hx hb hdec (cv_isRef hsr q) h1 (hnx _ _ _ h H locs la hx9 hL (okS.cs (hL _ _ hg) hSt) hP hD hS hl)
    · cases h
  case istore i =>
    have hlen : 2 = len := by simpa [lenO] using hlen
    subst hlen
    simp only [stepG, cond_eq_ite] at h
    split at h
    · split at h
      · next hi =>
        have hi := Nat.le_of_ble_eq_true hi
        intro H locs la hx9 hL hSt hP hD hS hl
        refine lv_istore hx hb hdec  hl.has (by rw [← hl.2.2.1]; exact hi) rfl (fun la' hl' => ?_)
        exact hnx _ _ _ h H locs la' hx9 (hL.set trivial) hSt.tl hP hD hS (hl.set1 hsio rfl hl')
      · cases h
    · cases h
  case istore_n i =>
    have hlen : 1 = len := by simpa [lenO] using hlen
    subst hlen
    simp only [stepG, cond_eq_ite] at h
    split at h
    · split at h
      · next hi =>
        have hi := Nat.le_of_ble_eq_true hi
        intro H locs la hx9 hL hSt hP hD hS hl
        refine lv_istore_n hx hb hdec rfl hl.has (by rw [← hl.2.2.1]; exact hi) rfl (fun la' hl' => ?_)
        exact hnx _ _ _ h H locs la' hx9 (hL.set trivial) hSt.tl hP hD hS (hl.set1 hsio rfl hl')
      · cases h
    · cases h
  case lstore i =>
    have hlen : 2 = len := by simpa [lenO] using hlen
    subst hlen
    simp only [stepG, cond_eq_ite] at h
    split at h
    · split at h
      · next hi =>
        have hi := Nat.le_of_ble_eq_true hi
        intro H locs la hx9 hL hSt hP hD hS hl
        refine lv_lstore hx hb hdec  hl.has (by rw [← hl.2.2.1]; exact hi) rfl (fun la' hl' => ?_)
        exact hnx _ _ _ h H locs la' hx9 (hL.set trivial) hSt.tl hP hD hS (hl.set2 hsio rfl hl')
      · cases h
    · cases h
  case lstore_n i =>
    have hlen : 1 = len := by simpa [lenO] using hlen
    subst hlen
    simp only [stepG, cond_eq_ite] at h
    split at h
    · split at h
      · next hi =>
        have hi := Nat.le_of_ble_eq_true hi
        intro H locs la hx9 hL hSt hP hD hS hl
        refine lv_lstore_n hx hb hdec rfl hl.has (by rw [← hl.2.2.1]; exact hi) rfl (fun la' hl' => ?_)
        exact hnx _ _ _ h H locs la' hx9 (hL.set trivial) hSt.tl hP hD hS (hl.set2 hsio rfl hl')
      · cases h
    · cases h
  case astore i =>
    have hlen : 2 = len := by simpa [lenO] using hlen
    subst hlen
    simp only [stepG, cond_eq_ite] at h
    split at h
    · split at h
      · next hi =>
        have hi := Nat.le_of_ble_eq_true hi
        intro H locs la hx9 hL hSt hP hD hS hl
        refine lv_astorev hx hb hdec (cv_isRef hsr _) hl.has (by rw [← hl.2.2.1]; exact hi) (fun la' hl' => ?_)
        exact hnx _ _ _ h H locs la' hx9 (hL.set hSt.hd) hSt.tl hP hD hS (hl.set1 hsio rfl hl')
      · cases h
    · cases h
  case astore_n i =>
    have hlen : 1 = len := by simpa [lenO] using hlen
    subst hlen
    simp only [stepG, cond_eq_ite] at h
    split at h
    · split at h
      · next hi =>
        have hi := Nat.le_of_ble_eq_true hi
        intro H locs la hx9 hL hSt hP hD hS hl
        refine lv_astore_nv hx hb hdec (cv_isRef hsr _) hl.has (by rw [← hl.2.2.1]; exact hi) (fun la' hl' => ?_)
        exact hnx _ _ _ h H locs la' hx9 (hL.set hSt.hd) hSt.tl hP hD hS (hl.set1 hsio rfl hl')
      · cases h
    · cases h
  case iinc i n =>
    have hlen : 3 = len := by simpa [lenO] using hlen
    subst hlen
    simp only [stepG] at h
    split at h
    · next z hg =>
      intro H locs la hx9 hL hSt hP hD hS hl
      obtain ⟨k, hk⟩ := List.mem_iff_getElem?.mp (lprs_mem.mpr ⟨_, hg, rfl⟩ : (i, cv ρ (vI z)) ∈ lprs ρ ls)
      refine lv_iinc hx hb hdec hl.has hk rfl (by rw [← hl.2.2.1]; exact lget_lt hg) rfl (fun la' hl' => ?_)
      exact hnx _ _ _ h H locs la' hx9 (hL.set trivial) hSt hP hD hS (hl.set1 hsio rfl hl')
    · cases h
  case iadd =>
    have hlen : 1 = len := by simpa [lenO] using hlen
    subst hlen
    simp only [stepG] at h
    split at h
    · intro H locs la hx9 hL hSt hP hD hS hl
      exact lv_iadd hx hb hdec (hnx _ _ _ h H locs la hx9 hL (okS.ci hSt.tl.tl) hP hD hS hl)
    · cases h
  case isub =>
    have hlen : 1 = len := by simpa [lenO] using hlen
    subst hlen
    simp only [stepG] at h
    split at h
    · intro H locs la hx9 hL hSt hP hD hS hl
      exact lv_isub hx hb hdec (hnx _ _ _ h H locs la hx9 hL (okS.ci hSt.tl.tl) hP hD hS hl)
    · cases h
  case imul =>
    have hlen : 1 = len := by simpa [lenO] using hlen
    subst hlen
    simp only [stepG] at h
    split at h
    · intro H locs la hx9 hL hSt hP hD hS hl
      exact lv_imul hx hb hdec (hnx _ _ _ h H locs la hx9 hL (okS.ci hSt.tl.tl) hP hD hS hl)
    · cases h
  case iand =>
    have hlen : 1 = len := by simpa [lenO] using hlen
    subst hlen
    simp only [stepG] at h
    split at h
    · intro H locs la hx9 hL hSt hP hD hS hl
      exact lv_iand hx hb hdec (hnx _ _ _ h H locs la hx9 hL (okS.ci hSt.tl.tl) hP hD hS hl)
    · cases h
  case ior =>
    have hlen : 1 = len := by simpa [lenO] using hlen
    subst hlen
    simp only [stepG] at h
    split at h
    · intro H locs la hx9 hL hSt hP hD hS hl
      exact lv_ior hx hb hdec (hnx _ _ _ h H locs la hx9 hL (okS.ci hSt.tl.tl) hP hD hS hl)
    · cases h
  case ixor =>
    have hlen : 1 = len := by simpa [lenO] using hlen
    subst hlen
    simp only [stepG] at h
    split at h
    · intro H locs la hx9 hL hSt hP hD hS hl
      exact lv_ixor hx hb hdec (hnx _ _ _ h H locs la hx9 hL (okS.ci hSt.tl.tl) hP hD hS hl)
    · cases h
  case ishl =>
    have hlen : 1 = len := by simpa [lenO] using hlen
    subst hlen
    simp only [stepG] at h
    split at h
    · intro H locs la hx9 hL hSt hP hD hS hl
      exact lv_ishl hx hb hdec (hnx _ _ _ h H locs la hx9 hL (okS.ci hSt.tl.tl) hP hD hS hl)
    · cases h
  case ishr =>
    have hlen : 1 = len := by simpa [lenO] using hlen
    subst hlen
    simp only [stepG] at h
    split at h
    · intro H locs la hx9 hL hSt hP hD hS hl
      exact lv_ishr hx hb hdec (hnx _ _ _ h H locs la hx9 hL (okS.ci hSt.tl.tl) hP hD hS hl)
    · cases h
  case iushr =>
    have hlen : 1 = len := by simpa [lenO] using hlen
    subst hlen
    simp only [stepG] at h
    split at h
    · intro H locs la hx9 hL hSt hP hD hS hl
      exact lv_iushr hx hb hdec rfl (hnx _ _ _ h H locs la hx9 hL (okS.ci hSt.tl.tl) hP hD hS hl)
    · cases h
  case idiv =>
    have hlen : 1 = len := by simpa [lenO] using hlen
    subst hlen
    simp only [stepG] at h
    split at h
    · split at h
      · cases h
      · next hne =>
        intro H locs la hx9 hL hSt hP hD hS hl
        exact lv_idiv hx hb hdec hne (hnx _ _ _ h H locs la hx9 hL (okS.ci hSt.tl.tl) hP hD hS hl)
    · cases h
  case irem =>
    have hlen : 1 = len := by simpa [lenO] using hlen
    subst hlen
    simp only [stepG] at h
    split at h
    · split at h
      · cases h
      · next hne =>
        intro H locs la hx9 hL hSt hP hD hS hl
        exact lv_irem hx hb hdec hne (hnx _ _ _ h H locs la hx9 hL (okS.ci hSt.tl.tl) hP hD hS hl)
    · cases h
  case ldiv =>
    have hlen : 1 = len := by simpa [lenO] using hlen
    subst hlen
    simp only [stepG] at h
    split at h
    · split at h
      · cases h
      · next hne =>
        intro H locs la hx9 hL hSt hP hD hS hl
        exact lv_ldiv hx hb hdec hne (hnx _ _ _ h H locs la hx9 hL (okS.cl hSt.tl.tl) hP hD hS hl)
    · cases h
  case lrem =>
    have hlen : 1 = len := by simpa [lenO] using hlen
    subst hlen
    simp only [stepG] at h
    split at h
    · split at h
      · cases h
      · next hne =>
        intro H locs la hx9 hL hSt hP hD hS hl
        exact lv_lrem hx hb hdec hne (hnx _ _ _ h H locs la hx9 hL (okS.cl hSt.tl.tl) hP hD hS hl)
    · cases h
  case ladd =>
    have hlen : 1 = len := by simpa [lenO] using hlen
    subst hlen
    simp only [stepG] at h
    split at h
    · intro H locs la hx9 hL hSt hP hD hS hl
      exact lv_ladd hx hb hdec (hnx _ _ _ h H locs la hx9 hL (okS.cl hSt.tl.tl) hP hD hS hl)
    · cases h
  case lcmp =>
    have hlen : 1 = len := by simpa [lenO] using hlen
    subst hlen
    simp only [stepG] at h
    split at h
    · intro H locs la hx9 hL hSt hP hD hS hl
      exact W.lcmp hx hb hdec (hnx _ _ _ h H locs la hx9 hL (okS.ci hSt.tl.tl) hP hD hS hl)
    · cases h
  case ineg =>
    have hlen : 1 = len := by simpa [lenO] using hlen
    subst hlen
    simp only [stepG] at h
    split at h
    · intro H locs la hx9 hL hSt hP hD hS hl
      exact lv_ineg hx hb hdec  (hnx _ _ _ h H locs la hx9 hL (okS.ci hSt.tl) hP hD hS hl)
    · cases h
  case lneg =>
    have hlen : 1 = len := by simpa [lenO] using hlen
    subst hlen
    simp only [stepG] at h
    split at h
    · intro H locs la hx9 hL hSt hP hD hS hl
      exact lv_lneg hx hb hdec  (hnx _ _ _ h H locs la hx9 hL (okS.cl hSt.tl) hP hD hS hl)
    · cases h
  case i2b =>
    have hlen : 1 = len := by simpa [lenO] using hlen
    subst hlen
    simp only [stepG] at h
    split at h
    · intro H locs la hx9 hL hSt hP hD hS hl
      exact lv_i2b hx hb hdec rfl (hnx _ _ _ h H locs la hx9 hL (okS.ci hSt.tl) hP hD hS hl)
    · cases h
  case i2c =>
    have hlen : 1 = len := by simpa [lenO] using hlen
    subst hlen
    simp only [stepG] at h
    split at h
    · intro H locs la hx9 hL hSt hP hD hS hl
      exact lv_i2c hx hb hdec rfl (hnx _ _ _ h H locs la hx9 hL (okS.ci hSt.tl) hP hD hS hl)
    · cases h
  case i2l =>
    have hlen : 1 = len := by simpa [lenO] using hlen
    subst hlen
    simp only [stepG] at h
    split at h
    · intro H locs la hx9 hL hSt hP hD hS hl
      exact lv_i2l hx hb hdec rfl (hnx _ _ _ h H locs la hx9 hL (okS.cl hSt.tl) hP hD hS hl)
    · cases h
  case dup =>
    have hlen : 1 = len := by simpa [lenO] using hlen
    subst hlen
    simp only [stepG] at h
    split at h
    · intro H locs la hx9 hL hSt hP hD hS hl
      exact lv_dup hx hb hdec rfl (hnx _ _ _ h H locs la hx9 hL (okS.ci hSt) hP hD hS hl)
    · intro H locs la hx9 hL hSt hP hD hS hl
      exact lv_dup hx hb hdec (cv_cat ρ hsio _) (hnx _ _ _ h H locs la hx9 hL (okS.cs hSt.hd hSt) hP hD hS hl)
    · cases h
  case dup2 =>
    have hlen : 1 = len := by simpa [lenO] using hlen
    subst hlen
    simp only [stepG] at h
    split at h
    · intro H locs la hx9 hL hSt hP hD hS hl
      exact lv_dup2_11 hx hb hdec rfl rfl (hnx _ _ _ h H locs la hx9 hL (okS.ci (okS.ci hSt)) hP hD hS hl)
    · intro H locs la hx9 hL hSt hP hD hS hl
      exact lv_dup2_11 hx hb hdec rfl (cv_cat ρ hsio _) (hnx _ _ _ h H locs la hx9 hL (okS.ci (okS.cs hSt.tl.hd hSt)) hP hD hS hl)
    · cases h
  case pop =>
    have hlen : 1 = len := by simpa [lenO] using hlen
    subst hlen
    simp only [stepG] at h
    split at h
    · intro H locs la hx9 hL hSt hP hD hS hl
      exact lv_pop hx hb hdec rfl (hnx _ _ _ h H locs la hx9 hL hSt.tl hP hD hS hl)
    · intro H locs la hx9 hL hSt hP hD hS hl
      exact lv_pop hx hb hdec (cv_cat ρ hsio _) (hnx _ _ _ h H locs la hx9 hL hSt.tl hP hD hS hl)
    · cases h
  case goto off =>
    have hlen : 3 = len := by simpa [lenO] using hlen
    subst hlen
    intro H locs la hx9 hL hSt hP hD hS hl
    exact lv_goto hx hb hdec (jtgt hlk) (hjp _ _ _ _ h H locs la hx9 (hL.mask a) hSt hP hD hS (hl.mask a))
  case ifCond cnd off =>
    have hlen : 3 = len := by simpa [lenO] using hlen
    subst hlen
    simp only [stepG] at h
    split at h
    · cases cnd
      · dsimp only at h
        intro H locs la hx9 hL hSt hP hD hS hl
        exact lv_if_eq hx hb hdec (jtgt hlk) (fun hc => (by rw [if_pos hc] at h; exact hjp _ _ _ _ h H locs la hx9 (hL.mask a) hSt.tl hP hD hS (hl.mask a))) (fun hc => (by rw [if_neg hc] at h; exact hnx _ _ _ h H locs la hx9 hL hSt.tl hP hD hS hl))
      · dsimp only at h
        intro H locs la hx9 hL hSt hP hD hS hl
        exact lv_if_ne hx hb hdec (jtgt hlk) (fun hc => (by rw [if_neg hc] at h; exact hjp _ _ _ _ h H locs la hx9 (hL.mask a) hSt.tl hP hD hS (hl.mask a))) (fun hc => (by rw [if_pos hc] at h; exact hnx _ _ _ h H locs la hx9 hL hSt.tl hP hD hS hl))
      · dsimp only at h
        intro H locs la hx9 hL hSt hP hD hS hl
        exact lv_if_lt hx hb hdec (jtgt hlk) (fun hc => (by rw [if_pos hc] at h; exact hjp _ _ _ _ h H locs la hx9 (hL.mask a) hSt.tl hP hD hS (hl.mask a))) (fun hc => (by rw [if_neg hc] at h; exact hnx _ _ _ h H locs la hx9 hL hSt.tl hP hD hS hl))
      · dsimp only at h
        intro H locs la hx9 hL hSt hP hD hS hl
        exact lv_if_ge hx hb hdec (jtgt hlk) (fun hc => (by rw [if_pos hc] at h; exact hjp _ _ _ _ h H locs la hx9 (hL.mask a) hSt.tl hP hD hS (hl.mask a))) (fun hc => (by rw [if_neg hc] at h; exact hnx _ _ _ h H locs la hx9 hL hSt.tl hP hD hS hl))
      · dsimp only at h
        intro H locs la hx9 hL hSt hP hD hS hl
        exact lv_if_gt hx hb hdec (jtgt hlk) (fun hc => (by rw [if_pos hc] at h; exact hjp _ _ _ _ h H locs la hx9 (hL.mask a) hSt.tl hP hD hS (hl.mask a))) (fun hc => (by rw [if_neg hc] at h; exact hnx _ _ _ h H locs la hx9 hL hSt.tl hP hD hS hl))
      · dsimp only at h
        intro H locs la hx9 hL hSt hP hD hS hl
        exact lv_if_le hx hb hdec (jtgt hlk) (fun hc => (by rw [if_pos hc] at h; exact hjp _ _ _ _ h H locs la hx9 (hL.mask a) hSt.tl hP hD hS (hl.mask a))) (fun hc => (by rw [if_neg hc] at h; exact hnx _ _ _ h H locs la hx9 hL hSt.tl hP hD hS hl))
    · cases h
  case if_icmp cnd off =>
    have hlen : 3 = len := by simpa [lenO] using hlen
    subst hlen
    simp only [stepG] at h
    split at h
    · cases cnd
      · dsimp only at h
        intro H locs la hx9 hL hSt hP hD hS hl
        exact lv_icmp_eq hx hb hdec (jtgt hlk) (fun hc => (by rw [if_pos hc] at h; exact hjp _ _ _ _ h H locs la hx9 (hL.mask a) hSt.tl.tl hP hD hS (hl.mask a))) (fun hc => (by rw [if_neg hc] at h; exact hnx _ _ _ h H locs la hx9 hL hSt.tl.tl hP hD hS hl))
      · dsimp only at h
        intro H locs la hx9 hL hSt hP hD hS hl
        exact lv_icmp_ne hx hb hdec (jtgt hlk) (fun hc => (by rw [if_neg hc] at h; exact hjp _ _ _ _ h H locs la hx9 (hL.mask a) hSt.tl.tl hP hD hS (hl.mask a))) (fun hc => (by rw [if_pos hc] at h; exact hnx _ _ _ h H locs la hx9 hL hSt.tl.tl hP hD hS hl))
      · dsimp only at h
        intro H locs la hx9 hL hSt hP hD hS hl
        exact lv_icmp_lt hx hb hdec (jtgt hlk) (fun hc => (by rw [if_pos hc] at h; exact hjp _ _ _ _ h H locs la hx9 (hL.mask a) hSt.tl.tl hP hD hS (hl.mask a))) (fun hc => (by rw [if_neg hc] at h; exact hnx _ _ _ h H locs la hx9 hL hSt.tl.tl hP hD hS hl))
      · dsimp only at h
        intro H locs la hx9 hL hSt hP hD hS hl
        exact lv_icmp_ge hx hb hdec (jtgt hlk) (fun hc => (by rw [if_pos hc] at h; exact hjp _ _ _ _ h H locs la hx9 (hL.mask a) hSt.tl.tl hP hD hS (hl.mask a))) (fun hc => (by rw [if_neg hc] at h; exact hnx _ _ _ h H locs la hx9 hL hSt.tl.tl hP hD hS hl))
      · dsimp only at h
        intro H locs la hx9 hL hSt hP hD hS hl
        exact lv_icmp_gt hx hb hdec (jtgt hlk) (fun hc => (by rw [if_pos hc] at h; exact hjp _ _ _ _ h H locs la hx9 (hL.mask a) hSt.tl.tl hP hD hS (hl.mask a))) (fun hc => (by rw [if_neg hc] at h; exact hnx _ _ _ h H locs la hx9 hL hSt.tl.tl hP hD hS hl))
      · dsimp only at h
        intro H locs la hx9 hL hSt hP hD hS hl
        exact lv_icmp_le hx hb hdec (jtgt hlk) (fun hc => (by rw [if_pos hc] at h; exact hjp _ _ _ _ h H locs la hx9 (hL.mask a) hSt.tl.tl hP hD hS (hl.mask a))) (fun hc => (by rw [if_neg hc] at h; exact hnx _ _ _ h H locs la hx9 hL hSt.tl.tl hP hD hS hl))
    · cases h
  case tableswitch dd lo hi offs =>
    simp only [stepG] at h
    simp only [eok, Bool.and_eq_true, decide_eq_true_eq, List.all_eq_true] at hlk
    obtain ⟨⟨⟨⟨k1, k2⟩, k3⟩, k4⟩, k5⟩ := hlk
    split at h
    · have hsz : offs.toList.length = offs.size := Array.length_toList
      rcases sw_T offs.toList lo dd k2 (by omega) h with ⟨k, hk, hz, off, ho, hg⟩ | ⟨hz, hg⟩
      · intro H locs la hx9 hL hSt hP hD hS hl
        have hoff : 0 ≤ (pc : Int) + off := k5 off (List.mem_of_getElem? ho)
        refine lv_tableIn (off := off) hx hb hdec (by omega) (by omega) ?_ (Int.toNat_of_nonneg hoff).symm (hjp _ _ _ _ hg H locs la hx9 (hL.mask a) hSt.tl hP hD hS (hl.mask a))
        rw [hz, show (lo + (k : Int) - lo).toNat = k from by omega, ← Array.getElem?_toList]
        exact ho
      · intro H locs la hx9 hL hSt hP hD hS hl
        exact lv_tableOut hx hb hdec (by omega) (Int.toNat_of_nonneg k4).symm (hjp _ _ _ _ hg H locs la hx9 (hL.mask a) hSt.tl hP hD hS (hl.mask a))
    · cases h
  case lookupswitch dd ps =>
    simp only [stepG] at h
    simp only [eok, Bool.and_eq_true] at hlk
    obtain ⟨⟨k1, k2⟩, k3⟩ := hlk
    have k2 := of_decide_eq_true k2
    have k3 : ∀ q ∈ ps.toList, (0 ≤ (pc : Int) + q.2 ∧ -1000 ≤ q.1) ∧ q.1 ≤ 1000 := fun q hq => by
      have := List.all_eq_true.mp k3 q hq
      simpa only [Bool.and_eq_true, decide_eq_true_eq] using this
    split at h
    · obtain ⟨off, h1, h2, h3⟩ := sw_L ps.toList dd (fun q hq => ⟨(k3 q hq).1.2, (k3 q hq).2⟩) h
      intro H locs la hx9 hL hSt hP hD hS hl
      refine lv_lookup hx hb hdec k1 h1 (Int.toNat_of_nonneg ?_).symm (hjp _ _ _ _ h2 H locs la hx9 (hL.mask a) hSt.tl hP hD hS (hl.mask a))
      rcases h3 with h3 | ⟨q, hq, h3⟩
      · rw [h3]; exact k2
      · rw [h3]; exact (k3 q hq).1.1
    · cases h
  case getfield i =>
    have hlen : 3 = len := by simpa [lenO] using hlen
    subst hlen
    simp only [stepG, cond_eq_ite] at h
    split at h
    · next c' n' st' =>
      split at h
      · next hc =>
        have hc : c' = a := by simpa using hc
        subst hc
        intro H locs la hx9 hL hSt hP hD hS hl
        have hok : okR c' n' 0 = true := hSt.hd
        by_cases h20 : c' = 20
        · subst h20
          simp only [eok] at hlk
          rw [if_pos trivial] at hlk
          have hn : n' < 6 := by
            unfold okR at hok
            simp only [BEq.rfl, Bool.true_and] at hok
            have e1 : ((20 : Nat) == 22) = false := rfl
            have e2 : ((20 : Nat) == 21) = false := rfl
            have e3 : ((20 : Nat) == 24) = false := rfl
            have e4 : cellsL.contains (20, n', 0) = false := by
              cases hcc : cellsL.contains (20, n', 0)
              · rfl
              · exact absurd (cells_c _ (List.contains_iff_mem.mp hcc)) (show ¬ (20 : Nat) < 7 by decide)
            rw [e1, e2, e3, e4] at hok
            simp only [Bool.false_and, Bool.false_or, Bool.or_false, Bool.and_eq_true] at hok
            exact Nat.le_of_ble_eq_true hok.1
          obtain ⟨hv1, hv2, hv3, hv4⟩ := hSta.1 n' hn
          match b, hlk, h with
          | 0, hlk, h =>
            refine vk_getf hx hb hv3 hS hown (hw _ hlk.2) (fun _ z => z) hdec ?_
            have hok1 : okV (vR 20 n' 1) := by
              show okR 20 n' 1 = true
              unfold okR
              have : Nat.blt n' 6 = true := Nat.ble_eq_true_of_le hn
              rw [this]; rfl
            exact hnx _ _ _ h H locs la hx9 hL (okS.cs hok1 hSt.tl) hP hD hS hl
          | 1, hlk, h =>
            refine vk_getf hx hb hv2 hS hown (hw _ hlk.2) (fun _ z => z) hdec ?_
            exact hnx _ _ _ h H locs la hx9 hL (okS.ci hSt.tl) hP hD hS hl
          | b + 2, hlk, h => exact absurd (Nat.le_of_ble_eq_true hlk.1) (by omega)
        · simp only [eok] at hlk
          rw [if_neg h20] at hlk
          obtain ⟨hin, hlk⟩ := hlk
          obtain ⟨h7, hbn⟩ := inF_lt hin
          have hcell := cell_ok hok h7
          obtain ⟨q0, hq0, he⟩ := wsO_get ρ M hcell
          have hfs : ((List.range (nFl.getD c' 0)).map (fun k => cv ρ (fv M c' n' k)))[b]? = some (cv ρ (fv M c' n' b)) := by
            rw [List.getElem?_map, List.getElem?_range hbn]; rfl
          have hgo : ∀ v : AV, v = fv M c' n' b → okV v → nx ls (v :: st') M = some res → W p l e R s m args below meth c H locs cells slots Q (F0 m pc la (cv ρ (vR c' n' 0) :: st'.map (cv ρ))) := by
            intro v hv hokv hh
            rw [cv_cell ρ hcell]
            refine va_get hx hb hts (fun w hw => hbig w (cls_in c' h7 w hw)) hown hK hP q0 he (cls_at c' h7) b hbn (hw _ hlk) (fun _ z => z) (v := cv ρ v) (by rw [hv]; exact hfs) hdec ?_
            exact hnx _ _ _ hh H locs la hx9 hL (okS.cs hokv hSt.tl) hP hD hS hl
          split at h
          · next c2 k2 hsh =>
            split at h
            · next hlt =>
              refine hgo _ (by unfold fv; simp only [hsh]) ?_ h
              have hch := chkF_at hin
              exact okMut hch hsh hlt
            · cases h
          · next hns =>
            exact hgo _ rfl (okFv hcell hin hns) h
      · cases h
    · cases h
  case putfield i =>
    have hlen : 3 = len := by simpa [lenO] using hlen
    subst hlen
    simp only [stepG, cond_eq_ite] at h
    simp only [eok] at hlk
    obtain ⟨hin, hlk⟩ := hlk
    obtain ⟨h7, hbn⟩ := inF_lt hin
    have hch := chkF_at hin
    unfold chkF at hch
    simp only [Bool.and_eq_true] at hch
    split at h
    · next z c' n' st' =>
      split at h
      · next hc =>
        have hc : c' = a := by simpa using hc
        subst hc
        intro H locs la hx9 hL hSt hP hD hS hl
        have hcell := cell_ok (show okR c' n' 0 = true from hSt.tl.hd) h7
        obtain ⟨q0, hq0, he⟩ := wsO_get ρ M hcell
        have hlen9 : b < ((List.range (nFl.getD c' 0)).map (fun k => cv ρ (fv M c' n' k))).length := by simp only [List.length_map, List.length_range]; exact hbn
        have hgo : ∀ ty : FieldType, (TO c' b).2.2.2 = false → tyO c' b = ty → narrow ty (.int z) = .int z → fits ty (.int z) = true → ((shp c' b).1 = 0 ∨ (shp c' b).1 = 5) → nx ls st' (ssI M c' n' b z) = some res → W p l e R s m args below meth c H locs cells slots Q (F0 m pc la (cv ρ (vI z) :: cv ρ (vR c' n' 0) :: st'.map (cv ρ))) := by
          intro ty hfin hty hnr hfi hkd hh
          rw [cv_cell ρ hcell]
          obtain ⟨g1, g2⟩ := ent_ssI (ρ := ρ) (M := M) (x := z) hcell hkd
          have hset := wsO_set hq0 g1 g2
          refine va_put hx hb hts (fun w hw => hbig w (cls_in c' h7 w hw)) (tyO c') (cls_ty c' h7) (cls_nm c' h7) hown hK hP hD hS q0 he (cls_at c' h7) b hbn (hw _ hlk) (fun _ z => z) hfin (by rw [cls_ty c' h7 b hbn, hty]) (v := .int z) hnr hfi hlen9 hdec (fun H1 locs1 hP1 hD1 hS1 => ?_)
          rw [hset] at hP1 hD1
          have hx1 : (ssI M c' n' b z).2.2 = x := by
            rw [← hx9]; unfold ssI; cases (c' == 6) <;> rfl
          exact hnx _ _ _ hh H1 locs1 la hx1 hL hSt.tl.tl hP1 hD1 hS1 hl
        split at h
        · next hsh =>
          have h0 := hch.1.1
          rw [hsh] at h0
          simp only [BEq.rfl, cond_true, Bool.and_eq_true, Bool.not_eq_true', decide_eq_true_eq] at h0
          exact hgo .int h0.1 h0.2 rfl rfl (Or.inl hsh) h
        · next hsh =>
          have h0 := hch.1.2
          rw [hsh] at h0
          simp only [BEq.rfl, cond_true, Bool.and_eq_true, Bool.not_eq_true', decide_eq_true_eq] at h0
          split at h
          · next hz =>
            refine hgo .boolean h0.1 h0.2 ?_ ?_ (Or.inr hsh) h
            · rcases hz with rfl | rfl <;> rfl
            · rcases hz with rfl | rfl <;> rfl
          · cases h
        · cases h
      · cases h
    · next cv9 nv kv c' n' st' =>
      split at h
      · next hc =>
        have hc : c' = a := by simpa using hc
        subst hc
        split at h
        · next c2 k2 hsh =>
          split at h
          · next hck =>
            simp only [Bool.and_eq_true, beq_iff_eq] at hck
            obtain ⟨rfl, rfl⟩ := hck
            intro H locs la hx9 hL hSt hP hD hS hl
            have hcell := cell_ok (show okR c' n' 0 = true from hSt.tl.hd) h7
            obtain ⟨q0, hq0, he⟩ := wsO_get ρ M hcell
            have hlen9 : b < ((List.range (nFl.getD c' 0)).map (fun k => cv ρ (fv M c' n' k))).length := by simp only [List.length_map, List.length_range]; exact hbn
            have h0 := hch.2
            rw [hsh] at h0
            simp only [BEq.rfl, cond_true, Bool.and_eq_true, Bool.not_eq_true', decide_eq_true_eq, Bool.or_eq_true, beq_iff_eq, Prod.mk.injEq] at h0
            have hc7 : cv9 < 7 := by rcases h0.2 with h8 | h8 <;> omega
            have hvc := cell_ok (show okR cv9 nv kv = true from hSt.hd) hc7
            obtain ⟨g1, g2⟩ := ent_csR (ρ := ρ) (M := M) (n := n') (v := nv) hsh
            have hset := wsO_set hq0 g1 g2
            show W p l e R s m args below meth c H locs cells slots Q (F0 m pc la (cv ρ (vR cv9 nv kv) :: cv ρ (vR c' n' 0) :: st'.map (cv ρ)))
            rw [cv_cell ρ hcell]
            rw [cv_cell ρ hvc] at hset ⊢
            have hgo : ∀ ty : FieldType, tyO c' b = ty → narrow ty (.ref (ρ.1 cv9 nv kv)) = .ref (ρ.1 cv9 nv kv) → fits ty (.ref (ρ.1 cv9 nv kv)) = true → W p l e R s m args below meth c H locs cells slots Q (F0 m pc la (.ref (ρ.1 cv9 nv kv) :: .ref (ρ.1 c' n' 0) :: st'.map (cv ρ))) := by
              intro ty hty hnr hfi
              refine va_put hx hb hts (fun w hw => hbig w (cls_in c' h7 w hw)) (tyO c') (cls_ty c' h7) (cls_nm c' h7) hown hK hP hD hS q0 he (cls_at c' h7) b hbn (hw _ hlk) (fun _ z => z) h0.1.1 (by rw [cls_ty c' h7 b hbn, hty]) hnr hfi hlen9 hdec (fun H1 locs1 hP1 hD1 hS1 => ?_)
              rw [hset] at hP1 hD1
              exact hnx _ _ _ h H1 locs1 la hx9 hL hSt.tl.tl hP1 hD1 hS1 hl
            rcases h0.1.2 with hty | hty
            · exact hgo _ hty rfl rfl
            · exact hgo _ hty rfl rfl
          · cases h
        · cases h
      · cases h
    · cases h
  case getstatic i =>
    have hlen : 3 = len := by simpa [lenO] using hlen
    subst hlen
    simp only [stepG, cond_eq_ite] at h
    simp only [eok] at hlk
    split at h
    · next ha =>
      have ha : a = 0 := by simpa using ha
      subst ha
      rw [if_pos rfl] at hlk
      intro H locs la hx9 hL hSt hP hD hS hl
      exact va_gets hx hb hSta.2.2.1 hS hown (hw _ hlk) (fun _ z => z) hdec (hnx _ _ _ h H locs la hx9 hL (okS.ci hSt) hP hD hS hl)
    · split at h
      · next ha =>
        have ha : a = 1 := by simpa using ha
        subst ha
        rw [if_neg (by decide), if_pos rfl] at hlk
        obtain ⟨hb3, hlk⟩ := hlk
        have hb3 : b < 3 := Nat.le_of_ble_eq_true hb3
        obtain ⟨hz1, hz2⟩ := hSta.2.1 b hb3
        have hok : okV (vR 21 b 1) := by
          show okR 21 b 1 = true
          unfold okR
          have : Nat.blt b 3 = true := Nat.ble_eq_true_of_le hb3
          rw [this]; rfl
        intro H locs la hx9 hL hSt hP hD hS hl
        rcases hlk with hlk | hlk
        · exact va_getsN hx hb hz1 hS hown (va_Nw.use rfl (hSta.2.2.2.2.2.2.1 _ hlk)) (fun _ z => z) hdec (hnx _ _ _ h H locs la hx9 hL (okS.cs hok hSt) hP hD hS hl)
        · exact va_gets hx hb hz1 hS hown (hw _ hlk) (fun _ z => z) hdec (hnx _ _ _ h H locs la hx9 hL (okS.cs hok hSt) hP hD hS hl)
      · split at h
        · next ha =>
          have ha : a = 2 := by simpa using ha
          subst ha
          rw [if_neg (by decide), if_neg (by decide), if_pos rfl] at hlk
          intro H locs la hx9 hL hSt hP hD hS hl
          exact va_gets hx hb hSta.2.2.2.1 hS hown (hw _ hlk) (fun _ z => z) hdec (hnx _ _ _ h H locs la hx9 hL (okS.cs (v := vR 22 0 0) rfl hSt) hP hD hS hl)
        · cases h
  case iaload =>
    have hlen : 1 = len := by simpa [lenO] using hlen
    subst hlen
    simp only [stepG, cond_eq_ite] at h
    split at h
    · next z c' n' k' st' =>
      split at h
      · next hk =>
        split at h
        · cases h
        · next hbd =>
          intro H locs la hx9 hL hSt hP hD hS hl
          have hok : okR c' n' k' = true := hSt.tl.hd
          simp only [Bool.or_eq_true, beq_iff_eq] at hk
          rcases hk with (hk | hk) | hk
          · obtain ⟨hcell, kk, rfl⟩ := ak_cell hok (Or.inl hk)
            obtain ⟨q0, hq0, he⟩ := wsO_get ρ M hcell
            have hent : ent ρ M (c', n', kk + 1) = .inl (ρ.2.2.1, (ak M c' n' (kk + 1)).2, .inl (arr M c' n' (kk + 1))) := by unfold ent; simp only [hk]
            rw [hent] at he
            show W p l e R s m args below meth c H locs cells slots Q (F0 m pc la (.int z :: cv ρ (vR c' n' (kk + 1)) :: st'.map (cv ρ)))
            rw [cv_cell ρ hcell]
            exact va_iald hx hb hK hP q0 0 he rfl hbd hdec (hnx _ _ _ h H locs la hx9 hL (okS.ci hSt.tl.tl) hP hD hS hl)
          · obtain ⟨rfl, hn3, rfl⟩ := ok_sta hok hk
            have hT := (hSta.2.1 n' hn3).2
            have e1 : (ak M 21 n' 1).2 = (staBL.getD n' []).length := rfl
            rw [e1] at hbd
            exact va_ti hx hb hT hS hbd rfl hdec (hnx _ _ _ h H locs la hx9 hL (okS.ci hSt.tl.tl) hP hD hS hl)
          · obtain ⟨rfl, rfl, rfl⟩ := ok_scr hok hk
            have e1 : (ak M 24 0 0).2 = M.2.2.2 := rfl
            rw [e1, hx9] at hbd
            refine va_sld hx hb hSta.2.2.2.2.2.2.2.1 hSta.2.2.2.2.2.2.2.2.1 hSta.2.2.2.2.2.2.2.2.2.1 hS hbd hdec ?_
            have e2 : arr M 24 0 0 = M.2.2.1 := rfl
            have h2 := hnx _ _ _ h H locs la hx9 hL (okS.ci hSt.tl.tl) hP hD hS hl
            rw [e2, hx9] at h2
            exact h2
      · cases h
    · cases h
  case baload =>
    have hlen : 1 = len := by simpa [lenO] using hlen
    subst hlen
    simp only [stepG, cond_eq_ite] at h
    split at h
    · next z c' n' k' st' =>
      split at h
      · next hk =>
        split at h
        · cases h
        · next hbd =>
          intro H locs la hx9 hL hSt hP hD hS hl
          have hok : okR c' n' k' = true := hSt.tl.hd
          simp only [Bool.or_eq_true, beq_iff_eq] at hk
          rcases hk with hk | hk
          · obtain ⟨hcell, kk, rfl⟩ := ak_cell hok (Or.inr (Or.inl hk))
            obtain ⟨q0, hq0, he⟩ := wsO_get ρ M hcell
            have hent : ent ρ M (c', n', kk + 1) = .inl (ρ.2.2.2.1, (ak M c' n' (kk + 1)).2, .inl (arr M c' n' (kk + 1))) := by unfold ent; simp only [hk]
            rw [hent] at he
            show W p l e R s m args below meth c H locs cells slots Q (F0 m pc la (.int z :: cv ρ (vR c' n' (kk + 1)) :: st'.map (cv ρ)))
            rw [cv_cell ρ hcell]
            exact va_zald hx hb hK hP q0 1 he rfl hbd hdec (hnx _ _ _ h H locs la hx9 hL (okS.ci hSt.tl.tl) hP hD hS hl)
          · obtain ⟨rfl, hn6, rfl⟩ := ok_str hok hk
            have hT := (hSta.1 n' hn6).2.2.2
            have e1 : (ak M 20 n' 1).2 = (strBL.getD n' []).length := rfl
            rw [e1] at hbd
            exact va_tb hx hb hT hS hbd rfl hdec (hnx _ _ _ h H locs la hx9 hL (okS.ci hSt.tl.tl) hP hD hS hl)
      · cases h
    · cases h
  case aaload =>
    have hlen : 1 = len := by simpa [lenO] using hlen
    subst hlen
    simp only [stepG, cond_eq_ite] at h
    split at h
    · next z c' n' k' st' =>
      split at h
      · next hk =>
        split at h
        · cases h
        · next hbd =>
          intro H locs la hx9 hL hSt hP hD hS hl
          have hok : okR c' n' k' = true := hSt.tl.hd
          have hk : (ak M c' n' k').1 = 6 := by simpa using hk
          obtain ⟨hcell, kk, rfl⟩ := ak_cell hok (Or.inr (Or.inr hk))
          obtain ⟨q0, hq0, he⟩ := wsO_get ρ M hcell
          have hent : ent ρ M (c', n', kk + 1) = .inl (ρ.2.2.2.2, (ak M c' n' (kk + 1)).2, .inr (.inr (.inr (.inr (fun i => some (ρ.1 3 i 0)))))) := by unfold ent; simp only [hk]
          rw [hent] at he
          have hl6 : (ak M c' n' (kk + 1)).2 = 6 := ak_six hcell hk
          have hcell3 : (3, z.toNatClampNeg, 0) ∈ cellsL := cells_3 _ (Nat.not_le.mp fun q => hbd (Or.inr (by rw [hl6]; exact q)))
          show W p l e R s m args below meth c H locs cells slots Q (F0 m pc la (.int z :: cv ρ (vR c' n' (kk + 1)) :: st'.map (cv ρ)))
          rw [cv_cell ρ hcell]
          refine va_aldq hx hb hK hP q0 2 he rfl hbd hdec ?_
          have h2 := hnx _ _ _ h H locs la hx9 hL (okS.cs (v := vR 3 z.toNatClampNeg 0) (ok_cell hcell3) hSt.tl.tl) hP hD hS hl
          rw [List.map_cons, cv_cell ρ hcell3] at h2
          exact h2
      · cases h
    · cases h
  case iastore =>
    have hlen : 1 = len := by simpa [lenO] using hlen
    subst hlen
    simp only [stepG, cond_eq_ite] at h
    split at h
    · next y z c' n' k' st' =>
      split at h
      · next hk =>
        split at h
        · cases h
        · next hbd =>
          intro H locs la hx9 hL hSt hP hD hS hl
          have hok : okR c' n' k' = true := hSt.tl.tl.hd
          have hk : (ak M c' n' k').1 = 1 := by simpa using hk
          obtain ⟨hcell, kk, rfl⟩ := ak_cell hok (Or.inl hk)
          obtain ⟨q0, hq0, he⟩ := wsO_get ρ M hcell
          have hent : ent ρ M (c', n', kk + 1) = .inl (ρ.2.2.1, (ak M c' n' (kk + 1)).2, .inl (arr M c' n' (kk + 1))) := by unfold ent; simp only [hk]
          rw [hent] at he
          show W p l e R s m args below meth c H locs cells slots Q (F0 m pc la (.int y :: .int z :: cv ρ (vR c' n' (kk + 1)) :: st'.map (cv ρ)))
          rw [cv_cell ρ hcell]
          obtain ⟨g1, g2⟩ := ent_ssA (ρ := ρ) (M := M) (f := upd (arr M c' n' (kk + 1)) z.toNatClampNeg y) hcell (Or.inl hk)
          rw [if_pos hk] at g1
          have hset := wsO_set hq0 g1 g2
          refine va_iast hx hb hK hP hD hS q0 0 he rfl hbd hdec (fun H1 locs1 hP1 hD1 hS1 => ?_)
          rw [hset] at hP1 hD1
          have hx1 : (ssA M c' n' (kk + 1) (upd (arr M c' n' (kk + 1)) z.toNatClampNeg y)).2.2 = x := by
            rw [← hx9]; unfold ssA; cases (c' == 6) <;> rfl
          exact hnx _ _ _ h H1 locs1 la hx1 hL hSt.tl.tl.tl hP1 hD1 hS1 hl
      · cases h
    · cases h
  case bastore =>
    have hlen : 1 = len := by simpa [lenO] using hlen
    subst hlen
    simp only [stepG, cond_eq_ite] at h
    split at h
    · next y z c' n' k' st' =>
      split at h
      · next hk =>
        split at h
        · cases h
        · next hbd =>
          split at h
          · next hy =>
            intro H locs la hx9 hL hSt hP hD hS hl
            have hok : okR c' n' k' = true := hSt.tl.tl.hd
            have hk : (ak M c' n' k').1 = 2 := by simpa using hk
            obtain ⟨hcell, kk, rfl⟩ := ak_cell hok (Or.inr (Or.inl hk))
            obtain ⟨q0, hq0, he⟩ := wsO_get ρ M hcell
            have hent : ent ρ M (c', n', kk + 1) = .inl (ρ.2.2.2.1, (ak M c' n' (kk + 1)).2, .inl (arr M c' n' (kk + 1))) := by unfold ent; simp only [hk]
            rw [hent] at he
            show W p l e R s m args below meth c H locs cells slots Q (F0 m pc la (.int y :: .int z :: cv ρ (vR c' n' (kk + 1)) :: st'.map (cv ρ)))
            rw [cv_cell ρ hcell]
            obtain ⟨g1, g2⟩ := ent_ssA (ρ := ρ) (M := M) (f := upd (arr M c' n' (kk + 1)) z.toNatClampNeg y) hcell (Or.inr hk)
            rw [if_neg (by rw [hk]; decide)] at g1
            have hset := wsO_set hq0 g1 g2
            have hny : vp_nar .boolean y = y := by rcases hy with rfl | rfl <;> rfl
            refine va_zast hx hb hK hP hD hS q0 1 he rfl hbd hdec (fun H1 locs1 hP1 hD1 hS1 => ?_)
            rw [hny, hset] at hP1 hD1
            have hx1 : (ssA M c' n' (kk + 1) (upd (arr M c' n' (kk + 1)) z.toNatClampNeg y)).2.2 = x := by
              rw [← hx9]; unfold ssA; cases (c' == 6) <;> rfl
            exact hnx _ _ _ h H1 locs1 la hx1 hL hSt.tl.tl.tl hP1 hD1 hS1 hl
          · cases h
      · cases h
    · cases h
  case arraylength =>
    have hlen : 1 = len := by simpa [lenO] using hlen
    subst hlen
    simp only [stepG, cond_eq_ite] at h
    split at h
    · next c' n' k' st' =>
      split at h
      · cases h
      · next hk0 =>
        have hk0 : ¬ (ak M c' n' k').1 = 0 := by simpa using hk0
        intro H locs la hx9 hL hSt hP hD hS hl
        have hok : okR c' n' k' = true := hSt.hd
        have hres := hnx _ _ _ h H locs la hx9 hL (okS.ci hSt.tl) hP hD hS hl
        have hcases : (ak M c' n' k').1 = 1 ∨ (ak M c' n' k').1 = 2 ∨ (ak M c' n' k').1 = 3 ∨ (ak M c' n' k').1 = 4 ∨ (ak M c' n' k').1 = 5 ∨ (ak M c' n' k').1 = 6 := ak_kinds hok hk0
        have hpool : ∀ (q0 : Nat) (cA : ClassId) (v : vp_A) (t0 : Nat) (ty : FieldType), (wsO ρ M)[q0]? = some (ρ.1 c' n' k', .inl (cA, v)) → (tysL ρ)[t0]? = some (cA, ty) → v.1 = (ak M c' n' k').2 → (c', n', k') ∈ cellsL → W p l e R s m args below meth c H locs cells slots Q (F0 m pc la ((vR c' n' k' :: st').map (cv ρ))) := by
          intro q0 cA v t0 ty he ht hv hcell
          show W p l e R s m args below meth c H locs cells slots Q (F0 m pc la (cv ρ (vR c' n' k') :: st'.map (cv ρ)))
          rw [cv_cell ρ hcell]
          exact va_alen hx hb hK hP q0 t0 he ht (by rw [hv]) hdec hres
        rcases hcases with hk | hk | hk | hk | hk | hk
        · obtain ⟨hcell, kk, rfl⟩ := ak_cell hok (Or.inl hk)
          obtain ⟨q0, hq0, he⟩ := wsO_get ρ M hcell
          have hent : ent ρ M (c', n', kk + 1) = .inl (ρ.2.2.1, (ak M c' n' (kk + 1)).2, .inl (arr M c' n' (kk + 1))) := by unfold ent; simp only [hk]
          rw [hent] at he
          exact hpool q0 _ _ 0 _ he rfl rfl hcell
        · obtain ⟨hcell, kk, rfl⟩ := ak_cell hok (Or.inr (Or.inl hk))
          obtain ⟨q0, hq0, he⟩ := wsO_get ρ M hcell
          have hent : ent ρ M (c', n', kk + 1) = .inl (ρ.2.2.2.1, (ak M c' n' (kk + 1)).2, .inl (arr M c' n' (kk + 1))) := by unfold ent; simp only [hk]
          rw [hent] at he
          exact hpool q0 _ _ 1 _ he rfl rfl hcell
        · obtain ⟨rfl, hn6, rfl⟩ := ok_str hok hk
          exact va_tlen hx hb (hSta.1 n' hn6).2.2.2 hS rfl hdec hres
        · obtain ⟨rfl, hn3, rfl⟩ := ok_sta hok hk
          exact va_tlen hx hb (hSta.2.1 n' hn3).2 hS rfl hdec hres
        · obtain ⟨rfl, rfl, rfl⟩ := ok_scr hok hk
          have e1 : (ak M 24 0 0).2 = M.2.2.2 := rfl
          rw [e1, hx9] at hres
          exact va_slen hx hb hSta.2.2.2.2.2.2.2.1 hSta.2.2.2.2.2.2.2.2.1 hSta.2.2.2.2.2.2.2.2.2.1 hS hdec hres
        · obtain ⟨hcell, kk, rfl⟩ := ak_cell hok (Or.inr (Or.inr hk))
          obtain ⟨q0, hq0, he⟩ := wsO_get ρ M hcell
          have hent : ent ρ M (c', n', kk + 1) = .inl (ρ.2.2.2.2, (ak M c' n' (kk + 1)).2, .inr (.inr (.inr (.inr (fun i => some (ρ.1 3 i 0)))))) := by unfold ent; simp only [hk]
          rw [hent] at he
          exact hpool q0 _ _ 2 _ he rfl rfl hcell
    · cases h
  case invokevirtual i =>
    have hlen : 3 = len := by simpa [lenO] using hlen
    subst hlen
    simp only [stepG, cond_eq_ite] at h
    split at h
    · next hk =>
      simp only [Bool.and_eq_true, Bool.not_eq_true', beq_iff_eq] at hk
      obtain ⟨⟨⟨⟨⟨k1, k2⟩, k3⟩, k4⟩, k5⟩, k6⟩ := hk
      have k3 := Nat.le_of_ble_eq_true k3
      obtain ⟨n', r, hr⟩ : ∃ n' r, (st.take b).reverse = vR (ctO a) n' 0 :: r := by
        unfold mustC at k6
        split at k6
        · next c9 n9 r9 hh => exact ⟨n9, r9, by rw [hh]; have : c9 = ctO a := by simpa using k6
                                                rw [this]⟩
        · cases k6
      have hlen9 : r.length = naO a := by
        have h8 : (st.take b).reverse.length = b := by rw [List.length_reverse, List.length_take]; omega
        rw [hr, List.length_cons] at h8
        omega
      have h2 := hcv i a _ ls (st.drop b) M rfl rfl h n' r (Nat.le_of_ble_eq_true k1) k2 hr hlen9 (Nat.le_of_ble_eq_true k5)
      rw [List.reverse_reverse, List.take_append_drop] at h2
      exact h2
    · cases h
  case invokestatic i =>
    have hlen : 3 = len := by simpa [lenO] using hlen
    subst hlen
    simp only [stepG, cond_eq_ite] at h
    split at h
    · next ha =>
      have ha : a = 1000 := by simpa using ha
      subst ha
      split at h
      · next y z st' =>
        split at h
        · next hcs9 =>
          have hcs9 := Nat.le_of_ble_eq_true hcs9
          intro H locs la hx9 hL hSt hP hD hS hl
          have hlk : Cond.methodLink (owO j) i Lib.Math.min.name ∈ wBig := by simpa [eok] using hlk
          exact va_mmin hx hb (hml.trans hl.1.symm) hown (hw _ hlk) (hw _ wm_min.1) (hw _ wm_ini) (hw _ wm_min.2) (by omega) (by rw [cats_eq ρ hsio]; omega) hC.1 hC.2 hdec (hnx _ _ _ h H locs la hx9 hL (okS.ci hSt.tl.tl) hP hD hS hl)
        · cases h
      · cases h
    split at h
    · next ha =>
      have ha : a = 1001 := by simpa using ha
      subst ha
      split at h
      · next y z st' =>
        split at h
        · next hcs9 =>
          have hcs9 := Nat.le_of_ble_eq_true hcs9
          intro H locs la hx9 hL hSt hP hD hS hl
          have hlk : Cond.methodLink (owO j) i Lib.Math.max.name ∈ wBig := by simpa [eok] using hlk
          exact va_mmax hx hb (hml.trans hl.1.symm) hown (hw _ hlk) (hw _ wm_max.1) (hw _ wm_ini) (hw _ wm_max.2) (by omega) (by rw [cats_eq ρ hsio]; omega) hC.1 hC.2 hdec (hnx _ _ _ h H locs la hx9 hL (okS.ci hSt.tl.tl) hP hD hS hl)
        · cases h
      · cases h
    split at h
    · next ha =>
      have ha : a = 1002 := by simpa using ha
      subst ha
      split at h
      · next z st' =>
        split at h
        · next hcs9 =>
          have hcs9 := Nat.le_of_ble_eq_true hcs9
          intro H locs la hx9 hL hSt hP hD hS hl
          have hlk : Cond.methodLink (owO j) i Lib.Math.abs.name ∈ wBig := by simpa [eok] using hlk
          exact va_mabs hx hb (hml.trans hl.1.symm) hown (hw _ hlk) (hw _ wm_abs.1) (hw _ wm_ini) (hw _ wm_abs.2) (by omega) (by rw [cats_eq ρ hsio]; omega) hC.1 hC.2 hdec (hnx _ _ _ h H locs la hx9 hL (okS.ci hSt.tl) hP hD hS hl)
        · cases h
      · cases h
    split at h
    · next ha =>
      have ha : a = 1003 := by simpa using ha
      subst ha
      have hlk : Cond.methodLink (owO j) i arraycopyName ∈ wBig := by simpa [eok] using hlk
      split at h
      · next nn dp c1 n1 k1 sp c0 n0 k0 st' =>
        split at h
        · next hk =>
          simp only [Bool.and_eq_true, beq_iff_eq] at hk
          obtain ⟨⟨hcs9, hk1⟩, hk0⟩ := hk
          have hcs9 := Nat.le_of_ble_eq_true hcs9
          split at h
          · cases h
          · next hbd =>
            intro H locs la hx9 hL hSt hP hD hS hl
            obtain ⟨hcell1, kk1, rfl⟩ := ak_cell (show okR c1 n1 k1 = true from hSt.tl.tl.hd) (Or.inl hk1)
            obtain ⟨hcell0, kk0, rfl⟩ := ak_cell (show okR c0 n0 k0 = true from hSt.tl.tl.tl.tl.hd) (Or.inl hk0)
            obtain ⟨q1, hq1, he1⟩ := wsO_get ρ M hcell1
            obtain ⟨q0, hq0, he0⟩ := wsO_get ρ M hcell0
            have hent1 : ent ρ M (c1, n1, kk1 + 1) = .inl (ρ.2.2.1, (ak M c1 n1 (kk1 + 1)).2, .inl (arr M c1 n1 (kk1 + 1))) := by unfold ent; simp only [hk1]
            have hent0 : ent ρ M (c0, n0, kk0 + 1) = .inl (ρ.2.2.1, (ak M c0 n0 (kk0 + 1)).2, .inl (arr M c0 n0 (kk0 + 1))) := by unfold ent; simp only [hk0]
            rw [hent1] at he1
            rw [hent0] at he0
            show W p l e R s m args below meth c H locs cells slots Q (F0 m pc la (.int nn :: .int dp :: cv ρ (vR c1 n1 (kk1 + 1)) :: .int sp :: cv ρ (vR c0 n0 (kk0 + 1)) :: st'.map (cv ρ)))
            rw [cv_cell ρ hcell1, cv_cell ρ hcell0]
            obtain ⟨g1, g2⟩ := ent_ssA (ρ := ρ) (M := M) (f := va_cpy (arr M c0 n0 (kk0 + 1)) (arr M c1 n1 (kk1 + 1)) sp.toNatClampNeg dp.toNatClampNeg nn.toNatClampNeg) hcell1 (Or.inl hk1)
            rw [if_pos hk1] at g1
            have hset := wsO_set hq1 g1 g2
            have hnw : nativeFrameWords "java/lang/System" "arraycopy" 5 + 11 ≤ 50 := by decide
            refine va_copyi hx hb (hml.trans hl.1.symm) hown (hw _ hlk) (hw _ wm_copy.1) (hw _ wm_copy.2.1) (hw _ wm_copy.2.2) hK hP hD hS q0 q1 0 0 he0 he1 rfl rfl rfl (fun z => hbd (Or.inl z)) (fun z => hbd (Or.inr (Or.inl z))) (fun z => hbd (Or.inr (Or.inr (Or.inl z)))) (Nat.not_lt.mp fun z => hbd (Or.inr (Or.inr (Or.inr (Or.inl z))))) (Nat.not_lt.mp fun z => hbd (Or.inr (Or.inr (Or.inr (Or.inr z))))) (fun _ _ => rfl) (by omega) (by rw [cats_eq ρ hsio]; omega) hdec (fun H1 locs1 hP1 hD1 hS1 => ?_)
            rw [hset] at hP1 hD1
            have hx1 : (ssA M c1 n1 (kk1 + 1) (va_cpy (arr M c0 n0 (kk0 + 1)) (arr M c1 n1 (kk1 + 1)) sp.toNatClampNeg dp.toNatClampNeg nn.toNatClampNeg)).2.2 = x := by
              rw [← hx9]; unfold ssA; cases (c1 == 6) <;> rfl
            exact hnx _ _ _ h H1 locs1 la hx1 hL hSt.tl.tl.tl.tl.tl hP1 hD1 hS1 hl
        · cases h
      · cases h
    split at h
    · next hk =>
      simp only [Bool.and_eq_true, beq_iff_eq] at hk
      obtain ⟨⟨⟨⟨k1, k2⟩, k3⟩, k4⟩, k5⟩ := hk
      have k3 := Nat.le_of_ble_eq_true k3
      have h8 : (st.take b).reverse.length = b := by rw [List.length_reverse, List.length_take]; omega
      have h2 := hcs i a _ ls (st.drop b) M rfl rfl h (Nat.le_of_ble_eq_true k1) k2 (by omega) (Nat.le_of_ble_eq_true k5)
      rw [List.reverse_reverse, List.take_append_drop] at h2
      exact h2
    · cases h
  case ireturn =>
    have hlen : 1 = len := by simpa [lenO] using hlen
    subst hlen
    simp only [stepG] at h
    simp only [eok] at hlk
    split at h
    · next z =>
      intro H locs la hx9 hL hSt hP hD hS hl
      have hgo : ∀ ty, reO j = some ty → narrow ty (.int z) = .int z → some (some (vI z), M) = some res → W p l e R s m args below meth c H locs cells slots Q (F0 m pc la [.int z]) := fun ty h1 h2 hh => hret (some (vI z)) M hh ⟨hdec, ty, h1, h2⟩ H locs la hx9 hP hD hS
      split at h
      · exact hgo .int hlk.symm rfl h
      · split at h
        · next hz => exact hgo .boolean hlk.symm (by rcases hz with rfl | rfl <;> rfl) h
        · cases h
      · split at h
        · next hz => exact hgo .char hlk.symm (by show Value.int (vp_nar .char z) = _; rw [hz]) h
        · cases h
      · split at h
        · next hz => exact hgo .byte hlk.symm (by show Value.int (vp_nar .byte z) = _; rw [hz]) h
        · cases h
      · cases h
    · cases h
  case lreturn =>
    have hlen : 1 = len := by simpa [lenO] using hlen
    subst hlen
    simp only [stepG] at h
    simp only [eok] at hlk
    split at h
    · next z =>
      intro H locs la hx9 hL hSt hP hD hS hl
      exact hret (some (vL z)) M h ⟨hdec, hlk⟩ H locs la hx9 hP hD hS
    · cases h
  case return_ =>
    have hlen : 1 = len := by simpa [lenO] using hlen
    subst hlen
    simp only [stepG] at h
    simp only [eok] at hlk
    split at h
    · intro H locs la hx9 hL hSt hP hD hS hl
      exact hret none M h ⟨hdec, hlk⟩ H locs la hx9 hP hD hS
    · cases h
  all_goals (exact absurd h (by simp [stepG]))
