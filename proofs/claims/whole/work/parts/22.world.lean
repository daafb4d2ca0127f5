/-! THE MEMORY AS CELLS OF THE HEAP -/
abbrev EnvR : Type := (Nat → Nat → Nat → Nat) × Value × ClassId × ClassId × ClassId
def cv (ρ : EnvR) : AV → Value
  | .inl x => .int x
  | .inr (.inl y) => .long y
  | .inr (.inr (c, n, k)) => bif c == 22 then ρ.2.1 else bif (c == 3 && n == 99) then .null else .ref (ρ.1 c n k)
def okR (c n k : Nat) : Bool := c == 22 || (c == 20 && Nat.blt n 6 && Nat.ble k 1) || (c == 21 && Nat.blt n 3 && k == 1) || (c == 24 && n == 0 && k == 0) || cellsL.contains (c, n, k)
def okV : AV → Prop
  | .inr (.inr (c, n, k)) => okR c n k = true
  | _ => True
def okS (st : List AV) : Prop := ∀ v ∈ st, okV v
def okL (ls : LL) : Prop := ∀ i v, lget ls i = some v → okV v
def ent (ρ : EnvR) (M : Mem) (q : Nat × Nat × Nat) : va_E := match q.2.2 with
  | 0 => .inr (q.1, (List.range (nFl.getD q.1 0)).map (fun k => cv ρ (fv M q.1 q.2.1 k)))
  | k + 1 => match (ak M q.1 q.2.1 (k + 1)).1 with
    | 1 => .inl (ρ.2.2.1, (ak M q.1 q.2.1 (k + 1)).2, .inl (arr M q.1 q.2.1 (k + 1)))
    | 2 => .inl (ρ.2.2.2.1, (ak M q.1 q.2.1 (k + 1)).2, .inl (arr M q.1 q.2.1 (k + 1)))
    | _ => .inl (ρ.2.2.2.2, (ak M q.1 q.2.1 (k + 1)).2, .inr (.inr (.inr (.inr (fun i => some (ρ.1 3 i 0))))))
def wsO (ρ : EnvR) (M : Mem) : va_W := cellsL.map (fun q => (ρ.1 q.1 q.2.1 q.2.2, ent ρ M q))
abbrev tysL (ρ : EnvR) : List (ClassId × FieldType) := [(ρ.2.2.1, .int), (ρ.2.2.2.1, .boolean), (ρ.2.2.2.2, .object "ChoirRoof$Setting")]
theorem cellsL_nodup : cellsL.Nodup := by decide +kernel
theorem wsO_get (ρ : EnvR) (M : Mem) {q : Nat × Nat × Nat} (h : q ∈ cellsL) : ∃ i : Nat, cellsL[i]? = some q ∧ (wsO ρ M)[i]? = some (ρ.1 q.1 q.2.1 q.2.2, ent ρ M q) := by
  obtain ⟨i, hi⟩ := List.mem_iff_getElem?.mp h
  exact ⟨i, hi, by simp [wsO, hi]⟩
theorem wsO_len (ρ : EnvR) (M : Mem) : (wsO ρ M).length = cellsL.length := List.length_map _
theorem wsO_set {ρ : EnvR} {M M' : Mem} {q : Nat × Nat × Nat} {e : va_E} {i : Nat} (hi : cellsL[i]? = some q) (he : ent ρ M' q = e) (ho : ∀ q' ∈ cellsL, q' ≠ q → ent ρ M' q' = ent ρ M q') :
    (wsO ρ M).set i (ρ.1 q.1 q.2.1 q.2.2, e) = wsO ρ M' := by
  apply List.ext_getElem?
  intro k
  rw [List.getElem?_set]
  have hlt : i < cellsL.length := (List.getElem?_eq_some_iff.mp hi).1
  by_cases hk : i = k
  · subst hk
    rw [if_pos rfl, if_pos (by rw [wsO_len]; exact hlt)]
    simp [wsO, hi, he]
  · rw [if_neg hk]
    simp only [wsO, List.getElem?_map]
    match hq : cellsL[k]? with
    | none => rfl
    | some q' =>
      have hne : q' ≠ q := fun e2 => hk (by
        exact (List.getElem?_inj hlt cellsL_nodup).mp (by rw [hi, hq, e2]))
      simp [ho q' (List.mem_of_getElem? hq) hne]
theorem wsO_D {ρ : EnvR} {M M' : Mem} {A : Nat → Prop} (h : va_D A (wsO ρ M)) : va_D A (wsO ρ M') := by
  have key : ∀ (i : Nat) (p : Nat × va_E), (wsO ρ M')[i]? = some p → ∃ p', (wsO ρ M)[i]? = some p' ∧ p'.1 = p.1 := by
    intro i p hp
    simp only [wsO, List.getElem?_map, Option.map_eq_some_iff] at hp ⊢
    obtain ⟨q, hq, rfl⟩ := hp
    exact ⟨_, ⟨q, hq, rfl⟩, rfl⟩
  refine ⟨fun i j p q hp hq e => ?_, fun k q hk => ?_⟩
  · obtain ⟨p', h1, e1⟩ := key i p hp
    obtain ⟨q', h2, e2⟩ := key j q hq
    exact h.1 i j p' q' h1 h2 (by rw [e1, e2, e])
  · obtain ⟨q', h1, e1⟩ := key k q hk
    rw [← e1]; exact h.2 k q' h1
/-! what a write leaves of the other cells -/
theorem fv_csI {M : Mem} {c n k : Nat} {x : Int32} {c' n' k' : Nat} (h : ¬ (c' = c ∧ n' = n ∧ k' = k)) : fv (csI M c n k x) c' n' k' = fv M c' n' k' := by
  unfold fv
  split <;> first | rfl | (simp only [fI, csI, cI, rI, u3]; rw [if_neg h])
theorem fv_csA {M : Mem} {c n k : Nat} {f : Nat → Int32} {c' n' k' : Nat} : fv (csA M c n k f) c' n' k' = fv M c' n' k' := by
  unfold fv; split <;> rfl
theorem fv_rsA {M : Mem} {k : Nat} {f : Nat → Int32} {c' n' k' : Nat} : fv (rsA M k f) c' n' k' = fv M c' n' k' := by
  unfold fv; split <;> rfl
theorem fv_csR {M : Mem} {c n k v : Nat} {c' n' k' : Nat} (h : ¬ (c' = c ∧ n' = n ∧ k' = k)) : fv (csR M c n k v) c' n' k' = fv M c' n' k' := by
  unfold fv
  split <;> first | rfl | (simp only [csR, cR, u3]; rw [if_neg h])
theorem fv_rsI {M : Mem} {k : Nat} {x : Int32} {c' n' k' : Nat} (h : ¬ (c' = 6 ∧ k' = k)) : fv (rsI M k x) c' n' k' = fv M c' n' k' := by
  have e : fI (rsI M k x) c' n' k' = fI M c' n' k' := by
    unfold fI
    by_cases hc : c' = 6
    · subst hc
      simp only [rsI, rI, u1]
      rw [if_neg (fun q => h ⟨rfl, q⟩)]
      rfl
    · have : (c' == 6) = false := by simpa using hc
      rw [this]; rfl
  unfold fv
  split <;> first | rfl | (rw [e])
theorem arr_csI {M : Mem} {c n k : Nat} {x : Int32} {c' n' k' : Nat} : arr (csI M c n k x) c' n' k' = arr M c' n' k' := rfl
theorem arr_rsI {M : Mem} {k : Nat} {x : Int32} {c' n' k' : Nat} : arr (rsI M k x) c' n' k' = arr M c' n' k' := rfl
theorem arr_csR {M : Mem} {c n k v : Nat} {c' n' k' : Nat} : arr (csR M c n k v) c' n' k' = arr M c' n' k' := rfl
theorem arr_csA {M : Mem} {c n k : Nat} {f : Nat → Int32} {c' n' k' : Nat} (h : ¬ (c' = c ∧ n' = n ∧ k' = k)) : arr (csA M c n k f) c' n' k' = arr M c' n' k' := by
  simp only [arr, csA, cA, rA, sX, u3, if_neg h]
theorem arr_rsA {M : Mem} {k : Nat} {f : Nat → Int32} {c' n' k' : Nat} (h : ¬ (c' = 6 ∧ k' = k)) : arr (rsA M k f) c' n' k' = arr M c' n' k' := by
  unfold arr
  by_cases hc : c' = 6
  · subst hc
    simp only [rsA, rA, u1]
    rw [if_neg (fun q => h ⟨rfl, q⟩)]
    rfl
  · have : (c' == 6) = false := by simpa using hc
    rw [this]; rfl
/-- only class 6's object 0 is there -/
theorem cells_6 : ∀ q ∈ cellsL, q.1 = 6 → q.2.1 = 0 := by decide +kernel
theorem cells_c : ∀ q ∈ cellsL, q.1 < 7 := by decide +kernel
/-- a field is written -/
theorem ent_ssI {ρ : EnvR} {M : Mem} {a n b : Nat} {x : Int32} (hq : (a, n, 0) ∈ cellsL) (hs : (shp a b).1 = 0 ∨ (shp a b).1 = 5) :
    ent ρ (ssI M a n b x) (a, n, 0) = .inr (a, ((List.range (nFl.getD a 0)).map (fun k => cv ρ (fv M a n k))).set b (.int x)) ∧ ∀ q ∈ cellsL, q ≠ (a, n, 0) → ent ρ (ssI M a n b x) q = ent ρ M q := by
  have hself : fv (ssI M a n b x) a n b = vI x := by
    have hf : fI (ssI M a n b x) a n b = x := by
      unfold fI ssI
      by_cases h6 : a = 6
      · subst h6; simp [rsI, rI, u1]
      · have h7 : (a == 6) = false := by simpa using h6
        rw [h7]; simp [csI, cI, u3]
    unfold fv
    match hsh : shp a b, hs with
    | (0, _, _), _ => simp only [hf]
    | (5, _, _), _ => simp only [hf]
    | (1, _, _), hs => exact absurd hs (by simp)
    | (2, _, _), hs => exact absurd hs (by simp)
    | (3, _, _), hs => exact absurd hs (by simp)
    | (4, _, _), hs => exact absurd hs (by simp)
    | (z + 6, _, _), hs => exact absurd hs (by simp)
  have hoth : ∀ c' n' k', ¬ (c' = a ∧ n' = n ∧ k' = b) → ((c', n', 0) ∈ cellsL ∨ c' = a ∧ n' = n) → fv (ssI M a n b x) c' n' k' = fv M c' n' k' := by
    intro c' n' k' h hm
    unfold ssI
    by_cases h6 : a = 6
    · subst h6
      refine fv_rsI (fun q => h ⟨q.1, ?_, q.2⟩)
      have h1 : n = 0 := cells_6 _ hq rfl
      rcases hm with hm | hm
      · rw [h1]; exact cells_6 _ hm q.1
      · exact hm.2
    · have h7 : (a == 6) = false := by simpa using h6
      rw [h7]; exact fv_csI h
  constructor
  · unfold ent
    simp only
    congr 2
    apply List.ext_getElem?
    intro k
    rw [List.getElem?_set]
    simp only [List.getElem?_map, List.length_map, List.length_range]
    by_cases hk : b = k
    · subst hk
      rw [if_pos rfl]
      by_cases hb : b < nFl.getD a 0
      · rw [if_pos hb, List.getElem?_range hb]; simp [hself, cv]
      · rw [if_neg hb]
        have : (List.range (nFl.getD a 0))[b]? = none := List.getElem?_eq_none (by simp only [List.length_range]; omega)
        rw [this]; rfl
    · rw [if_neg hk]
      match hr : (List.range (nFl.getD a 0))[k]? with
      | none => rfl
      | some z =>
        have : z = k := by have := List.getElem?_eq_some_iff.mp hr; simpa using this.2.symm
        subst this
        simp only [Option.map_some]
        rw [hoth a n z (fun q => hk q.2.2.symm) (Or.inr ⟨rfl, rfl⟩)]
  · intro q hqm hne
    obtain ⟨c', n', k'⟩ := q
    match k' with
    | 0 =>
      unfold ent
      simp only
      congr 2
      apply List.map_congr_left
      intro k _
      rw [hoth c' n' k (fun z => hne (by rw [z.1, z.2.1])) (Or.inl hqm)]
    | k + 1 =>
      have ha : arr (ssI M a n b x) c' n' (k + 1) = arr M c' n' (k + 1) := by
        unfold ssI
        cases (a == 6) <;> rfl
      have hk : ak (ssI M a n b x) c' n' (k + 1) = ak M c' n' (k + 1) := by
        unfold ssI
        cases (a == 6) <;> rfl
      unfold ent
      simp only [ha, hk]
theorem ent_csR {ρ : EnvR} {M : Mem} {a n b v c' k' : Nat} (hs : shp a b = (3, c', k')) :
    ent ρ (csR M a n b v) (a, n, 0) = .inr (a, ((List.range (nFl.getD a 0)).map (fun k => cv ρ (fv M a n k))).set b (cv ρ (vR c' v k'))) ∧ ∀ q ∈ cellsL, q ≠ (a, n, 0) → ent ρ (csR M a n b v) q = ent ρ M q := by
  have hself : fv (csR M a n b v) a n b = vR c' v k' := by
    unfold fv
    rw [hs]
    simp [cR, csR, u3]
  constructor
  · unfold ent
    simp only
    congr 2
    apply List.ext_getElem?
    intro k
    rw [List.getElem?_set]
    simp only [List.getElem?_map, List.length_map, List.length_range]
    by_cases hk : b = k
    · subst hk
      rw [if_pos rfl]
      by_cases hb : b < nFl.getD a 0
      · rw [if_pos hb, List.getElem?_range hb]; simp [hself]
      · rw [if_neg hb]
        have : (List.range (nFl.getD a 0))[b]? = none := List.getElem?_eq_none (by simp only [List.length_range]; omega)
        rw [this]; rfl
    · rw [if_neg hk]
      match hr : (List.range (nFl.getD a 0))[k]? with
      | none => rfl
      | some z =>
        have : z = k := by have := List.getElem?_eq_some_iff.mp hr; simpa using this.2.symm
        subst this
        simp only [Option.map_some]
        rw [fv_csR (fun q => hk q.2.2.symm)]
  · intro q hqm hne
    obtain ⟨c2, n2, k2⟩ := q
    match k2 with
    | 0 =>
      unfold ent
      simp only
      congr 2
      apply List.map_congr_left
      intro k _
      rw [fv_csR (fun z => hne (by rw [z.1, z.2.1]))]
    | k + 1 => rfl
/-- an array is written -/
theorem ent_ssA {ρ : EnvR} {M : Mem} {c n k : Nat} {f : Nat → Int32} (hq : (c, n, k + 1) ∈ cellsL) (hk : (ak M c n (k + 1)).1 = 1 ∨ (ak M c n (k + 1)).1 = 2) :
    ent ρ (ssA M c n (k + 1) f) (c, n, k + 1) = .inl ((if (ak M c n (k + 1)).1 = 1 then ρ.2.2.1 else ρ.2.2.2.1), (ak M c n (k + 1)).2, .inl f) ∧ ∀ q ∈ cellsL, q ≠ (c, n, k + 1) → ent ρ (ssA M c n (k + 1) f) q = ent ρ M q := by
  have hc7 := cells_c _ hq
  simp only at hc7
  have hself : arr (ssA M c n (k + 1) f) c n (k + 1) = f := by
    unfold ssA arr
    by_cases h6 : c = 6
    · subst h6; simp [rsA, rA, u1]
    · have h7 : (c == 6) = false := by simpa using h6
      have h20 : (c == 20) = false := by simp; omega
      have h21 : (c == 21) = false := by simp; omega
      have h24 : (c == 24) = false := by simp; omega
      rw [h7, h20, h21, h24]; simp [csA, cA, u3]
  have hak : ∀ c' n' k', ak (ssA M c n (k + 1) f) c' n' k' = ak M c' n' k' := by
    intro c' n' k'
    unfold ssA
    cases (c == 6) <;> rfl
  have hfv : ∀ c' n' k', fv (ssA M c n (k + 1) f) c' n' k' = fv M c' n' k' := by
    intro c' n' k'
    unfold ssA
    cases (c == 6)
    · exact fv_csA
    · exact fv_rsA
  constructor
  · unfold ent
    simp only [hak, hself]
    rcases hk with hk | hk <;> rw [hk] <;> simp
  · intro q hqm hne
    obtain ⟨c', n', k'⟩ := q
    match k' with
    | 0 =>
      unfold ent
      simp only [hfv]
    | z + 1 =>
      have ha : arr (ssA M c n (k + 1) f) c' n' (z + 1) = arr M c' n' (z + 1) := by
        unfold ssA
        by_cases h6 : c = 6
        · subst h6
          refine arr_rsA (fun q => hne ?_)
          have h1 : n = 0 := cells_6 _ hq rfl
          have h2 : n' = 0 := cells_6 _ hqm q.1
          rw [q.1, h2, h1, q.2]
        · have h7 : (c == 6) = false := by simpa using h6
          rw [h7]
          exact arr_csA (fun q => hne (by rw [q.1, q.2.1, q.2.2]))
      unfold ent
      simp only [hak, ha]
/-! kinds of values -/
theorem cv_cat (ρ : EnvR) (hs : ρ.2.1.category = 1) (v : AV) : (cv ρ v).category = bif isL (some v) then 2 else 1 := by
  match v with
  | .inl _ => rfl
  | .inr (.inl _) => rfl
  | .inr (.inr (c, n, k)) =>
    simp only [cv, isL, cond_false]
    cases (c == 22)
    · cases (c == 3 && n == 99) <;> rfl
    · exact hs
theorem cats_eq (ρ : EnvR) (hs : ρ.2.1.category = 1) : ∀ st : List AV, ((st.map (cv ρ)).map fun v => v.category).sum = cats st
  | [] => rfl
  | v :: r => by
    simp only [List.map_cons, List.sum_cons, cats, cats_eq ρ hs r, cv_cat ρ hs]
theorem cell_ok {c n k : Nat} (h : okR c n k = true) (hc : c < 7) : (c, n, k) ∈ cellsL := by
  unfold okR at h
  have h22 : (c == 22) = false := by simp; omega
  have h20 : (c == 20) = false := by simp; omega
  have h21 : (c == 21) = false := by simp; omega
  have h24 : (c == 24) = false := by simp; omega
  rw [h22, h20, h21, h24] at h
  simp only [Bool.false_and, Bool.false_or, Bool.or_false] at h
  exact List.contains_iff_mem.mp h
theorem ok_cell {c n k : Nat} (h : (c, n, k) ∈ cellsL) : okR c n k = true := by
  unfold okR
  rw [List.contains_iff_mem.mpr h]; simp
theorem cv_cell (ρ : EnvR) {c n k : Nat} (h : (c, n, k) ∈ cellsL) : cv ρ (vR c n k) = .ref (ρ.1 c n k) := by
  have h1 : c ≠ 22 := by have := cells_c _ h; simp only at this; omega
  have h2 : ¬ (c = 3 ∧ n = 99) := by
    rintro ⟨rfl, rfl⟩
    exact absurd h (by
      have : ∀ q ∈ cellsL, ¬ (q.1 = 3 ∧ q.2.1 = 99) := by decide +kernel
      exact fun z => this _ z ⟨rfl, rfl⟩)
  have e1 : (c == 22) = false := by simpa using h1
  have e2 : (c == 3 && n == 99) = false := by
    rw [Bool.and_eq_false_iff]
    by_cases hc : c = 3
    · right; simpa using fun z => h2 ⟨hc, z⟩
    · left; simpa using hc
  simp only [cv, e1, e2, cond_false]
