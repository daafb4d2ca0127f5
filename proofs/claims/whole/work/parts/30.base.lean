/-! PURE: memory, numbers, loops -/
theorem cI_csI (M : Mem) (c n k : Nat) (x : Int32) (c' n' k' : Nat) : cI (csI M c n k x) c' n' k' = if c' = c ∧ n' = n ∧ k' = k then x else cI M c' n' k' := rfl
theorem cI_csA (M : Mem) (c n k : Nat) (f : Nat → Int32) (c' n' k' : Nat) : cI (csA M c n k f) c' n' k' = cI M c' n' k' := rfl
theorem cI_csR (M : Mem) (c n k v : Nat) (c' n' k' : Nat) : cI (csR M c n k v) c' n' k' = cI M c' n' k' := rfl
theorem cI_rsI (M : Mem) (k : Nat) (x : Int32) (c' n' k' : Nat) : cI (rsI M k x) c' n' k' = cI M c' n' k' := rfl
theorem cI_rsA (M : Mem) (k : Nat) (f : Nat → Int32) (c' n' k' : Nat) : cI (rsA M k f) c' n' k' = cI M c' n' k' := rfl
theorem cA_csI (M : Mem) (c n k : Nat) (x : Int32) (c' n' k' : Nat) : cA (csI M c n k x) c' n' k' = cA M c' n' k' := rfl
theorem cA_csA (M : Mem) (c n k : Nat) (f : Nat → Int32) (c' n' k' : Nat) : cA (csA M c n k f) c' n' k' = if c' = c ∧ n' = n ∧ k' = k then f else cA M c' n' k' := rfl
theorem cA_csR (M : Mem) (c n k v : Nat) (c' n' k' : Nat) : cA (csR M c n k v) c' n' k' = cA M c' n' k' := rfl
theorem cA_rsI (M : Mem) (k : Nat) (x : Int32) (c' n' k' : Nat) : cA (rsI M k x) c' n' k' = cA M c' n' k' := rfl
theorem cA_rsA (M : Mem) (k : Nat) (f : Nat → Int32) (c' n' k' : Nat) : cA (rsA M k f) c' n' k' = cA M c' n' k' := rfl
theorem cR_csI (M : Mem) (c n k : Nat) (x : Int32) (c' n' k' : Nat) : cR (csI M c n k x) c' n' k' = cR M c' n' k' := rfl
theorem cR_csA (M : Mem) (c n k : Nat) (f : Nat → Int32) (c' n' k' : Nat) : cR (csA M c n k f) c' n' k' = cR M c' n' k' := rfl
theorem cR_csR (M : Mem) (c n k v : Nat) (c' n' k' : Nat) : cR (csR M c n k v) c' n' k' = if c' = c ∧ n' = n ∧ k' = k then v else cR M c' n' k' := rfl
theorem cR_rsI (M : Mem) (k : Nat) (x : Int32) (c' n' k' : Nat) : cR (rsI M k x) c' n' k' = cR M c' n' k' := rfl
theorem cR_rsA (M : Mem) (k : Nat) (f : Nat → Int32) (c' n' k' : Nat) : cR (rsA M k f) c' n' k' = cR M c' n' k' := rfl
theorem rI_csI (M : Mem) (c n k : Nat) (x : Int32) (k' : Nat) : rI (csI M c n k x) k' = rI M k' := rfl
theorem rI_csA (M : Mem) (c n k : Nat) (f : Nat → Int32) (k' : Nat) : rI (csA M c n k f) k' = rI M k' := rfl
theorem rI_csR (M : Mem) (c n k v : Nat) (k' : Nat) : rI (csR M c n k v) k' = rI M k' := rfl
theorem rI_rsI (M : Mem) (k : Nat) (x : Int32) (k' : Nat) : rI (rsI M k x) k' = if k' = k then x else rI M k' := rfl
theorem rI_rsA (M : Mem) (k : Nat) (f : Nat → Int32) (k' : Nat) : rI (rsA M k f) k' = rI M k' := rfl
theorem rA_csI (M : Mem) (c n k : Nat) (x : Int32) (k' : Nat) : rA (csI M c n k x) k' = rA M k' := rfl
theorem rA_csA (M : Mem) (c n k : Nat) (f : Nat → Int32) (k' : Nat) : rA (csA M c n k f) k' = rA M k' := rfl
theorem rA_csR (M : Mem) (c n k v : Nat) (k' : Nat) : rA (csR M c n k v) k' = rA M k' := rfl
theorem rA_rsI (M : Mem) (k : Nat) (x : Int32) (k' : Nat) : rA (rsI M k x) k' = rA M k' := rfl
theorem rA_rsA (M : Mem) (k : Nat) (f : Nat → Int32) (k' : Nat) : rA (rsA M k f) k' = if k' = k then f else rA M k' := rfl
/-! numbers -/
theorem ge_no {α : Type} {i N : Nat} {a b : α} (h : i < N) (hN : N < 2 ^ 31) : (if nI N ≤ nI i then a else b) = b := if_neg (nI_ge h hN)
theorem le_self {α : Type} {x : Int32} {a b : α} : (if x ≤ x then a else b) = a := if_pos (Int32.le_refl x)
theorem ob_no {α : Type} {i K : Nat} {a b : α} (h : i < K) (hK : K < 2 ^ 31) : (if nI i < 0 ∨ K ≤ (nI i).toNatClampNeg then a else b) = b := if_neg (nI_in h hK)
theorem ob_n2 {α : Type} {i K : Nat} {a b : α} (h : i < K) (hK : K < 2 ^ 31) : (if nI i < 0 ∨ K ≤ i then a else b) = b := if_neg (fun q => q.elim (nI_pos (by omega)) (Nat.not_le.mpr h))
theorem cl_no {i : Nat} (h : i < 2 ^ 31) : (nI i).toNatClampNeg = i := nI_clamp h
theorem if_true {α : Type} {a b : α} : (if True then a else b) = a := if_pos trivial
theorem if_false {α : Type} {a b : α} : (if False then a else b) = b := if_neg id
theorem bindI_some {x : Int32} {M : Mem} {f : Int32 → Mem → Res} : bindI (some (some (vI x), M)) f = f x M := rfl
theorem bindV_some {M : Mem} {f : Mem → Res} : bindV (some (none, M)) f = f M := rfl
theorem bindL_some {x : Int64} {M : Mem} {f : Int64 → Mem → Res} : bindL (some (some (vL x), M)) f = f x M := rfl
/-! a counted loop: its steps, one behind the other -/
def itr {σ : Type} (f : Nat → σ → σ) : Nat → σ → σ
  | 0, s => s
  | n + 1, s => f n (itr f n s)
theorem loop_itr {σ ρ : Type} (G : Nat → σ → ρ) (f : Nat → σ → σ) (I : Nat → σ → Prop) (N : Nat) (s : σ) (h0 : I 0 s) (hs : ∀ i s, i < N → I i s → G i s = G (i + 1) (f i s) ∧ I (i + 1) (f i s)) : ∀ k, k ≤ N → G 0 s = G k (itr f k s) ∧ I k (itr f k s)
  | 0, _ => ⟨rfl, h0⟩
  | k + 1, h => by
    obtain ⟨h1, h2⟩ := loop_itr G f I N s h0 hs k (by omega)
    obtain ⟨h3, h4⟩ := hs k _ (by omega) h2
    exact ⟨h1.trans h3, h4⟩
theorem loop_all {σ ρ : Type} (G : Nat → σ → ρ) (f : Nat → σ → σ) (N : Nat) (s : σ) (hs : ∀ i s, i < N → G i s = G (i + 1) (f i s)) : G 0 s = G N (itr f N s) :=
  (loop_itr G f (fun _ _ => True) N s trivial (fun i s h _ => ⟨hs i s h, trivial⟩) N (Nat.le_refl N)).1
theorem itr_congr {σ : Type} {f g : Nat → σ → σ} {s : σ} : ∀ (n : Nat), (∀ i z, i < n → f i z = g i z) → itr f n s = itr g n s
  | 0, _ => rfl
  | n + 1, h => by
    show f n (itr f n s) = g n (itr g n s)
    rw [itr_congr n (fun i z hi => h i z (by omega)), h n _ (by omega)]
theorem itr_inv {σ : Type} {f : Nat → σ → σ} {s : σ} (I : Nat → σ → Prop) : ∀ (n : Nat), I 0 s → (∀ i z, i < n → I i z → I (i + 1) (f i z)) → I n (itr f n s)
  | 0, h, _ => h
  | n + 1, h, hs => hs n _ (by omega) (itr_inv I n h (fun i z hi => hs i z (by omega)))
theorem loop_ex {σ ρ : Type} (G : Nat → σ → ρ) (I : Nat → σ → Prop) (N : Nat) (s : σ) (h0 : I 0 s) (hs : ∀ i s, i < N → I i s → ∃ s', G i s = G (i + 1) s' ∧ I (i + 1) s') : ∃ s', G 0 s = G N s' ∧ I N s' := by
  have key : ∀ k, k ≤ N → ∃ s', G 0 s = G k s' ∧ I k s' := by
    intro k
    induction k with
    | zero => exact fun _ => ⟨s, rfl, h0⟩
    | succ k ih =>
      intro h
      obtain ⟨s1, e1, i1⟩ := ih (by omega)
      obtain ⟨s2, e2, i2⟩ := hs k s1 (by omega) i1
      exact ⟨s2, e1.trans e2, i2⟩
  exact key N (Nat.le_refl N)
/-! what a method may change: ints (0), arrays (1), references (2) of the class -/
abbrev SetC : Type := Nat → Nat → Nat → Nat → Prop
def Df (S : SetC) (M M' : Mem) : Prop := (∀ c n k, ¬ S 0 c n k → cI M' c n k = cI M c n k) ∧ (∀ c n k, ¬ S 1 c n k → cA M' c n k = cA M c n k) ∧ (∀ c n k, ¬ S 2 c n k → cR M' c n k = cR M c n k) ∧ M'.2 = M.2
theorem Df.rf {S : SetC} {M : Mem} : Df S M M := ⟨fun _ _ _ _ => rfl, fun _ _ _ _ => rfl, fun _ _ _ _ => rfl, rfl⟩
theorem Df.tr {S : SetC} {M M' M'' : Mem} (h : Df S M M') (g : Df S M' M'') : Df S M M'' := ⟨fun c n k q => (g.1 c n k q).trans (h.1 c n k q), fun c n k q => (g.2.1 c n k q).trans (h.2.1 c n k q), fun c n k q => (g.2.2.1 c n k q).trans (h.2.2.1 c n k q), g.2.2.2.trans h.2.2.2⟩
theorem Df.mono {S T : SetC} {M M' : Mem} (h : Df S M M') (hST : ∀ t c n k, S t c n k → T t c n k) : Df T M M' := ⟨fun c n k q => h.1 c n k (fun z => q (hST _ _ _ _ z)), fun c n k q => h.2.1 c n k (fun z => q (hST _ _ _ _ z)), fun c n k q => h.2.2.1 c n k (fun z => q (hST _ _ _ _ z)), h.2.2.2⟩
theorem Df.csA {S : SetC} {M : Mem} {c n k : Nat} {f : Nat → Int32} (h : S 1 c n k) : Df S M (csA M c n k f) := ⟨fun _ _ _ _ => rfl, fun c' n' k' q => by
  rw [cA_csA, if_neg]
  rintro ⟨rfl, rfl, rfl⟩
  exact q h, fun _ _ _ _ => rfl, rfl⟩
theorem Df.csI {S : SetC} {M : Mem} {c n k : Nat} {x : Int32} (h : S 0 c n k) : Df S M (csI M c n k x) := ⟨fun c' n' k' q => by
  rw [cI_csI, if_neg]
  rintro ⟨rfl, rfl, rfl⟩
  exact q h, fun _ _ _ _ => rfl, fun _ _ _ _ => rfl, rfl⟩
theorem Df.csR {S : SetC} {M : Mem} {c n k v : Nat} (h : S 2 c n k) : Df S M (csR M c n k v) := ⟨fun _ _ _ _ => rfl, fun _ _ _ _ => rfl, fun c' n' k' q => by
  rw [cR_csR, if_neg]
  rintro ⟨rfl, rfl, rfl⟩
  exact q h, rfl⟩
theorem cA_same (M : Mem) (c n k : Nat) (f : Nat → Int32) : cA (csA M c n k f) c n k = f := if_pos ⟨rfl, rfl, rfl⟩
theorem cI_same (M : Mem) (c n k : Nat) (x : Int32) : cI (csI M c n k x) c n k = x := if_pos ⟨rfl, rfl, rfl⟩
theorem cR_same (M : Mem) (c n k v : Nat) : cR (csR M c n k v) c n k = v := if_pos ⟨rfl, rfl, rfl⟩
/-- the first k places are f's -/
def mixF (f g : Nat → Int32) (k : Nat) : Nat → Int32 := fun j => if j < k then f j else g j
theorem mixF_0 (f g : Nat → Int32) : mixF f g 0 = g := rfl
theorem mixF_up {f g : Nat → Int32} {k : Nat} {x : Int32} (h : x = f k) : upd (mixF f g k) k x = mixF f g (k + 1) := by
  funext j
  simp only [upd, mixF]
  by_cases h1 : j = k
  · subst h1; rw [if_pos rfl, if_pos (by omega), h]
  · rw [if_neg h1]
    by_cases h2 : j < k
    · rw [if_pos h2, if_pos (by omega)]
    · rw [if_neg h2, if_neg (by omega)]
theorem zo_0 {α : Type} {a b : α} : (if (0 : Int32) = 0 ∨ (0 : Int32) = 1 then a else b) = a := if_pos (Or.inl rfl)
theorem zo_1 {α : Type} {a b : α} : (if (1 : Int32) = 0 ∨ (1 : Int32) = 1 then a else b) = a := if_pos (Or.inr rfl)
theorem ne_10 {α : Type} {a b : α} : (if (1 : Int32) = 0 then a else b) = b := if_neg (by decide)
theorem eq_00 {α : Type} {x : Int32} {a b : α} : (if x = x then a else b) = a := if_pos rfl
/-! sets as bits -/
theorem shl1 {α : Type} {k : Nat} (f : Int32 → α) (h : k < 6) : f ((1 : Int32) <<< (nI k &&& 31)) = f (nI (2 ^ k)) := by
  have h9 : ∀ k, k < 6 → ((1 : Int32) <<< (nI k &&& 31)) = nI (2 ^ k) := by decide +kernel
  rw [h9 k h]
theorem shl_p {k : Nat} (h : k < 6) : ((1 : Int32) <<< (nI k &&& 31)) = nI (2 ^ k) := by
  have h9 : ∀ k, k < 6 → ((1 : Int32) <<< (nI k &&& 31)) = nI (2 ^ k) := by decide +kernel
  exact h9 k h
theorem or_p {a k : Nat} (ha : a < 64) (h : k < 6) : nI a ||| nI (2 ^ k) = nI (a ||| 2 ^ k) := by
  have h9 : ∀ a, a < 64 → ∀ k, k < 6 → nI a ||| nI (2 ^ k) = nI (a ||| 2 ^ k) := by decide +kernel
  exact h9 a ha k h
theorem or_lt {a k : Nat} (ha : a < 64) (h : k < 6) : a ||| 2 ^ k < 64 := by
  have h9 : ∀ a, a < 64 → ∀ k, k < 6 → a ||| 2 ^ k < 64 := by decide +kernel
  exact h9 a ha k h
theorem bit_p {a k : Nat} (ha : a < 64) (h : k < 6) : ((nI a >>> (nI k &&& 31)) &&& 1) = if a.testBit k then 1 else 0 := by
  have h9 : ∀ a, a < 64 → ∀ k, k < 6 → ((nI a >>> (nI k &&& 31)) &&& 1) = if a.testBit k then 1 else 0 := by decide +kernel
  exact h9 a ha k h
