/-! a setting read, as a function of the signs -/
def bd {α β : Type} (r : Nat × Option α) (f : Nat → α → Nat × Option β) : Nat × Option β := match r with
  | (q, none) => (q, none)
  | (q, some a) => f q a
def pWd (pk : Nat → Int32) : List Int32 → Nat → Nat × Option Unit
  | [], q => (q, some ())
  | c :: w, q => if pk q = c then pWd pk w (q + 1) else (q, none)
abbrev isD (x : Int32) : Prop := 48 ≤ x ∧ x ≤ 57
def dv (x : Int32) : Nat := (x - 48).toNatClampNeg
def pNm (pk : Nat → Int32) (q : Nat) : Nat × Option Nat := if isD (pk q) then (if dv (pk q) = 0 ∨ ¬ isD (pk (q + 1)) then (q + 1, some (dv (pk q))) else (q + 2, some (10 * dv (pk q) + dv (pk (q + 1))))) else (q, none)
def ixW : List Int32 → Int32 → Option Nat
  | [], _ => none
  | c :: w, x => if c = x then some 0 else (match ixW w x with
    | none => none
    | some i => some (i + 1))
def pAm (pk : Nat → Int32) (w : List Int32) (q : Nat) : Nat × Option Nat := match ixW w (pk q) with
  | none => (q, none)
  | some i => (q + 1, some i)
def wTe : List Int32 := [115, 107, 118, 110, 116, 98]
def wCm : List Int32 := [60, 61, 62]
abbrev PT : Type := Nat × Option (List Tok)
def pTs (pk : Nat → Int32) (q : Nat) : PT := bd (pAm pk wTe q) fun q1 w => bd (pAm pk wCm q1) fun q2 h => bd (pNm pk q2) fun q3 v => (q3, some [(w, h, v)])
def tNot : Tok := (6, 0, 0)
def tAnd : Tok := (7, 0, 0)
def tOr : Tok := (8, 0, 0)
def pLp (pk : Nat → Int32) (sgn : Int32) (tk : Tok) (f : Nat → PT) : Nat → Nat → List Tok → PT
  | 0, q, acc => (q, some acc)
  | n + 1, q, acc => if pk q = sgn then bd (f (q + 1)) (fun q' l => pLp pk sgn tk f n q' (acc ++ (l ++ [tk]))) else (q, some acc)
def pBo (pk : Nat → Int32) (f : Nat → PT) (q : Nat) : PT := bd (f q) fun q' l => pLp pk 38 tAnd f 100 q' l
def pEi (pk : Nat → Int32) (f : Nat → PT) (q : Nat) : PT := bd (pBo pk f q) fun q' l => pLp pk 124 tOr (pBo pk f) 100 q' l
def pFa (pk : Nat → Int32) : Nat → Nat → PT
  | 0, q => if pk q = 33 ∨ pk q = 40 then (q, none) else pTs pk q
  | k + 1, q => if pk q = 33 then bd (pFa pk k (q + 1)) (fun q' l => (q', some (l ++ [tNot]))) else if pk q = 40 then bd (pEi pk (pFa pk k) (q + 1)) (fun q' l => if pk q' = 41 then (q' + 1, some l) else (q', none)) else pTs pk q
def wEa : List Int32 := [101, 97, 115, 101, 32]
def wWe : List Int32 := [119, 101, 97, 114, 121, 32]
def wLo : List Int32 := [108, 111, 117, 100, 32]
def wDr : List Int32 := [100, 114, 97, 117, 103, 104, 116, 32]
abbrev PC : Type := Nat × Option Cl
def pTl (pk : Nat → Int32) (w : List Int32) (k q : Nat) : PC := bd (pWd pk w q) fun q1 _ => bd (pNm pk q1) fun q2 n => (q2, some (k, n, []))
def pMu (pk : Nat → Int32) (w : List Int32) (k q : Nat) : PC := bd (pWd pk w q) fun q1 _ => bd (pNm pk q1) fun q2 n => if pk q2 = 32 then bd (pEi pk (pFa pk 5) (q2 + 1)) (fun q3 l => (q3, some (k, n, l))) else (q2, none)
def pCl (pk : Nat → Int32) (q : Nat) : PC := if pk q = 100 then pMu pk wDr 3 q else if pk q = 101 then pTl pk wEa 0 q else if pk q = 108 then pMu pk wLo 2 q else if pk q = 119 then pTl pk wWe 1 q else (q, none)
def pSe (pk : Nat → Int32) (N : Nat) : Nat → Nat → List Cl → Nat × Option (List Cl)
  | 0, q, acc => bd (pCl pk q) fun q' c => if N ≤ q' then (q', some (acc ++ [c])) else (q', none)
  | n + 1, q, acc => bd (pCl pk q) fun q' c => if N ≤ q' then (q', some (acc ++ [c])) else if pk q' = 59 then pSe pk N n (q' + 1) (acc ++ [c]) else (q', none)
/-! where it stops: not before, not behind the end -/
def Tp (pk : Nat → Int32) (N : Nat) : Prop := ∀ q, (q < N → ∃ c, c ≤ 127 ∧ pk q = nI c) ∧ (N ≤ q → pk q = -1)
theorem Tp.in {pk : Nat → Int32} {N q : Nat} (h : Tp pk N) {x : Int32} (e : pk q = x) (hx : 0 ≤ x) : q < N := by
  rcases Nat.lt_or_ge q N with c | c
  · exact c
  · rw [(h q).2 c] at e
    subst e
    exact absurd hx (by decide)
/-- it goes on, and not too far -/
def Go {α : Type} (N q : Nat) (r : Nat × Option α) : Prop := q ≤ r.1 ∧ (q ≤ N → r.1 ≤ N)
theorem Go.bd {α β : Type} {N q : Nat} {r : Nat × Option α} {f : Nat → α → Nat × Option β} (h : Go N q r) (hf : ∀ q' a, r = (q', some a) → Go N q' (f q' a)) : Go N q (bd r f) := by
  match r, h, hf with
  | (q', none), h, _ => exact h
  | (q', some a), h, hf =>
    have g := hf q' a rfl
    exact ⟨Nat.le_trans h.1 g.1, fun w => g.2 (h.2 w)⟩
theorem Go.st {α : Type} {N q : Nat} {o : Option α} : Go N q (q, o) := ⟨Nat.le_refl _, id⟩
theorem Go.s1 {α : Type} {N q : Nat} {o : Option α} (h : q < N) : Go N q (q + 1, o) := ⟨Nat.le_succ _, fun _ => h⟩
theorem Go.up {α : Type} {N q q' : Nat} {r : Nat × Option α} (h : Go N q' r) (h1 : q ≤ q') (h2 : q' ≤ N) : Go N q r := ⟨Nat.le_trans h1 h.1, fun _ => h.2 h2⟩
theorem pWd_go {pk : Nat → Int32} {N : Nat} (T : Tp pk N) : ∀ (w : List Int32), (∀ c, c ∈ w → (0 : Int32) ≤ c) → ∀ q, Go N q (pWd pk w q)
  | [], _, q => Go.st
  | c :: w, h, q => by
    unfold pWd
    by_cases e : pk q = c
    · rw [if_pos e]
      have hq := T.in e (h c (by simp))
      exact (pWd_go T w (fun c' hc => h c' (by simp [hc])) (q + 1)).up (Nat.le_succ _) hq
    · rw [if_neg e]; exact Go.st
theorem isD_in {pk : Nat → Int32} {N : Nat} (T : Tp pk N) {q : Nat} (h : isD (pk q)) : q < N := T.in rfl (Int32.le_trans (by decide) h.1)
theorem pNm_go {pk : Nat → Int32} {N : Nat} (T : Tp pk N) (q : Nat) : Go N q (pNm pk q) := by
  unfold pNm
  by_cases c : isD (pk q)
  · have hq := isD_in T c
    rw [if_pos c]
    by_cases c2 : dv (pk q) = 0 ∨ ¬ isD (pk (q + 1))
    · rw [if_pos c2]; exact Go.s1 hq
    · rw [if_neg c2]
      have h2 := isD_in T (Classical.not_not.mp (fun w => c2 (Or.inr w)))
      exact ⟨by show q ≤ q + 2; omega, fun _ => by show q + 2 ≤ N; omega⟩
  · rw [if_neg c]; exact Go.st
theorem ixW_in : ∀ (w : List Int32) (x : Int32) (i : Nat), ixW w x = some i → i < w.length ∧ x ∈ w
  | [], x, i, h => by cases h
  | c :: w, x, i, h => by
    unfold ixW at h
    by_cases e : c = x
    · rw [if_pos e] at h
      injection h with h
      subst h
      exact ⟨Nat.succ_pos _, by simp [e]⟩
    · rw [if_neg e] at h
      match hw : ixW w x, h with
      | none, h => cases h
      | some j, h =>
        injection h with h
        obtain ⟨h1, h2⟩ := ixW_in w x j hw
        subst h
        exact ⟨Nat.succ_lt_succ h1, by simp [h2]⟩
theorem pAm_go {pk : Nat → Int32} {N : Nat} (T : Tp pk N) {w : List Int32} (hw : ∀ c, c ∈ w → (0 : Int32) ≤ c) (q : Nat) : Go N q (pAm pk w q) := by
  unfold pAm
  match h : ixW w (pk q) with
  | none => exact Go.st
  | some i => exact Go.s1 (T.in rfl (hw _ (ixW_in w _ i h).2))
theorem wTe_0 : ∀ c, c ∈ wTe → (0 : Int32) ≤ c := by decide +kernel
theorem wCm_0 : ∀ c, c ∈ wCm → (0 : Int32) ≤ c := by decide +kernel
theorem pTs_go {pk : Nat → Int32} {N : Nat} (T : Tp pk N) (q : Nat) : Go N q (pTs pk q) := Go.bd (pAm_go T wTe_0 q) (fun q1 w _ => Go.bd (pAm_go T wCm_0 q1) (fun q2 h _ => Go.bd (pNm_go T q2) (fun q3 v _ => Go.st)))
theorem pLp_go {pk : Nat → Int32} {N : Nat} (T : Tp pk N) {sgn : Int32} (h0 : 0 ≤ sgn) {tk : Tok} {f : Nat → PT} (hf : ∀ q, Go N q (f q)) : ∀ n q acc, Go N q (pLp pk sgn tk f n q acc)
  | 0, q, acc => Go.st
  | n + 1, q, acc => by
    unfold pLp
    by_cases e : pk q = sgn
    · rw [if_pos e]
      have hq := T.in e h0
      exact (Go.bd (hf (q + 1)) (fun q' l _ => pLp_go T h0 hf n q' _)).up (Nat.le_succ _) hq
    · rw [if_neg e]; exact Go.st
theorem pBo_go {pk : Nat → Int32} {N : Nat} (T : Tp pk N) {f : Nat → PT} (hf : ∀ q, Go N q (f q)) (q : Nat) : Go N q (pBo pk f q) := Go.bd (hf q) (fun q' l _ => pLp_go T (by decide) hf 100 q' l)
theorem pEi_go {pk : Nat → Int32} {N : Nat} (T : Tp pk N) {f : Nat → PT} (hf : ∀ q, Go N q (f q)) (q : Nat) : Go N q (pEi pk f q) := Go.bd (pBo_go T hf q) (fun q' l _ => pLp_go T (by decide) (pBo_go T hf) 100 q' l)
theorem pFa_go {pk : Nat → Int32} {N : Nat} (T : Tp pk N) : ∀ k q, Go N q (pFa pk k q)
  | 0, q => by
    unfold pFa
    by_cases c : pk q = 33 ∨ pk q = 40
    · rw [if_pos c]; exact Go.st
    · rw [if_neg c]; exact pTs_go T q
  | k + 1, q => by
    unfold pFa
    by_cases c : pk q = 33
    · rw [if_pos c]
      have hq := T.in c (by decide)
      exact (Go.bd (pFa_go T k (q + 1)) (fun q' l _ => Go.st)).up (Nat.le_succ _) hq
    · rw [if_neg c]
      by_cases c2 : pk q = 40
      · rw [if_pos c2]
        have hq := T.in c2 (by decide)
        refine (Go.bd (pEi_go T (pFa_go T k) (q + 1)) (fun q' l _ => ?_)).up (Nat.le_succ _) hq
        by_cases c3 : pk q' = 41
        · rw [if_pos c3]; exact Go.s1 (T.in c3 (by decide))
        · rw [if_neg c3]; exact Go.st
      · rw [if_neg c2]; exact pTs_go T q
/-! the tokens: no more than signs, and they leave one value -/
def Tg (b q : Nat) (r : PT) : Prop := ∀ q' l, r = (q', some l) → l.length + q ≤ q' ∧ ∀ d, d + b < 20 → tkL l d (d + 1)
theorem tkL_app : ∀ (l r : List Tok) (d e g : Nat), tkL l d e → tkL r e g → tkL (l ++ r) d g
  | [], r, d, e, g, h1, h2 => by
    have : d = e := h1
    subst this
    exact h2
  | t :: l, r, d, e, g, h1, h2 => ⟨h1.1, tkL_app l r _ e g h1.2 h2⟩
theorem dv_le {x : Int32} (h : isD x) : dv x ≤ 9 := by
  obtain ⟨j, j1, rfl⟩ := nI_of (x := x) (fun q => absurd (Int32.lt_of_le_of_lt h.1 q) (by decide))
  have h1 := (nI_leI (a := 48) (by omega) j1).mp h.1
  have h2 := (nI_leI (b := 57) j1 (by omega)).mp h.2
  unfold dv
  have e : nI j - 48 = nI (j - 48) := nI_sub (a := j) (b := 48) h1
  rw [e, cl_no (by omega)]
  omega
theorem bd_some {α β : Type} {r : Nat × Option α} {f : Nat → α → Nat × Option β} {q' : Nat} {b : β} (h : bd r f = (q', some b)) : ∃ q1 a, r = (q1, some a) ∧ f q1 a = (q', some b) := by
  match r, h with
  | (q1, none), h => cases h
  | (q1, some a), h => exact ⟨q1, a, rfl, h⟩
theorem pNm_some {pk : Nat → Int32} {q q' v : Nat} (h : pNm pk q = (q', some v)) : q + 1 ≤ q' ∧ v ≤ 99 := by
  unfold pNm at h
  by_cases c : isD (pk q)
  · rw [if_pos c] at h
    have d1 := dv_le c
    by_cases c2 : dv (pk q) = 0 ∨ ¬ isD (pk (q + 1))
    · rw [if_pos c2] at h
      injection h with h1 h2
      injection h2 with h2
      omega
    · rw [if_neg c2] at h
      have d2 := dv_le (Classical.not_not.mp (fun w => c2 (Or.inr w)))
      injection h with h1 h2
      injection h2 with h2
      omega
  · rw [if_neg c] at h
    cases h
theorem pAm_some {pk : Nat → Int32} {w : List Int32} {q q' i : Nat} (h : pAm pk w q = (q', some i)) : q' = q + 1 ∧ i < w.length := by
  unfold pAm at h
  match hw : ixW w (pk q), h with
  | none, h => cases h
  | some j, h =>
    injection h with h1 h2
    injection h2 with h2
    subst h2
    exact ⟨h1.symm, (ixW_in w _ j hw).1⟩
theorem pTs_tg {pk : Nat → Int32} (q : Nat) : Tg 0 q (pTs pk q) := fun q' l h => by
  obtain ⟨q1, w, e1, h⟩ := bd_some h
  obtain ⟨q2, hh, e2, h⟩ := bd_some h
  obtain ⟨q3, v, e3, h⟩ := bd_some h
  obtain ⟨a1, a2⟩ := pAm_some e1
  obtain ⟨b1, b2⟩ := pAm_some e2
  obtain ⟨c1, c2⟩ := pNm_some e3
  injection h with h1 h2
  injection h2 with h2
  subst h2
  have w6 : w < 6 := a2
  have h3 : hh < 3 := b2
  refine ⟨by show 1 + q ≤ q'; omega, fun d hd => ⟨⟨by show hh ≤ 2; omega, c2, by show w ≤ 8; omega, ?_⟩, ?_⟩⟩
  · show (if w < 6 then d < 20 else if w = 6 then 1 ≤ d else 2 ≤ d)
    rw [if_pos w6]; omega
  · show dpT (w, hh, v) d = d + 1
    unfold dpT
    rw [if_pos w6]
theorem pLp_tg {pk : Nat → Int32} {N : Nat} {sgn : Int32} {tk : Tok} (htk : tk = tAnd ∨ tk = tOr) {b : Nat} {f : Nat → PT} (hf : ∀ q, Tg b q (f q)) : ∀ n q0 q acc, acc.length + q0 ≤ q → (∀ d, d + (b + 1) < 20 → tkL acc d (d + 1)) → Tg (b + 1) q0 (pLp pk sgn tk f n q acc)
  | 0, q0, q, acc, h1, h2 => fun q' l h => by
    injection h with e1 e2
    injection e2 with e2
    subst e1
    subst e2
    exact ⟨h1, h2⟩
  | n + 1, q0, q, acc, h1, h2 => fun q' l h => by
    unfold pLp at h
    by_cases e : pk q = sgn
    · rw [if_pos e] at h
      obtain ⟨q1, l1, g1, h⟩ := bd_some h
      obtain ⟨k1, k2⟩ := hf (q + 1) q1 l1 g1
      refine pLp_tg (N := N) htk hf n q0 q1 (acc ++ (l1 ++ [tk])) ?_ (fun d hd => ?_) q' l h
      · simp only [List.length_append, List.length_cons, List.length_nil]
        omega
      · refine tkL_app acc _ d (d + 1) (d + 1) (h2 d hd) (tkL_app l1 [tk] (d + 1) (d + 2) (d + 1) (k2 (d + 1) (by omega)) ?_)
        rcases htk with rfl | rfl
        · exact ⟨⟨by decide, by decide, by decide, (by omega : 2 ≤ d + 1 + 1)⟩, by show d + 2 - 1 = d + 1; omega⟩
        · exact ⟨⟨by decide, by decide, by decide, (by omega : 2 ≤ d + 1 + 1)⟩, by show d + 2 - 1 = d + 1; omega⟩
    · rw [if_neg e] at h
      injection h with e1 e2
      injection e2 with e2
      subst e1
      subst e2
      exact ⟨h1, h2⟩
theorem Tg.up {b c q : Nat} {r : PT} (h : Tg b q r) (hbc : b ≤ c) : Tg c q r := fun q' l e => ⟨(h q' l e).1, fun d hd => (h q' l e).2 d (by omega)⟩
theorem pBo_tg {pk : Nat → Int32} {b : Nat} {f : Nat → PT} (hf : ∀ q, Tg b q (f q)) (q : Nat) : Tg (b + 1) q (pBo pk f q) := fun q' l h => by
  obtain ⟨q1, l1, g1, h⟩ := bd_some h
  obtain ⟨k1, k2⟩ := hf q q1 l1 g1
  exact pLp_tg (N := 0) (Or.inl rfl) hf 100 q q1 l1 k1 (fun d hd => k2 d (by omega)) q' l h
theorem pEi_tg {pk : Nat → Int32} {b : Nat} {f : Nat → PT} (hf : ∀ q, Tg b q (f q)) (q : Nat) : Tg (b + 2) q (pEi pk f q) := fun q' l h => by
  obtain ⟨q1, l1, g1, h⟩ := bd_some h
  obtain ⟨k1, k2⟩ := pBo_tg hf q q1 l1 g1
  exact pLp_tg (N := 0) (Or.inr rfl) (pBo_tg hf) 100 q q1 l1 k1 (fun d hd => k2 d (by omega)) q' l h
theorem pFa_tg {pk : Nat → Int32} : ∀ k q, Tg (2 * k) q (pFa pk k q)
  | 0, q => fun q' l h => by
    unfold pFa at h
    by_cases c : pk q = 33 ∨ pk q = 40
    · rw [if_pos c] at h; cases h
    · rw [if_neg c] at h; exact pTs_tg q q' l h
  | k + 1, q => fun q' l h => by
    unfold pFa at h
    by_cases c : pk q = 33
    · rw [if_pos c] at h
      obtain ⟨q1, l1, g1, h⟩ := bd_some h
      obtain ⟨k1, k2⟩ := pFa_tg k (q + 1) q1 l1 g1
      injection h with e1 e2
      injection e2 with e2
      subst e1
      subst e2
      refine ⟨by simp only [List.length_append, List.length_cons, List.length_nil]; omega, fun d hd => tkL_app l1 [tNot] d (d + 1) (d + 1) (k2 d (by omega)) ⟨⟨by decide, by decide, by decide, (by omega : 1 ≤ d + 1)⟩, rfl⟩⟩
    · rw [if_neg c] at h
      by_cases c2 : pk q = 40
      · rw [if_pos c2] at h
        obtain ⟨q1, l1, g1, h⟩ := bd_some h
        obtain ⟨k1, k2⟩ := pEi_tg (pFa_tg k) (q + 1) q1 l1 g1
        by_cases c3 : pk q1 = 41
        · rw [if_pos c3] at h
          injection h with e1 e2
          injection e2 with e2
          subst e1
          subst e2
          exact ⟨by omega, fun d hd => k2 d (by omega)⟩
        · rw [if_neg c3] at h; cases h
      · rw [if_neg c2] at h
        exact ((pTs_tg q).up (Nat.zero_le _)) q' l h
