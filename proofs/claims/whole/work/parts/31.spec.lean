/-! SPEC: what both sides answer, of a state laid out as the reference's row -/
abbrev St : Type := Nat → Int32
def iI (z : Int) : Int32 := Int32.ofInt z
def nsS (s : St) : Nat := (s 19).toNatClampNeg
def ntS (s : St) : Nat := (s 20).toNatClampNeg
abbrev sg (s : St) (p : Nat) : Prop := ¬ s (1 + p) = -1
abbrev hg (s : St) (q : Nat) : Prop := s (75 + q) = 0 ∧ s (13 + q) = 0
def Rg (s : St) (lo n K : Nat) : Prop := ∀ i, i < n → ∃ k, k ≤ K ∧ s (lo + i) = nI k
def NtOk (x : Int32) : Prop := x = -1 ∨ ∃ k, k ≤ 23 ∧ x = nI k
def Wf (B : Nat) (s : St) : Prop := Rg s 19 2 6 ∧ Rg s 0 1 B ∧ Rg s 27 6 6 ∧ Rg s 33 6 9 ∧ Rg s 39 6 23 ∧ (∀ i, i < 6 → NtOk (s (1 + i))) ∧ Rg s 7 6 99 ∧ Rg s 45 24 9 ∧ Rg s 69 6 60 ∧ Rg s 75 6 1 ∧ Rg s 13 6 1
theorem Rg.val {s : St} {lo n K i : Nat} (h : Rg s lo n K) (hi : i < n) (hK : K < 2 ^ 31) : s (lo + i) = nI (s (lo + i)).toNatClampNeg ∧ (s (lo + i)).toNatClampNeg ≤ K := by
  obtain ⟨k, h1, h2⟩ := h i hi
  rw [h2, nI_clamp (by omega)]
  exact ⟨rfl, h1⟩
theorem Wf.ns {B : Nat} {s : St} (h : Wf B s) : s 19 = nI (nsS s) ∧ nsS s ≤ 6 := h.1.val (i := 0) (by decide) (by decide)
theorem Wf.nt {B : Nat} {s : St} (h : Wf B s) : s 20 = nI (ntS s) ∧ ntS s ≤ 6 := h.1.val (i := 1) (by decide) (by decide)
theorem Wf.mono {B C : Nat} {s : St} (h : Wf B s) (hBC : B ≤ C) : Wf C s := by
  obtain ⟨h1, h2, h3⟩ := h
  refine ⟨h1, fun i hi => ?_, h3⟩
  obtain ⟨k, a, b⟩ := h2 i hi
  exact ⟨k, by omega, b⟩
/-! clauses: (word, number, tokens); a token: (which, how, number), which = 6 not, 7 and, 8 or -/
abbrev Tok : Type := Nat × Nat × Nat
abbrev Cl : Type := Nat × Nat × List Tok
def evT (ab : Nat → Int32) (t : Tok) (st : List Bool) : List Bool :=
  if t.1 < 6 then (if t.2.1 = 0 then decide (ab t.1 < nI t.2.2) else if t.2.1 = 1 then decide (ab t.1 = nI t.2.2) else decide (nI t.2.2 < ab t.1)) :: st
  else if t.1 = 6 then (!st.headD false) :: st.tail
  else (if t.1 = 7 then st.tail.headD false && st.headD false else st.tail.headD false || st.headD false) :: st.tail.tail
def evL (ab : Nat → Int32) (l : List Tok) (st : List Bool) : List Bool := l.foldl (fun st t => evT ab t st) st
def hoP (ab : Nat → Int32) (l : List Tok) : Bool := (evL ab l []).headD false
/-- tokens that never pop too much nor pile too high: from a depth to a depth -/
def dpT (t : Tok) (d : Nat) : Nat := if t.1 < 6 then d + 1 else if t.1 = 6 then d else d - 1
def tkT (t : Tok) (d : Nat) : Prop := t.2.1 ≤ 2 ∧ t.2.2 ≤ 99 ∧ t.1 ≤ 8 ∧ (if t.1 < 6 then d < 20 else if t.1 = 6 then 1 ≤ d else 2 ≤ d)
def tkL : List Tok → Nat → Nat → Prop
  | [], d, e => d = e
  | t :: l, d, e => tkT t d ∧ tkL l (dpT t d) e
def gnC (ab : Nat → Int32) (c : Cl) (z : Int) : Int := if c.1 = 2 ∧ hoP ab c.2.2 = true then z + c.2.1 else if c.1 = 3 ∧ hoP ab c.2.2 = true then z - c.2.1 else z
def gnP (ab : Nat → Int32) (P : List Cl) : Int := P.foldl (fun z c => gnC ab c z) 0
def eaP (P : List Cl) : Nat := P.foldl (fun z c => if c.1 = 0 then c.2.1 else z) 3
def weP (P : List Cl) : Nat := P.foldl (fun z c => if c.1 = 1 then c.2.1 else z) 1
def tkC (c : Cl) : Prop := c.1 ≤ 3 ∧ c.2.1 ≤ 99 ∧ (if c.1 < 2 then c.2.2 = [] else tkL c.2.2 0 1)
def WfP (P : List Cl) : Prop := P.length ≤ 10 ∧ ∀ c, c ∈ P → tkC c
/-! one singer -/
def abS (s : St) (p : Nat) : Nat → Int32 := fun k => if k = 0 then nI p else if k = 1 then s (27 + p) else if k = 2 then s (33 + p) else if k = 3 then s (1 + p) else if k = 4 then s (7 + p) / 10 else s 0 - s 0 / 10 * 10
def strS (s : St) (p : Nat) : Int32 :=
  if s (27 + p) = 1 then (if s (1 + p) ≤ 11 then 12 else 8)
  else if s (27 + p) = 2 then 8 + s (1 + p) / 2
  else if s (27 + p) = 3 then 10 + s (33 + p)
  else if s (27 + p) = 4 then (if s (1 + p) ≤ 11 then 12 else 8) + (23 - s (1 + p)) / 4
  else if s (27 + p) = 5 then (if (s 0 + nI p) - (s 0 + nI p) / (s (33 + p) + 2) * (s (33 + p) + 2) = 0 then 0 else 8 + s (1 + p) / 2)
  else if s (27 + p) = 6 then 10 + s (33 + p) + s (45 + (4 * p + (s 0).toNatClampNeg % 4))
  else 10
def foS (P : List Cl) (s : St) (p : Nat) : Nat := if sg s p then (strS s p + iI (gnP (abS s p) P) - s (7 + p) / 10).toNatClampNeg else 0
def tuS (a b : Int32) : Bool :=
  let e := (if a < b then b - a else a - b)
  let d := e - e / 12 * 12
  decide (d = 0 ∨ d = 3 ∨ d = 4 ∨ d = 5 ∨ d = 7 ∨ d = 8 ∨ d = 9)
/-! all that sing -/
abbrev bt (a p : Nat) : Prop := a.testBit p = true
def paS (s : St) (a p : Nat) : Nat := itr (fun q z => if q ≠ p ∧ bt a q ∧ sg s q ∧ tuS (s (1 + p)) (s (1 + q)) = true then z + 1 else z) (nsS s) 0
def beS (s : St) (f : Nat → Nat) (a p : Nat) : Nat := if bt a p ∧ sg s p then (if paS s a p = 0 then f p / 2 else f p * paS s a p) else 0
def alS (s : St) (f : Nat → Nat) (a : Nat) : Nat := itr (fun p z => z + beS s f a p) (nsS s) 0
def siS (s : St) : Nat := itr (fun i z => if s (1 + i) = -1 then z else z ||| 2 ^ i) (nsS s) 0
def nowS (P : List Cl) (s : St) : Nat := alS s (foS P s) 63
/-! stones -/
def wtS (s : St) (q : Nat) : Nat := (s (69 + q)).toNatClampNeg
def loS (s : St) (all : Nat) : Nat × Nat := itr (fun q z => if hg s q then (if z.2 + wtS s q ≤ all then z.1 else z.1 ||| 2 ^ q, z.2 + wtS s q) else z) (ntS s) (0, 0)
def haS (s : St) : Nat := itr (fun q z => if hg s q then z + wtS s q else z) (ntS s) 0
def faS (s : St) : Nat := itr (fun q z => z + (s (13 + q)).toNatClampNeg) (ntS s) 0
def tiS (s : St) : Nat := itr (fun q z => z + (s (7 + q)).toNatClampNeg) (nsS s) 0
def pop (a : Nat) : Nat := itr (fun k z => if bt a k then z + 1 else z) 6 0
/-! a beat -/
def fl1 (L q : Nat) (z : St) : St := upd z (13 + q) (if bt L q then 1 else z (13 + q))
def ti1 (P : List Cl) (a p : Nat) (z : St) : St := upd z (7 + p) (if bt a p ∧ sg z p then nI (min 99 ((z (7 + p)).toNatClampNeg + weP P)) else nI ((z (7 + p)).toNatClampNeg - eaP P))
def lbS (P : List Cl) (s : St) (a : Nat) : Nat := (loS s (alS s (foS P s) a)).1
def goA (P : List Cl) (s : St) (a : Nat) : St := itr (fl1 (lbS P s a)) (ntS s) s
def goB (P : List Cl) (s : St) (a : Nat) : St := itr (ti1 P a) (nsS s) (goA P s a)
def goS (P : List Cl) (s : St) (a : Nat) : St := upd (goB P s a) 0 (goB P s a 0 + 1)
theorem siS_lt {s : St} (h : nsS s ≤ 6) : siS s < 64 := itr_inv (fun _ z => z < 64) (nsS s) (by decide) (fun i z hi hz => by
  try dsimp only
  split
  · exact hz
  · exact or_lt hz (by omega))
theorem loS_lt {s : St} {all : Nat} (h : ntS s ≤ 6) : (loS s all).1 < 64 := itr_inv (σ := Nat × Nat) (fun _ z => z.1 < 64) (ntS s) (by decide) (fun i z hi hz => by
  try dsimp only
  split
  · try dsimp only
    split
    · exact hz
    · exact or_lt hz (by omega)
  · exact hz)
