/-! THE ABSTRACT MACHINE: values, memory, one step of each instruction, runs -/
abbrev AV : Type := Int32 ⊕ (Int64 ⊕ (Nat × Nat × Nat))
abbrev LL : Type := List (Option AV)
abbrev MC : Type := (Nat → Nat → Nat → Int32) × (Nat → Nat → Nat → Nat → Int32) × (Nat → Nat → Nat → Nat)
abbrev MR : Type := (Nat → Int32) × (Nat → Nat → Int32)
abbrev Mem : Type := MC × MR × (Nat → Int32) × Nat
abbrev Res : Type := Option (Option AV × Mem)
abbrev vI (x : Int32) : AV := .inl x
abbrev vL (y : Int64) : AV := .inr (.inl y)
abbrev vR (c n k : Nat) : AV := .inr (.inr (c, n, k))
def u1 {α : Type} (f : Nat → α) (k : Nat) (x : α) : Nat → α := fun j => if j = k then x else f j
def u3 {α : Type} (f : Nat → Nat → Nat → α) (c n k : Nat) (x : α) : Nat → Nat → Nat → α := fun c' n' k' => if c' = c ∧ n' = n ∧ k' = k then x else f c' n' k'
def cI (M : Mem) (c n k : Nat) : Int32 := M.1.1 c n k
def cA (M : Mem) (c n k : Nat) : Nat → Int32 := M.1.2.1 c n k
def cR (M : Mem) (c n k : Nat) : Nat := M.1.2.2 c n k
def rI (M : Mem) (k : Nat) : Int32 := M.2.1.1 k
def rA (M : Mem) (k : Nat) : Nat → Int32 := M.2.1.2 k
def sX (M : Mem) : Nat → Int32 := M.2.2.1
def sN (M : Mem) : Nat := M.2.2.2
def csI (M : Mem) (c n k : Nat) (x : Int32) : Mem := ((u3 M.1.1 c n k x, M.1.2), M.2)
def csA (M : Mem) (c n k : Nat) (f : Nat → Int32) : Mem := ((M.1.1, u3 M.1.2.1 c n k f, M.1.2.2), M.2)
def csR (M : Mem) (c n k : Nat) (v : Nat) : Mem := ((M.1.1, M.1.2.1, u3 M.1.2.2 c n k v), M.2)
def rsI (M : Mem) (k : Nat) (x : Int32) : Mem := (M.1, (u1 M.2.1.1 k x, M.2.1.2), M.2.2)
def rsA (M : Mem) (k : Nat) (f : Nat → Int32) : Mem := (M.1, (M.2.1.1, u1 M.2.1.2 k f), M.2.2)
def strBL : List (List Int32) := [[101, 97, 115, 101, 32], [119, 101, 97, 114, 121, 32], [108, 111, 117, 100, 32], [100, 114, 97, 117, 103, 104, 116, 32], [115, 107, 118, 110, 116, 98], [60, 61, 62]]
def staBL : List (List Int32) := [[0, 2, 4, 5, 7], [(-1), 0, 0, 0, 1, 2, 3], [1, 2, 3, 11, 0, 0, 0, 21, 0, 0, 0, 31, 0, 0, 41, 51, 0, 0, 0, 61, 0]]
def strB (n : Nat) : Nat → Int32 := fun i => (strBL.getD n []).getD i 0
def staB (n : Nat) : Nat → Int32 := fun i => (staBL.getD n []).getD i 0
def shpL : List (List (Nat × Nat × Nat)) := [[(0, 0, 0), (0, 0, 0), (0, 0, 0), (0, 0, 0), (1, 0, 0)], [(0, 0, 0), (0, 0, 0), (0, 0, 0), (3, 3, 0), (1, 0, 0), (1, 0, 0), (1, 0, 0), (1, 0, 0), (1, 0, 0), (1, 0, 0), (1, 0, 0), (1, 0, 0), (1, 0, 0), (1, 0, 0), (1, 0, 0)], [(3, 4, 6), (0, 0, 0), (0, 0, 0), (3, 3, 0)], [(0, 0, 0), (0, 0, 0), (0, 0, 0), (0, 0, 0), (1, 0, 0), (1, 0, 0), (1, 0, 0), (1, 0, 0), (1, 0, 0)], [(0, 0, 0), (0, 0, 0), (0, 0, 0), (0, 0, 0), (0, 0, 0), (1, 0, 0), (1, 0, 0), (1, 0, 0), (1, 0, 0), (1, 0, 0), (1, 0, 0), (1, 0, 0)], [(1, 0, 0), (2, 2, 0), (2, 0, 0), (2, 1, 0), (2, 1, 1), (2, 1, 2), (2, 4, 0), (2, 4, 1), (1, 0, 0), (1, 0, 0), (5, 0, 0)], [(0, 0, 0), (1, 0, 0), (1, 0, 0), (1, 0, 0), (5, 0, 0), (0, 0, 0), (0, 0, 0), (0, 0, 0), (5, 0, 0), (0, 0, 0), (1, 0, 0), (1, 0, 0), (1, 0, 0), (0, 0, 0), (0, 0, 0), (1, 0, 0), (1, 0, 0), (1, 0, 0), (1, 0, 0), (0, 0, 0), (0, 0, 0), (0, 0, 0), (0, 0, 0)]]
def akL : List (List (Nat × Nat)) := [[(0, 0), (0, 0), (0, 0), (0, 0), (0, 0), (1, 20)], [(0, 0), (0, 0), (0, 0), (0, 0), (0, 0), (1, 6), (1, 6), (1, 6), (1, 6), (1, 6), (1, 24), (1, 6), (1, 6), (1, 6), (1, 6), (1, 6)], [(0, 0), (0, 0), (0, 0), (0, 0), (0, 0)], [(0, 0), (0, 0), (0, 0), (0, 0), (0, 0), (1, 10), (1, 10), (1, 10), (1, 10), (1, 100)], [(0, 0), (0, 0), (0, 0), (0, 0), (0, 0), (0, 0), (1, 100), (1, 6), (1, 6), (1, 8), (1, 8), (1, 8), (1, 8)], [(0, 0), (6, 6), (0, 0), (0, 0), (0, 0), (0, 0), (0, 0), (0, 0), (0, 0), (1, 25), (1, 6), (0, 0)], [(0, 0), (0, 0), (1, 940), (1, 940), (1, 19), (0, 0), (0, 0), (0, 0), (0, 0), (0, 0), (0, 0), (1, 6), (2, 64), (1, 6), (0, 0), (0, 0), (1, 25), (1, 6), (1, 6), (1, 20), (0, 0), (0, 0), (0, 0), (0, 0)]]
def cellsL : List (Nat × Nat × Nat) := [(5, 0, 0), (5, 0, 1), (5, 0, 9), (5, 0, 10), (2, 0, 0), (0, 0, 0), (0, 0, 5), (1, 0, 0), (1, 0, 5), (1, 0, 6), (1, 0, 7), (1, 0, 8), (1, 0, 9), (1, 0, 10), (1, 0, 11), (1, 0, 12), (1, 0, 13), (1, 0, 14), (1, 0, 15), (1, 1, 0), (1, 1, 5), (1, 1, 6), (1, 1, 7), (1, 1, 8), (1, 1, 9), (1, 1, 10), (1, 1, 11), (1, 1, 12), (1, 1, 13), (1, 1, 14), (1, 1, 15), (1, 2, 0), (1, 2, 5), (1, 2, 6), (1, 2, 7), (1, 2, 8), (1, 2, 9), (1, 2, 10), (1, 2, 11), (1, 2, 12), (1, 2, 13), (1, 2, 14), (1, 2, 15), (4, 0, 0), (4, 0, 6), (4, 0, 7), (4, 0, 8), (4, 0, 9), (4, 0, 10), (4, 0, 11), (4, 0, 12), (4, 1, 0), (4, 1, 6), (4, 1, 7), (4, 1, 8), (4, 1, 9), (4, 1, 10), (4, 1, 11), (4, 1, 12), (3, 0, 0), (3, 0, 5), (3, 0, 6), (3, 0, 7), (3, 0, 8), (3, 0, 9), (3, 1, 0), (3, 1, 5), (3, 1, 6), (3, 1, 7), (3, 1, 8), (3, 1, 9), (3, 2, 0), (3, 2, 5), (3, 2, 6), (3, 2, 7), (3, 2, 8), (3, 2, 9), (3, 3, 0), (3, 3, 5), (3, 3, 6), (3, 3, 7), (3, 3, 8), (3, 3, 9), (3, 4, 0), (3, 4, 5), (3, 4, 6), (3, 4, 7), (3, 4, 8), (3, 4, 9), (3, 5, 0), (3, 5, 5), (3, 5, 6), (3, 5, 7), (3, 5, 8), (3, 5, 9), (6, 0, 0), (6, 0, 2), (6, 0, 3), (6, 0, 4), (6, 0, 11), (6, 0, 12), (6, 0, 13), (6, 0, 16), (6, 0, 17), (6, 0, 18), (6, 0, 19)]
def shp (c k : Nat) : Nat × Nat × Nat := ((bif c == 20 then [(1, 0, 0), (4, 0, 0)] else shpL.getD c []) : List (Nat × Nat × Nat)).getD k (9, 0, 0)
def fI (M : Mem) (c n k : Nat) : Int32 := bif c == 6 then rI M k else cI M c n k
def arr (M : Mem) (c n k : Nat) : Nat → Int32 := bif c == 6 then rA M k else bif c == 20 then strB n else bif c == 21 then staB n else bif c == 24 then sX M else cA M c n k
def fv (M : Mem) (c n k : Nat) : AV := match shp c k with
  | (0, _, _) => vI (fI M c n k)
  | (1, _, _) => vR c n (k + 1)
  | (2, c', n') => vR c' n' 0
  | (3, c', k') => vR c' (cR M c n k) k'
  | (4, v, _) => vI (Int32.ofNat v)
  | (5, _, _) => vI (fI M c n k)
  | _ => vR 23 0 0
/-- the kind of an array (1 ints, 2 booleans, 3 a text's bytes, 4 a constant's ints, 5 the script, 6 the settings) and its length -/
def ak (M : Mem) (c n k : Nat) : Nat × Nat := bif c == 20 then (bif k == 1 then (3, (strBL.getD n []).length) else (0, 0)) else bif c == 21 then (bif k == 1 then (4, (staBL.getD n []).length) else (0, 0)) else bif c == 24 then (5, sN M) else (akL.getD c []).getD k (0, 0)
def ssI (M : Mem) (c n k : Nat) (x : Int32) : Mem := bif c == 6 then rsI M k x else csI M c n k x
def ssA (M : Mem) (c n k : Nat) (f : Nat → Int32) : Mem := bif c == 6 then rsA M k f else csA M c n k f
def maskL : LL → Nat → LL
  | [], _ => []
  | a :: r, m => (bif m % 2 == 1 then a else none) :: maskL r (m / 2)
def cntO (c : Nat) : Nat := bif c == 3 then 6 else 2
def lget : LL → Nat → Option AV
  | [], _ => none
  | a :: _, 0 => a
  | _ :: r, i + 1 => lget r i
def isL : Option AV → Bool
  | some (.inr (.inl _)) => true
  | _ => false
def lset : LL → Nat → AV → LL
  | [], _, _ => []
  | _ :: r, 0, v => some v :: (bif isL (some v) then (match r with | _ :: r' => none :: r' | [] => []) else r)
  | a :: r, i + 1, v => (bif (i == 0 && isL a) then none else a) :: lset r i v
def argL : List AV → LL
  | [] => []
  | .inr (.inl y) :: r => some (vL y) :: none :: argL r
  | .inr (.inr q) :: r => some (.inr (.inr q)) :: argL r
  | .inl x :: r => some (vI x) :: argL r
def padL (n : Nat) (l : LL) : LL := l ++ List.replicate (n - l.length) none
def cats : List AV → Nat
  | [] => 0
  | v :: r => (bif isL (some v) then 2 else 1) + cats r
def swT {ρ : Type} (g : Nat → ρ) (pc : Nat) (x : Int32) : Int → List Int → Int → ρ
  | _, [], d => g ((pc : Int) + d).toNat
  | lo, o :: r, d => if x = Int32.ofInt lo then g ((pc : Int) + o).toNat else swT g pc x (lo + 1) r d
def swL {ρ : Type} (g : Nat → ρ) (pc : Nat) (x : Int32) : List (Int × Int) → Int → ρ
  | [], d => g ((pc : Int) + d).toNat
  | (a, o) :: r, d => if x = Int32.ofInt a then g ((pc : Int) + o).toNat else swL g pc x r d
def mustC (c : Nat) (as : List AV) : Bool := match as with
  | .inr (.inr (c', _, 0)) :: _ => c' == c
  | _ => false
/-- one instruction: it fails, goes on, jumps, calls, returns -/
def stepG {ρ : Type} (fail : ρ) (nx : LL → List AV → Mem → ρ) (jp : Nat → LL → List AV → Mem → ρ) (ca : Nat → List AV → LL → List AV → Mem → ρ) (rt : Option AV → Mem → ρ) (pc a b : Nat) (ins : Instr) (ls : LL) (st : List AV) (M : Mem) : ρ :=
  match ins with
  | .iconst n => nx ls (vI (Int32.ofInt n) :: st) M
  | .bipush n => nx ls (vI (Int8.ofInt n).toInt32 :: st) M
  | .sipush n => nx ls (vI (Int16.ofInt n).toInt32 :: st) M
  | .lconst n => nx ls (vL (Int64.ofNat (n : Nat)) :: st) M
  | .ldc _ => bif a == 0 then nx ls (vI (Int32.ofNat b) :: st) M else bif a == 1 then nx ls (vR 20 b 0 :: st) M else fail
  | .ldc_w _ => bif a == 0 then nx ls (vI (Int32.ofNat b) :: st) M else fail
  | .ldc2_w _ => nx ls (vL (-9223372036854775808) :: st) M
  | .iload i => match lget ls i with
    | some (.inl x) => nx ls (vI x :: st) M
    | _ => fail
  | .iload_n i => match lget ls i with
    | some (.inl x) => nx ls (vI x :: st) M
    | _ => fail
  | .lload i => match lget ls i with
    | some (.inr (.inl x)) => nx ls (vL x :: st) M
    | _ => fail
  | .lload_n i => match lget ls i with
    | some (.inr (.inl x)) => nx ls (vL x :: st) M
    | _ => fail
  | .aload i => match lget ls i with
    | some (.inr (.inr q)) => nx ls (.inr (.inr q) :: st) M
    | _ => fail
  | .aload_n i => match lget ls i with
    | some (.inr (.inr q)) => nx ls (.inr (.inr q) :: st) M
    | _ => fail
  | .istore i => match st with
    | .inl x :: st' => bif Nat.blt i ls.length then nx (lset ls i (vI x)) st' M else fail
    | _ => fail
  | .istore_n i => match st with
    | .inl x :: st' => bif Nat.blt i ls.length then nx (lset ls i (vI x)) st' M else fail
    | _ => fail
  | .astore i => match st with
    | .inr (.inr q) :: st' => bif Nat.blt i ls.length then nx (lset ls i (.inr (.inr q))) st' M else fail
    | _ => fail
  | .astore_n i => match st with
    | .inr (.inr q) :: st' => bif Nat.blt i ls.length then nx (lset ls i (.inr (.inr q))) st' M else fail
    | _ => fail
  | .lstore i => match st with
    | .inr (.inl x) :: st' => bif Nat.blt (i + 1) ls.length then nx (lset ls i (vL x)) st' M else fail
    | _ => fail
  | .lstore_n i => match st with
    | .inr (.inl x) :: st' => bif Nat.blt (i + 1) ls.length then nx (lset ls i (vL x)) st' M else fail
    | _ => fail
  | .iinc i n => match lget ls i with
    | some (.inl x) => nx (lset ls i (vI (x + Int32.ofInt n))) st M
    | _ => fail
  | .iadd => match st with
    | .inl y :: .inl x :: st' => nx ls (vI (x + y) :: st') M
    | _ => fail
  | .isub => match st with
    | .inl y :: .inl x :: st' => nx ls (vI (x - y) :: st') M
    | _ => fail
  | .imul => match st with
    | .inl y :: .inl x :: st' => nx ls (vI (x * y) :: st') M
    | _ => fail
  | .iand => match st with
    | .inl y :: .inl x :: st' => nx ls (vI (x &&& y) :: st') M
    | _ => fail
  | .ior => match st with
    | .inl y :: .inl x :: st' => nx ls (vI (x ||| y) :: st') M
    | _ => fail
  | .ixor => match st with
    | .inl y :: .inl x :: st' => nx ls (vI (x ^^^ y) :: st') M
    | _ => fail
  | .idiv => match st with
    | .inl y :: .inl x :: st' => if y = 0 then fail else nx ls (vI (x / y) :: st') M
    | _ => fail
  | .irem => match st with
    | .inl y :: .inl x :: st' => if y = 0 then fail else nx ls (vI (x - x / y * y) :: st') M
    | _ => fail
  | .ishl => match st with
    | .inl y :: .inl x :: st' => nx ls (vI (x <<< (y &&& 31)) :: st') M
    | _ => fail
  | .ishr => match st with
    | .inl y :: .inl x :: st' => nx ls (vI (x >>> (y &&& 31)) :: st') M
    | _ => fail
  | .iushr => match st with
    | .inl y :: .inl x :: st' => nx ls (vI ((x.toUInt32 >>> (y.toUInt32 &&& Int32.toUInt32 31)).toInt32) :: st') M
    | _ => fail
  | .ineg => match st with
    | .inl x :: st' => nx ls (vI (-x) :: st') M
    | _ => fail
  | .i2b => match st with
    | .inl x :: st' => nx ls (vI x.toInt8.toInt32 :: st') M
    | _ => fail
  | .i2c => match st with
    | .inl x :: st' => nx ls (vI (x.toUInt32 % 65536).toInt32 :: st') M
    | _ => fail
  | .i2l => match st with
    | .inl x :: st' => nx ls (vL x.toInt64 :: st') M
    | _ => fail
  | .ladd => match st with
    | .inr (.inl y) :: .inr (.inl x) :: st' => nx ls (vL (x + y) :: st') M
    | _ => fail
  | .ldiv => match st with
    | .inr (.inl y) :: .inr (.inl x) :: st' => if y = 0 then fail else nx ls (vL (x / y) :: st') M
    | _ => fail
  | .lrem => match st with
    | .inr (.inl y) :: .inr (.inl x) :: st' => if y = 0 then fail else nx ls (vL (x - x / y * y) :: st') M
    | _ => fail
  | .lneg => match st with
    | .inr (.inl x) :: st' => nx ls (vL (-x) :: st') M
    | _ => fail
  | .lcmp => match st with
    | .inr (.inl y) :: .inr (.inl x) :: st' => nx ls (vI (lg_cmp x y) :: st') M
    | _ => fail
  | .dup => match st with
    | .inl x :: st' => nx ls (.inl x :: .inl x :: st') M
    | .inr (.inr q) :: st' => nx ls (.inr (.inr q) :: .inr (.inr q) :: st') M
    | _ => fail
  | .dup2 => match st with
    | .inl x :: .inl y :: st' => nx ls (.inl x :: .inl y :: .inl x :: .inl y :: st') M
    | .inl x :: .inr (.inr q) :: st' => nx ls (.inl x :: .inr (.inr q) :: .inl x :: .inr (.inr q) :: st') M
    | _ => fail
  | .pop => match st with
    | .inl _ :: st' => nx ls st' M
    | .inr (.inr _) :: st' => nx ls st' M
    | _ => fail
  | .goto off => jp ((pc : Int) + off).toNat (maskL ls a) st M
  | .ifCond c off => match st with
    | .inl x :: st' => match c with
      | .eq => if x = 0 then jp ((pc : Int) + off).toNat (maskL ls a) st' M else nx ls st' M
      | .ne => if x = 0 then nx ls st' M else jp ((pc : Int) + off).toNat (maskL ls a) st' M
      | .lt => if x < 0 then jp ((pc : Int) + off).toNat (maskL ls a) st' M else nx ls st' M
      | .ge => if 0 ≤ x then jp ((pc : Int) + off).toNat (maskL ls a) st' M else nx ls st' M
      | .gt => if 0 < x then jp ((pc : Int) + off).toNat (maskL ls a) st' M else nx ls st' M
      | .le => if x ≤ 0 then jp ((pc : Int) + off).toNat (maskL ls a) st' M else nx ls st' M
    | _ => fail
  | .if_icmp c off => match st with
    | .inl y :: .inl x :: st' => match c with
      | .eq => if x = y then jp ((pc : Int) + off).toNat (maskL ls a) st' M else nx ls st' M
      | .ne => if x = y then nx ls st' M else jp ((pc : Int) + off).toNat (maskL ls a) st' M
      | .lt => if x < y then jp ((pc : Int) + off).toNat (maskL ls a) st' M else nx ls st' M
      | .ge => if y ≤ x then jp ((pc : Int) + off).toNat (maskL ls a) st' M else nx ls st' M
      | .gt => if y < x then jp ((pc : Int) + off).toNat (maskL ls a) st' M else nx ls st' M
      | .le => if x ≤ y then jp ((pc : Int) + off).toNat (maskL ls a) st' M else nx ls st' M
    | _ => fail
  | .tableswitch d lo _ offs => match st with
    | .inl x :: st' => swT (fun t => jp t (maskL ls a) st' M) pc x lo offs.toList d
    | _ => fail
  | .lookupswitch d ps => match st with
    | .inl x :: st' => swL (fun t => jp t (maskL ls a) st' M) pc x ps.toList d
    | _ => fail
  | .getfield _ => match st with
    | .inr (.inr (c, n, 0)) :: st' => bif c == a then (match shp a b with
      | (3, c', k') => if cR M a n b < cntO c' then nx ls (vR c' (cR M a n b) k' :: st') M else fail
      | _ => nx ls (fv M a n b :: st') M) else fail
    | _ => fail
  | .putfield _ => match st with
    | .inl x :: .inr (.inr (c, n, 0)) :: st' => bif c == a then (match (shp a b).1 with
      | 0 => nx ls st' (ssI M a n b x)
      | 5 => if x = 0 ∨ x = 1 then nx ls st' (ssI M a n b x) else fail
      | _ => fail) else fail
    | .inr (.inr (cv, nv, kv)) :: .inr (.inr (c, n, 0)) :: st' => bif c == a then (match shp a b with
      | (3, c', k') => bif cv == c' && kv == k' then nx ls st' (csR M a n b nv) else fail
      | _ => fail) else fail
    | _ => fail
  | .getstatic _ => bif a == 0 then nx ls (vI 1 :: st) M else bif a == 1 then nx ls (vR 21 b 1 :: st) M else bif a == 2 then nx ls (vR 22 0 0 :: st) M else fail
  | .iaload => match st with
    | .inl i :: .inr (.inr (c, n, k)) :: st' => bif ((ak M c n k).1 == 1 || (ak M c n k).1 == 4 || (ak M c n k).1 == 5) then (if i < 0 ∨ (ak M c n k).2 ≤ i.toNatClampNeg then fail else nx ls (vI (arr M c n k i.toNatClampNeg) :: st') M) else fail
    | _ => fail
  | .baload => match st with
    | .inl i :: .inr (.inr (c, n, k)) :: st' => bif ((ak M c n k).1 == 2 || (ak M c n k).1 == 3) then (if i < 0 ∨ (ak M c n k).2 ≤ i.toNatClampNeg then fail else nx ls (vI (arr M c n k i.toNatClampNeg) :: st') M) else fail
    | _ => fail
  | .aaload => match st with
    | .inl i :: .inr (.inr (c, n, k)) :: st' => bif (ak M c n k).1 == 6 then (if i < 0 ∨ (ak M c n k).2 ≤ i.toNatClampNeg then fail else nx ls (vR 3 i.toNatClampNeg 0 :: st') M) else fail
    | _ => fail
  | .iastore => match st with
    | .inl x :: .inl i :: .inr (.inr (c, n, k)) :: st' => bif (ak M c n k).1 == 1 then (if i < 0 ∨ (ak M c n k).2 ≤ i.toNatClampNeg then fail else nx ls st' (ssA M c n k (upd (arr M c n k) i.toNatClampNeg x))) else fail
    | _ => fail
  | .bastore => match st with
    | .inl x :: .inl i :: .inr (.inr (c, n, k)) :: st' => bif (ak M c n k).1 == 2 then (if i < 0 ∨ (ak M c n k).2 ≤ i.toNatClampNeg then fail else (if x = 0 ∨ x = 1 then nx ls st' (ssA M c n k (upd (arr M c n k) i.toNatClampNeg x)) else fail)) else fail
    | _ => fail
  | .arraylength => match st with
    | .inr (.inr (c, n, k)) :: st' => bif (ak M c n k).1 == 0 then fail else nx ls (vI (Int32.ofNat (ak M c n k).2) :: st') M
    | _ => fail
  | .invokevirtual _ => bif Nat.blt a (nM - 1) && !stO a && Nat.ble b st.length && b == naO a + 1 && Nat.ble (cats (st.drop b)) 8 && mustC (ctO a) (st.take b).reverse then ca a (st.take b).reverse ls (st.drop b) M else fail
  | .invokestatic _ => bif a == 1000 then (match st with
      | .inl y :: .inl x :: st' => bif Nat.ble (cats st') 8 then nx ls (vI (if y < x then y else x) :: st') M else fail
      | _ => fail)
    else bif a == 1001 then (match st with
      | .inl y :: .inl x :: st' => bif Nat.ble (cats st') 8 then nx ls (vI (if x < y then y else x) :: st') M else fail
      | _ => fail)
    else bif a == 1002 then (match st with
      | .inl x :: st' => bif Nat.ble (cats st') 8 then nx ls (vI (if 0 ≤ x then x else 0 - x) :: st') M else fail
      | _ => fail)
    else bif a == 1003 then (match st with
      | .inl n :: .inl dp :: .inr (.inr (c1, n1, k1)) :: .inl sp :: .inr (.inr (c0, n0, k0)) :: st' =>
        bif Nat.ble (cats st') 8 && (ak M c1 n1 k1).1 == 1 && (ak M c0 n0 k0).1 == 1 then
          (if sp < 0 ∨ dp < 0 ∨ n < 0 ∨ (ak M c0 n0 k0).2 < sp.toNatClampNeg + n.toNatClampNeg ∨ (ak M c1 n1 k1).2 < dp.toNatClampNeg + n.toNatClampNeg then fail
           else nx ls st' (ssA M c1 n1 k1 (va_cpy (arr M c0 n0 k0) (arr M c1 n1 k1) sp.toNatClampNeg dp.toNatClampNeg n.toNatClampNeg))) else fail
      | _ => fail)
    else bif Nat.blt a (nM - 1) && stO a && Nat.ble b st.length && b == naO a && Nat.ble (cats (st.drop b)) 8 then ca a (st.take b).reverse ls (st.drop b) M else fail
  | .ireturn => match st with
    | [.inl x] => match a with
      | 1 => rt (some (vI x)) M
      | 2 => if x = 0 ∨ x = 1 then rt (some (vI x)) M else fail
      | 3 => if vp_nar .char x = x then rt (some (vI x)) M else fail
      | 4 => if vp_nar .byte x = x then rt (some (vI x)) M else fail
      | _ => fail
    | _ => fail
  | .lreturn => match st with
    | [.inr (.inl y)] => rt (some (vL y)) M
    | _ => fail
  | .return_ => match st with
    | [] => rt none M
    | _ => fail
  | _ => fail
abbrev AgT : Type := Nat → LL → List AV → Mem → Res
abbrev ClT : Type := Nat → List AV → Mem → Res
def bindV (r : Res) (f : Mem → Res) : Res := match r with
  | some (none, M) => f M
  | _ => none
def bindI (r : Res) (f : Int32 → Mem → Res) : Res := match r with
  | some (some (.inl x), M) => f x M
  | _ => none
def bindL (r : Res) (f : Int64 → Mem → Res) : Res := match r with
  | some (some (.inr (.inl x)), M) => f x M
  | _ => none
/-- what a call answers goes on, by the kind of its answer -/
def bindR (k : Nat) (r : Res) (f : Option AV → Mem → Res) : Res := match k with
  | 0 => bindV r (fun M => f none M)
  | 1 => bindI r (fun x M => f (some (vI x)) M)
  | _ => bindL r (fun y M => f (some (vL y)) M)
theorem bindR_some {k : Nat} {r : Res} {f : Option AV → Mem → Res} {z : Option AV × Mem} (h : bindR k r f = some z) : ∃ o M, r = some (o, M) ∧ f o M = some z := by
  unfold bindR at h
  split at h
  · unfold bindV at h; split at h
    · exact ⟨_, _, rfl, h⟩
    · cases h
  · unfold bindI at h; split at h
    · exact ⟨_, _, rfl, h⟩
    · cases h
  · unfold bindL at h; split at h
    · exact ⟨_, _, rfl, h⟩
    · cases h
theorem bindR_mono {k : Nat} {r r' : Res} {f f' : Option AV → Mem → Res} {z : Option AV × Mem} (h : bindR k r f = some z) (hr : ∀ y, r = some y → r' = some y) (hf : ∀ o M, r = some (o, M) → f o M = some z → f' o M = some z) : bindR k r' f' = some z := by
  unfold bindR at h ⊢
  split at h
  · unfold bindV at h ⊢; split at h
    · rw [hr _ rfl]; exact hf _ _ rfl h
    · cases h
  · unfold bindI at h ⊢; split at h
    · rw [hr _ rfl]; exact hf _ _ rfl h
    · cases h
  · unfold bindL at h ⊢; split at h
    · rw [hr _ rfl]; exact hf _ _ rfl h
    · cases h
/-- the rows of a block, one behind the other -/
def run (ag : AgT) (cl : ClT) : List CE → LL → List AV → Mem → Res
  | [], _, _, _ => none
  | (pc, n, ins, a, b, e) :: r, ls, st, M => stepG none (fun ls st M => bif e == 0 then run ag cl r ls st M else ag (pc + n) (maskL ls (e - 1)) st M) ag (fun j as ls st M => bindR (rkO j) (cl j as M) fun o M => bif e == 0 then run ag cl r ls (o.toList ++ st) M else ag (pc + n) (maskL ls (e - 1)) (o.toList ++ st) M) (fun v M => some (v, M)) pc a b ins ls st M
def dropTo (pc : Nat) : List CE → List CE
  | [] => []
  | q :: r => bif q.1 == pc then q :: r else dropTo pc r
def exec : Nat → Nat → Nat → Nat → LL → List AV → Mem → Res
  | 0, _, _, _, _, _, _ => none
  | n + 1, d, j, pc, ls, st, M => run (exec n d j) (fun j' as M' => match d with
    | 0 => none
    | d' + 1 => bif Nat.ble (argL as).length (mlO j') then exec n d' j' 0 (padL (mlO j') (argL as)) [] M' else none) (dropTo pc (kO j)) ls st M
/-! runs are monotone in the fuel -/
abbrev Ctl : Type := Option ((LL × List AV × Mem) ⊕ ((Nat × LL × List AV × Mem) ⊕ ((Nat × List AV × LL × List AV × Mem) ⊕ (Option AV × Mem))))
def stepR (pc a b : Nat) (ins : Instr) (ls : LL) (st : List AV) (M : Mem) : Ctl := stepG none (fun l s m => some (.inl (l, s, m))) (fun t l s m => some (.inr (.inl (t, l, s, m)))) (fun j as l s m => some (.inr (.inr (.inl (j, as, l, s, m))))) (fun v m => some (.inr (.inr (.inr (v, m))))) pc a b ins ls st M
def ctl {ρ : Type} (fail : ρ) (nx : LL → List AV → Mem → ρ) (jp : Nat → LL → List AV → Mem → ρ) (ca : Nat → List AV → LL → List AV → Mem → ρ) (rt : Option AV → Mem → ρ) : Ctl → ρ
  | none => fail
  | some (.inl (l, s, m)) => nx l s m
  | some (.inr (.inl (t, l, s, m))) => jp t l s m
  | some (.inr (.inr (.inl (j, as, l, s, m)))) => ca j as l s m
  | some (.inr (.inr (.inr (v, m)))) => rt v m
theorem swT_nat {ρ σ : Type} (φ : ρ → σ) (g : Nat → ρ) (pc : Nat) (x : Int32) : ∀ (offs : List Int) (lo d : Int), φ (swT g pc x lo offs d) = swT (fun t => φ (g t)) pc x lo offs d
  | [], _, _ => rfl
  | o :: r, lo, d => by
    simp only [swT]
    split
    · rfl
    · exact swT_nat φ g pc x r (lo + 1) d
theorem swL_nat {ρ σ : Type} (φ : ρ → σ) (g : Nat → ρ) (pc : Nat) (x : Int32) : ∀ (ps : List (Int × Int)) (d : Int), φ (swL g pc x ps d) = swL (fun t => φ (g t)) pc x ps d
  | [], _ => rfl
  | (a, o) :: r, d => by
    simp only [swL]
    split
    · rfl
    · exact swL_nat φ g pc x r d
set_option maxHeartbeats 4000000 in
theorem stepG_ctl {ρ : Type} (fail : ρ) (nx : LL → List AV → Mem → ρ) (jp : Nat → LL → List AV → Mem → ρ) (ca : Nat → List AV → LL → List AV → Mem → ρ) (rt : Option AV → Mem → ρ) (pc a b : Nat) (ins : Instr) (ls : LL) (st : List AV) (M : Mem) :
    stepG fail nx jp ca rt pc a b ins ls st M = ctl fail nx jp ca rt (stepR pc a b ins ls st M) := by
  cases ins <;> simp only [stepG, stepR, cond_eq_ite, swT_nat (ctl fail nx jp ca rt), swL_nat (ctl fail nx jp ca rt)] <;> first | rfl | (repeat' split) <;> first | rfl | exact (swT_nat (ctl fail nx jp ca rt) (fun t => some (Sum.inr (Sum.inl (t, maskL ls a, _, M)))) _ _ _ _ _).symm | exact (swL_nat (ctl fail nx jp ca rt) (fun t => some (Sum.inr (Sum.inl (t, maskL ls a, _, M)))) _ _ _ _).symm
/-- one run answers at least what another does -/
def leR (x y : Res) : Prop := ∀ r, x = some r → y = some r
theorem run_mono {ag ag' : AgT} {cl cl' : ClT} (ha : ∀ t ls st M, leR (ag t ls st M) (ag' t ls st M)) (hc : ∀ j as M, leR (cl j as M) (cl' j as M)) : ∀ (l : List CE) (ls : LL) (st : List AV) (M : Mem), leR (run ag cl l ls st M) (run ag' cl' l ls st M)
  | [], _, _, _ => fun r h => h
  | (pc, n, ins, a, b, e) :: r, ls, st, M => by
    intro x h
    simp only [run, stepG_ctl] at h ⊢
    generalize stepR pc a b ins ls st M = y at h ⊢
    match y, h with
    | none, h => exact h
    | some (.inl (l, s, m)), h =>
      simp only [ctl] at h ⊢
      cases hz : (e == 0) <;> rw [hz] at h
      · exact ha _ _ _ _ x h
      · exact run_mono ha hc r l s m x h
    | some (.inr (.inl (t, l, s, m))), h => exact ha t l s m x h
    | some (.inr (.inr (.inl (j, as, l, s, m)))), h =>
      simp only [ctl] at h ⊢
      refine bindR_mono h (hc j as m) (fun o M _ h => ?_)
      cases hz : (e == 0) <;> rw [hz] at h
      · exact ha _ _ _ _ x h
      · exact run_mono ha hc r l _ M x h
    | some (.inr (.inr (.inr (v, m)))), h => exact h
theorem exec_mono1 : ∀ (n d j pc : Nat) (ls : LL) (st : List AV) (M : Mem), leR (exec n d j pc ls st M) (exec (n + 1) d j pc ls st M)
  | 0, _, _, _, _, _, _ => fun r h => absurd h (by simp [exec])
  | n + 1, d, j, pc, ls, st, M => by
    intro r h
    rw [exec] at h ⊢
    refine run_mono (fun t ls st M => exec_mono1 n d j t ls st M) (fun j as M => ?_) _ _ _ _ r h
    match d with
    | 0 => exact fun r h => h
    | d' + 1 =>
      simp only
      cases Nat.ble (argL as).length (mlO j)
      · exact fun r h => h
      · exact exec_mono1 n d' j 0 _ [] M
theorem exec_mono {n k d j pc : Nat} {ls : LL} {st : List AV} {M : Mem} (h : n ≤ k) : leR (exec n d j pc ls st M) (exec k d j pc ls st M) := by
  obtain ⟨i, rfl⟩ := Nat.le.dest h
  induction i with
  | zero => exact fun r h => h
  | succ i ih => exact fun r h => exec_mono1 _ _ _ _ _ _ _ r (ih (by omega) r h)
/-! the answer of a run, whatever its fuel -/
noncomputable def X (d j pc : Nat) (ls : LL) (st : List AV) (M : Mem) : Res :=
  @dite Res (∃ n r, exec n d j pc ls st M = some r) (Classical.propDecidable _) (fun h => some (Classical.choose (Classical.choose_spec h))) (fun _ => none)
noncomputable def XC (d j : Nat) (as : List AV) (M : Mem) : Res := match d with
  | 0 => none
  | d' + 1 => bif Nat.ble (argL as).length (mlO j) then X d' j 0 (padL (mlO j) (argL as)) [] M else none
theorem X_some {d j pc : Nat} {ls : LL} {st : List AV} {M : Mem} {r : Option AV × Mem} : X d j pc ls st M = some r ↔ ∃ n, exec n d j pc ls st M = some r := by
  constructor
  · intro h
    unfold X at h
    split at h
    · next g => exact ⟨Classical.choose g, by rw [← h]; exact Classical.choose_spec (Classical.choose_spec g)⟩
    · cases h
  · rintro ⟨n, h⟩
    have g : ∃ n r, exec n d j pc ls st M = some r := ⟨n, r, h⟩
    have e : X d j pc ls st M = some (Classical.choose (Classical.choose_spec g)) := dif_pos g
    have h2 := Classical.choose_spec (Classical.choose_spec g)
    rw [e, ← exec_mono (Nat.le_max_left n (Classical.choose g)) _ h, exec_mono (Nat.le_max_right n (Classical.choose g)) _ h2]
theorem run_cont (d j : Nat) : ∀ (l : List CE) (ls : LL) (st : List AV) (M : Mem) (r : Option AV × Mem), run (X d j) (XC d) l ls st M = some r → ∃ n, run (exec n d j) (fun j' as M' => match d with
    | 0 => none
    | d' + 1 => bif Nat.ble (argL as).length (mlO j') then exec n d' j' 0 (padL (mlO j') (argL as)) [] M' else none) l ls st M = some r
  | [], _, _, _, _ => fun h => absurd h (by simp [run])
  | (pc, n, ins, a, b, e) :: rs, ls, st, M, x => by
    intro h
    simp only [run, stepG_ctl] at h ⊢
    generalize stepR pc a b ins ls st M = y at h ⊢
    match y, h with
    | none, h => exact absurd h (by simp [ctl])
    | some (.inl (l, s, m)), h =>
      simp only [ctl] at h ⊢
      cases hz : (e == 0) <;> rw [hz] at h
      · exact X_some.mp h
      · exact run_cont d j rs l s m x h
    | some (.inr (.inl (t, l, s, m))), h => exact X_some.mp h
    | some (.inr (.inr (.inl (j2, as, l, s, m)))), h =>
      simp only [ctl] at h ⊢
      obtain ⟨o, M2, h1, h2⟩ := bindR_some h
      match d, h, h1, h2 with
      | 0, _, h1, _ => exact absurd h1 (by simp [XC])
      | d' + 1, h, h1, h2 =>
        have h1c : Nat.ble (argL as).length (mlO j2) = true := by
          cases hb : Nat.ble (argL as).length (mlO j2)
          · simp only [XC, hb] at h1; cases h1
          · rfl
        simp only [XC, h1c, cond_true] at h1 h
        obtain ⟨n1, g1⟩ := X_some.mp h1
        simp only [h1c, cond_true]
        cases hz : (e == 0) <;> rw [hz] at h2
        · obtain ⟨n2, g2⟩ := X_some.mp h2
          refine ⟨max n1 n2, bindR_mono h (fun y hy => ?_) (fun o' M' ho _ => ?_)⟩
          · cases h1.symm.trans hy
            exact exec_mono (Nat.le_max_left _ _) _ g1
          · cases h1.symm.trans ho
            exact exec_mono (Nat.le_max_right _ _) _ g2
        · obtain ⟨n2, g2⟩ := run_cont (d' + 1) j rs l _ M2 x h2
          refine ⟨max n1 n2, bindR_mono h (fun y hy => ?_) (fun o' M' ho _ => ?_)⟩
          · cases h1.symm.trans hy
            exact exec_mono (Nat.le_max_left _ _) _ g1
          · cases h1.symm.trans ho
            exact run_mono (fun t ls st M => exec_mono (Nat.le_max_right _ _)) (fun j as M => (by cases Nat.ble (argL as).length (mlO j); exact fun r h => h; exact exec_mono (Nat.le_max_right _ _))) _ _ _ _ _ g2
    | some (.inr (.inr (.inr (v, m)))), h => exact ⟨0, h⟩
theorem X_unfold (d j pc : Nat) (ls : LL) (st : List AV) (M : Mem) : X d j pc ls st M = run (X d j) (XC d) (dropTo pc (kO j)) ls st M := by
  have one : ∀ r, X d j pc ls st M = some r ↔ run (X d j) (XC d) (dropTo pc (kO j)) ls st M = some r := by
    intro r
    constructor
    · intro h
      obtain ⟨n, hn⟩ := X_some.mp h
      match n, hn with
      | 0, hn => exact absurd hn (by simp [exec])
      | n + 1, hn =>
        rw [exec] at hn
        refine run_mono (fun t ls st M r h => X_some.mpr ⟨n, h⟩) (fun j as M r h => ?_) _ _ _ _ r hn
        match d, h with
        | 0, h => exact absurd h (by simp)
        | d' + 1, h =>
          simp only [XC] at h ⊢
          cases hb : Nat.ble (argL as).length (mlO j)
          · rw [hb] at h; cases h
          · rw [hb] at h; exact X_some.mpr ⟨n, h⟩
    · intro h
      obtain ⟨n, hn⟩ := run_cont d j _ _ _ _ _ h
      exact X_some.mpr ⟨n + 1, by rw [exec]; exact hn⟩
  exact Option.ext one
