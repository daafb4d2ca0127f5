/-! bits of numbers -/
theorem nI_and (a b : Nat) : nI a &&& nI b = nI (a &&& b) := by
  apply Int32.toBitVec_inj.mp
  show BitVec.ofNat 32 a &&& BitVec.ofNat 32 b = BitVec.ofNat 32 (a &&& b)
  exact (BitVec.ofNat_and).symm
theorem nI_or (a b : Nat) : nI a ||| nI b = nI (a ||| b) := by
  apply Int32.toBitVec_inj.mp
  show BitVec.ofNat 32 a ||| BitVec.ofNat 32 b = BitVec.ofNat 32 (a ||| b)
  exact (BitVec.ofNat_or).symm
theorem nI_xor (a b : Nat) : nI a ^^^ nI b = nI (a ^^^ b) := by
  apply Int32.toBitVec_inj.mp
  show BitVec.ofNat 32 a ^^^ BitVec.ofNat 32 b = BitVec.ofNat 32 (a ^^^ b)
  exact (BitVec.ofNat_xor).symm
theorem nI_low (a : Nat) : nI a &&& 1 = nI (a % 2) := by
  have h : (1 : Int32) = nI 1 := rfl
  rw [h, nI_and, Nat.and_one_is_mod]
theorem nI_shl1 (a : Nat) : nI a <<< ((1 : Int32) &&& 31) = nI (2 * a) := by
  apply Int32.toBitVec_inj.mp
  have h : (nI a <<< ((1 : Int32) &&& 31)).toBitVec = (BitVec.ofNat 32 a) <<< 1 := rfl
  rw [h]
  show _ = BitVec.ofNat 32 (2 * a)
  apply BitVec.eq_of_toNat_eq
  rw [BitVec.toNat_shiftLeft, BitVec.toNat_ofNat, BitVec.toNat_ofNat, Nat.shiftLeft_eq]
  omega
theorem nI_push {a c : Nat} (hc : c < 2) : nI (2 * a) ||| nI c = nI (2 * a + c) := by
  rw [nI_or]
  have := Nat.two_pow_add_eq_or_of_lt (i := 1) (b := c) hc a
  have h2 : 2 * a + c = 2 * a ||| c := this
  rw [h2]
theorem nI_shr1 {a : Nat} (h : a < 2 ^ 31) : ((nI a).toUInt32 >>> ((1 : Int32).toUInt32 &&& Int32.toUInt32 31)).toInt32 = nI (a / 2) := by
  apply Int32.toBitVec_inj.mp
  have h : ((nI a).toUInt32 >>> ((1 : Int32).toUInt32 &&& Int32.toUInt32 31)).toInt32.toBitVec = (BitVec.ofNat 32 a) >>> 1 := rfl
  rw [h]
  show _ = BitVec.ofNat 32 (a / 2)
  apply BitVec.eq_of_toNat_eq
  rw [BitVec.toNat_ushiftRight, BitVec.toNat_ofNat, BitVec.toNat_ofNat, Nat.shiftRight_eq_div_pow]
  omega
theorem nI_not (a : Nat) : nI a ^^^ 1 = nI (if a % 2 = 1 then a - 1 else a + 1) := by
  have h : (1 : Int32) = nI 1 := rfl
  rw [h, nI_xor]
  congr 1
  have h1 : (a ^^^ 1) / 2 = a / 2 := by rw [Nat.xor_div_two]; exact Nat.xor_zero _
  have h2 : (a ^^^ 1) % 2 = 1 ↔ ¬ (a % 2 = 1 ↔ 1 % 2 = 1) := Nat.xor_mod_two_eq_one
  split <;> omega
theorem nI_top {a t : Nat} (ht : t < 2) (ha : a < 2 ^ 31) : nI a &&& (nI t ||| (-2)) = nI (if t = 1 then a else a - a % 2) := by
  have h9 : (-2 : Int32) = nI (2 ^ 32 - 2) := by decide +kernel
  by_cases h : t = 1
  · subst h
    have h8 : nI 1 ||| (-2) = -1 := by decide +kernel
    rw [h8, if_pos rfl]
    exact Int32.and_neg_one
  · have h0 : t = 0 := by omega
    subst h0
    have h8 : nI 0 ||| (-2) = nI (2 ^ 32 - 2) := by decide +kernel
    rw [h8, if_neg h, nI_and]
    congr 1
    have h1 : (a &&& (2 ^ 32 - 2)) / 2 = a / 2 := by
      rw [Nat.and_div_two]
      have h7 : (2 ^ 32 - 2) / 2 = 2 ^ 31 - 1 := by decide
      rw [h7, Nat.and_two_pow_sub_one_eq_mod]
      omega
    have h2 : (a &&& (2 ^ 32 - 2)) % 2 = 0 := by
      have h3 : ¬ (a &&& (2 ^ 32 - 2)) % 2 = 1 := fun q => by
        have := (Nat.and_mod_two_eq_one.mp q).2
        omega
      omega
    omega
theorem nI_ort {a t : Nat} (ht : t < 2) : nI a ||| nI t = nI (if t = 1 then a - a % 2 + 1 else a) := by
  rw [nI_or]
  congr 1
  have h1 : (a ||| t) / 2 = a / 2 := by
    rw [Nat.or_div_two]
    have h7 : t / 2 = 0 := by omega
    rw [h7]; exact Nat.or_zero _
  have h2 : (a ||| t) % 2 = 1 ↔ a % 2 = 1 ∨ t % 2 = 1 := Nat.or_mod_two_eq_one
  split <;> omega
theorem rem_n {a b : Nat} (ha : a < 2 ^ 31) (hb : b < 2 ^ 31) (h0 : 0 < b) : nI a - nI a / nI b * nI b = nI (a % b) := by
  rw [nI_div ha hb h0, nI_mul, nI_sub (Nat.div_mul_le_self a b)]
  congr 1
  have := Nat.div_add_mod a b
  rw [Nat.mul_comm] at this
  omega
/-- the bits of a stack of truths, the top the lowest -/
def bv : List Bool → Nat
  | [] => 0
  | b :: r => 2 * bv r + cond b 1 0
theorem bv_lt : ∀ (l : List Bool) (n : Nat), l.length ≤ n → bv l < 2 ^ n
  | [], n, _ => Nat.two_pow_pos n
  | b :: r, 0, h => absurd h (by simp)
  | b :: r, n + 1, h => by
    have := bv_lt r n (by simpa using h)
    have h2 : bv (b :: r) ≤ 2 * bv r + 1 := by cases b <;> simp [bv]
    rw [Nat.pow_succ]
    omega
theorem bv_mod (b : Bool) (r : List Bool) : bv (b :: r) % 2 = cond b 1 0 := by cases b <;> simp [bv] <;> omega
theorem bv_div (b : Bool) (r : List Bool) : bv (b :: r) / 2 = bv r := by cases b <;> simp [bv] <;> omega
