/-! numbers: Int32 out of Int, small facts -/
theorem iI_n (n : Nat) : iI n = nI n := rfl
theorem iI_add (a b : Int) : iI a + iI b = iI (a + b) := (Int32.ofInt_add a b).symm
theorem iI_sub (a b : Int) : iI a - iI b = iI (a - b) := (Int32.ofInt_sub a b).symm
theorem iI_neg (a : Int) : -iI a = iI (-a) := (Int32.ofInt_neg a).symm
theorem iI_mul (a b : Int) : iI a * iI b = iI (a * b) := (Int32.ofInt_mul a b).symm
theorem iI_toInt {z : Int} (h : -2 ^ 31 ≤ z) (h2 : z < 2 ^ 31) : (iI z).toInt = z := Int32.toInt_ofInt_of_le h h2
theorem iI_cl {z : Int} (h : -2 ^ 31 ≤ z) (h2 : z < 2 ^ 31) : (iI z).toNatClampNeg = z.toNat := by
  have := iI_toInt h h2
  show (iI z).toInt.toNat = _
  rw [this]
theorem iI_le {a b : Int} (h : -2 ^ 31 ≤ a) (h2 : a < 2 ^ 31) (h3 : -2 ^ 31 ≤ b) (h4 : b < 2 ^ 31) : iI a ≤ iI b ↔ a ≤ b := by
  rw [Int32.le_iff_toInt_le, iI_toInt h h2, iI_toInt h3 h4]
theorem iI_lt {a b : Int} (h : -2 ^ 31 ≤ a) (h2 : a < 2 ^ 31) (h3 : -2 ^ 31 ≤ b) (h4 : b < 2 ^ 31) : iI a < iI b ↔ a < b := by
  rw [Int32.lt_iff_toInt_lt, iI_toInt h h2, iI_toInt h3 h4]
theorem nI_mul (a b : Nat) : nI a * nI b = nI (a * b) := (Int32.ofNat_mul a b).symm
theorem nI_sub {a b : Nat} (h : b ≤ a) : nI a - nI b = nI (a - b) := by
  rw [← iI_n, ← iI_n, iI_sub, ← iI_n]
  congr 1
  omega
theorem nI_div {a b : Nat} (ha : a < 2 ^ 31) (hb : b < 2 ^ 31) (h0 : 0 < b) : nI a / nI b = nI (a / b) := by
  apply Int32.toInt_inj.mp
  rw [Int32.toInt_div_of_ne_right, nI_toInt ha, nI_toInt hb, nI_toInt (Nat.lt_of_le_of_lt (Nat.div_le_self _ _) ha)]
  · exact (Int.ofNat_tdiv a b).symm
  · intro q
    have := congrArg Int32.toInt q
    rw [nI_toInt hb] at this
    have h9 : (-1 : Int32).toInt = -1 := by decide
    rw [h9] at this
    omega
theorem nI_mod {a b : Nat} (ha : a < 2 ^ 31) (hb : b < 2 ^ 31) (h0 : 0 < b) : nI a % nI b = nI (a % b) := by
  apply Int32.toInt_inj.mp
  rw [Int32.toInt_mod, nI_toInt ha, nI_toInt hb, nI_toInt (Nat.lt_of_le_of_lt (Nat.mod_le _ _) ha)]
  exact (Int.ofNat_tmod a b).symm
/-- a number above 0 as Java's max makes it -/
theorem nI_max {z : Int} (h : -2 ^ 31 ≤ z) (h2 : z < 2 ^ 31) : (if (0 : Int32) ≤ iI z then iI z else 0) = nI z.toNat := by
  have h9 : (0 : Int32) = iI 0 := rfl
  by_cases h3 : 0 ≤ z
  · rw [h9, if_pos ((iI_le (by decide) (by decide) h h2).mpr h3), ← iI_n]
    congr 1
    omega
  · rw [h9, if_neg (fun q => h3 ((iI_le (by decide) (by decide) h h2).mp q))]
    have : z.toNat = 0 := by omega
    rw [this]; rfl
