/-! fractions in lowest terms -/
def iL (z : Int) : Int64 := Int64.ofInt z
theorem iL_toInt {z : Int} (h : -2 ^ 63 ≤ z) (h2 : z < 2 ^ 63) : (iL z).toInt = z := Int64.toInt_ofInt_of_le h h2
theorem iI_iL {z : Int} (h : -2 ^ 31 ≤ z) (h2 : z < 2 ^ 31) : (iI z).toInt64 = iL z := Int64.toInt_inj.mp (by rw [Int32.toInt_toInt64, iI_toInt h h2, iL_toInt (by omega) (by omega)])
theorem iL_add (a b : Int) : iL a + iL b = iL (a + b) := (Int64.ofInt_add a b).symm
theorem iL_neg (a : Int) : -iL a = iL (-a) := (Int64.ofInt_neg a).symm
theorem iL_eq0 {z : Int} (h : -2 ^ 63 ≤ z) (h2 : z < 2 ^ 63) : iL z = 0 ↔ z = 0 := by
  constructor
  · intro q
    have := congrArg Int64.toInt q
    rw [iL_toInt h h2] at this
    exact this
  · rintro rfl; rfl
theorem tdiv_rng {a b : Int} (h : -2 ^ 30 ≤ a) (h2 : a < 2 ^ 30) : -2 ^ 30 ≤ a.tdiv b ∧ a.tdiv b ≤ 2 ^ 30 := by
  have h3 : (a.tdiv b).natAbs ≤ a.natAbs := by
    rw [Int.natAbs_tdiv]
    exact Nat.div_le_self _ _
  omega
theorem iI_div {a b : Int} (h : -2 ^ 30 ≤ a) (h2 : a < 2 ^ 30) (h3 : 0 < b) (h4 : b < 2 ^ 30) : iI a / iI b = iI (a.tdiv b) := by
  have r := tdiv_rng (b := b) h h2
  apply Int32.toInt_inj.mp
  rw [Int32.toInt_div_of_ne_right, iI_toInt (by omega) (by omega), iI_toInt (by omega) (by omega), iI_toInt (by omega) (by omega)]
  intro q
  have := congrArg Int32.toInt q
  rw [iI_toInt (by omega) (by omega)] at this
  have h9 : (-1 : Int32).toInt = -1 := by decide
  rw [h9] at this
  omega
theorem iL_div {a b : Int} (h : -2 ^ 30 ≤ a) (h2 : a < 2 ^ 30) (h3 : 0 < b) (h4 : b < 2 ^ 30) : iL a / iL b = iL (a.tdiv b) := by
  have r := tdiv_rng (b := b) h h2
  apply Int64.toInt_inj.mp
  rw [Int64.toInt_div_of_ne_right, iL_toInt (by omega) (by omega), iL_toInt (by omega) (by omega), iL_toInt (by omega) (by omega)]
  intro q
  have := congrArg Int64.toInt q
  rw [iL_toInt (by omega) (by omega)] at this
  have h9 : (-1 : Int64).toInt = -1 := by decide
  rw [h9] at this
  omega
theorem iL_mul (a b : Int) : iL a * iL b = iL (a * b) := (Int64.ofInt_mul a b).symm
theorem iL_sub (a b : Int) : iL a - iL b = iL (a - b) := (Int64.ofInt_sub a b).symm
theorem lrem_n {a b : Nat} (ha : a < 2 ^ 30) (hb : b < 2 ^ 30) (h0 : 0 < b) : iL a - iL a / iL b * iL b = iL (a % b : Nat) := by
  rw [iL_div (by omega) (by omega) (by omega) (by omega), iL_mul, iL_sub]
  congr 1
  have e : (a : Int).tdiv b = (a / b : Nat) := (Int.ofNat_tdiv a b).symm
  rw [e]
  have := Nat.div_add_mod a b
  rw [Nat.mul_comm] at this
  have h9 : ((a / b * b : Nat) : Int) = ((a / b : Nat) : Int) * (b : Int) := Int.natCast_mul _ _
  rw [← h9]
  omega
theorem cmp_0 (x : Int64) : (lg_cmp x 0 = 0) ↔ x = 0 := by
  unfold lg_cmp
  by_cases a : x > 0
  · rw [if_pos a]
    refine ⟨fun q => absurd q (by decide), fun q => ?_⟩
    subst q
    exact absurd a (by decide)
  · rw [if_neg a]
    by_cases b : x = 0
    · rw [if_pos b]; exact ⟨fun _ => b, fun _ => rfl⟩
    · rw [if_neg b]; exact ⟨fun q => absurd q (by decide), fun q => absurd q b⟩
theorem cmp_ge {z : Int} (h : -2 ^ 30 ≤ z) (h2 : z < 2 ^ 30) : (0 ≤ lg_cmp (iL z) 0) ↔ 0 ≤ z := by
  have e0 : (0 : Int64) = iL 0 := rfl
  unfold lg_cmp
  have hl : (iL z > 0) ↔ 0 < z := by
    show (0 : Int64) < iL z ↔ 0 < z
    rw [e0, Int64.lt_iff_toInt_lt, iL_toInt (by omega) (by omega), iL_toInt (by omega) (by omega)]
  have he := iL_eq0 (z := z) (by omega) (by omega)
  by_cases a : iL z > 0
  · rw [if_pos a]
    have := hl.mp a
    exact ⟨fun _ => by omega, fun _ => by decide⟩
  · rw [if_neg a]
    by_cases b : iL z = 0
    · rw [if_pos b]
      have := he.mp b
      exact ⟨fun _ => by omega, fun _ => by decide⟩
    · rw [if_neg b]
      refine ⟨fun q => absurd q (by decide), fun q => ?_⟩
      have h1 : ¬ 0 < z := fun w => a (hl.mpr w)
      have h2 : ¬ z = 0 := fun w => b (he.mpr w)
      omega
theorem divisor_cls (d : Nat) (M : Mem) : ∀ (y x k : Nat), x < 2 ^ 30 → y + k ≤ 64 → X d jX5_commonDivisor 7 [none, none, some (vI (nI x)), some (vI (nI y)), some (vI (nI k)), none] [] M = some (some (vI (nI (Nat.gcd x y))), M) := by
  intro y
  induction y using Nat.strongRecOn with
  | _ y ih =>
    intro x k hx hk
    rw [B_X5_commonDivisor_7]
    by_cases c : y = 0
    · subst c
      rw [Nat.gcd_zero_right]
      have e0 : nI 0 ≤ 0 := by decide
      by_cases q : (64 : Int32) ≤ nI k
      · rw [if_pos q, B_X5_commonDivisor_34]
      · rw [if_neg q, if_pos e0, B_X5_commonDivisor_34]
    · have hm : x % y < y := Nat.mod_lt _ (by omega)
      have q : ¬ (64 : Int32) ≤ nI k := nI_ge (b := 64) (by omega) (by omega)
      rw [if_neg q, if_neg (nI_nle (by omega) (by omega)), if_neg (nI_ne0 (by omega) (by omega)), rem_n (by omega) (by omega) (by omega), nI_1, ih (x % y) hm y (k + 1) (by omega) (by omega)]
      rw [Nat.gcd_comm x y, Nat.gcd_rec y x, Nat.gcd_comm]
theorem divisor_ref (d : Nat) (N : Mem) (x4 : Int32) (x0 x2 : Int64) : ∀ (y x : Nat), x < 2 ^ 30 → y < 2 ^ 30 → X d jX6_lowest 17 [some (vL x0), none, some (vL x2), none, some (vI x4), some (vL (iL x)), none, some (vL (iL y)), none, none, none] [] N = X d jX6_lowest 42 [some (vL x0), none, some (vL x2), none, some (vI x4), some (vL (iL (Nat.gcd x y : Nat))), none, none, none, none, none] [] N := by
  intro y
  induction y using Nat.strongRecOn with
  | _ y ih =>
    intro x hx hy
    rw [B_X6_lowest_17]
    by_cases c : y = 0
    · subst c
      have z0 : lg_cmp (iL ((0 : Nat) : Int)) 0 = 0 := (cmp_0 _).mpr rfl
      rw [Nat.gcd_zero_right, if_pos z0]
    · have hm : x % y < y := Nat.mod_lt _ (by omega)
      have n0 : ¬ iL (y : Int) = 0 := fun q => c (by have := (iL_eq0 (z := (y : Int)) (by omega) (by omega)).mp q; omega)
      rw [if_neg (fun q => n0 ((cmp_0 _).mp q)), if_neg n0, lrem_n hx hy (by omega), ih (x % y) hm y hy (by omega)]
      rw [Nat.gcd_comm x y, Nat.gcd_rec y x, Nat.gcd_comm]
def frV (up : Int) (n : Nat) (part : Int32) : Int64 := if part = 0 then iL (up.tdiv (Nat.gcd up.natAbs n)) else iL ((n : Int).tdiv (Nat.gcd up.natAbs n))
theorem frac_cls (d : Nat) (M : Mem) {up : Int} {n : Nat} (h1 : -2 ^ 30 < up) (h2 : up < 2 ^ 30) (hn : 0 < n) (hn2 : n ≤ 64) (part : Int32) : XC (d + 2) jX5_inLowestTerms [vI (iI up), vI (nI n), vI part] M = if 0 ≤ part ∧ part ≤ 1 then some (some (vL (frV up n part)), M) else some (some (vL (-9223372036854775808)), M) := by
  have g0 : 0 < Nat.gcd up.natAbs n := Nat.gcd_pos_of_pos_right _ hn
  have g1 : Nat.gcd up.natAbs n ≤ n := Nat.le_of_dvd hn (Nat.gcd_dvd_right _ _)
  have ea : (if 0 ≤ iI up then iI up else 0 - iI up) = nI up.natAbs := by
    have e0 : (0 : Int32) = iI 0 := rfl
    rw [← iI_n]
    by_cases c : 0 ≤ up
    · rw [e0, if_pos ((iI_le (by omega) (by omega) (by omega) (by omega)).mpr c)]
      congr 1
      omega
    · rw [e0, if_neg (fun q => c ((iI_le (by omega) (by omega) (by omega) (by omega)).mp q)), iI_sub]
      congr 1
      omega
  rw [E_X5_inLowestTerms, rng, B_X5_inLowestTerms_9]
  by_cases p : 0 ≤ part ∧ part ≤ 1
  · have ec := divisor_cls d M n up.natAbs 0 (by omega) (by omega)
    have em : (if 1 < nI (Nat.gcd up.natAbs n) then nI (Nat.gcd up.natAbs n) else 1) = nI (Nat.gcd up.natAbs n) := by
      by_cases c : 1 < Nat.gcd up.natAbs n
      · have c2 : (1 : Int32) < nI (Nat.gcd up.natAbs n) := nI_lt (a := 1) c (by omega)
        rw [if_pos c2]
      · have : Nat.gcd up.natAbs n = 1 := by omega
        rw [this]; rfl
    have en : ∀ k : Nat, nI k = iI k := fun _ => rfl
    have r1 := tdiv_rng (a := up) (b := (Nat.gcd up.natAbs n : Nat)) (by omega) h2
    have r2 := tdiv_rng (a := (n : Int)) (b := (Nat.gcd up.natAbs n : Nat)) (by omega) (by omega)
    rw [if_pos p, if_pos p, B_X5_inLowestTerms_13, ea, E_X5_commonDivisor]
    have ec' : X d jX5_commonDivisor 7 [none, none, some (vI (nI up.natAbs)), some (vI (nI n)), some (vI 0), none] [] M = _ := ec
    rw [ec', bindI_some]
    try dsimp only
    rw [em]
    unfold frV
    by_cases c : part = 0
    · rw [if_pos c, if_pos c, B_X5_inLowestTerms_35, if_neg (nI_ne0 g0 (by omega)), en, iI_div (by omega) h2 (by omega) (by omega), iI_iL (by omega) (by omega)]
    · rw [if_neg c, if_neg c, B_X5_inLowestTerms_34, B_X5_inLowestTerms_35, if_neg (nI_ne0 g0 (by omega)), en, en, iI_div (by omega) (by omega) (by omega) (by omega), iI_iL (by omega) (by omega)]
  · rw [if_neg p, if_neg p]
theorem frac_ref (d : Nat) (N : Mem) {up : Int} {n : Nat} (h1 : -2 ^ 30 < up) (h2 : up < 2 ^ 30) (hn : 0 < n) (hn2 : n ≤ 64) (part : Int32) : XC (d + 1) jX6_lowest [vL (iL up), vL (iL n), vI part] N = some (some (vL (frV up n part)), N) := by
  have g0 : 0 < Nat.gcd up.natAbs n := Nat.gcd_pos_of_pos_right _ hn
  have g1 : Nat.gcd up.natAbs n ≤ n := Nat.le_of_dvd hn (Nat.gcd_dvd_right _ _)
  have n0 : ¬ iL ((Nat.gcd up.natAbs n : Nat) : Int) = 0 := fun q => by have := (iL_eq0 (z := ((Nat.gcd up.natAbs n : Nat) : Int)) (by omega) (by omega)).mp q; omega
  have fin : X d jX6_lowest 12 [some (vL (iL up)), none, some (vL (iL n)), none, some (vI part), none, none, none, none, none, none] [vL (iL (up.natAbs : Nat))] N = some (some (vL (frV up n part)), N) := by
    rw [B_X6_lowest_12, divisor_ref d N part _ _ n up.natAbs (by omega) (by omega), B_X6_lowest_42]
    unfold frV
    by_cases c : part = 0
    · rw [if_pos c, if_pos c, B_X6_lowest_52, if_neg n0, iL_div (by omega) h2 (by omega) (by omega)]
    · rw [if_neg c, if_neg c, B_X6_lowest_51, B_X6_lowest_52, if_neg n0, iL_div (by omega) (by omega) (by omega) (by omega)]
  rw [E_X6_lowest]
  by_cases c : 0 ≤ up
  · have e : up = (up.natAbs : Int) := by omega
    rw [if_pos ((cmp_ge (by omega) h2).mpr c), B_X6_lowest_11]
    have e2 : iL up = iL (up.natAbs : Int) := congrArg iL e
    rw [← e2] at fin
    exact fin
  · have e : -up = (up.natAbs : Int) := by omega
    rw [if_neg (fun q => c ((cmp_ge (by omega) h2).mp q)), iL_neg, e]
    exact fin
