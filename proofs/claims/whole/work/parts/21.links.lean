/-! what the instructions' operands link to -/
def TO (c : Nat) : u_T := match clsT[c]? with
  | some q => q.2.1
  | none => TX0
def strX : List String := ["ease ", "weary ", "loud ", "draught ", "skvntb", "<=>"]
def strTab : List (String × Nat × Nat) := [(RX2, 49, 0), (RX2, 100, 4), (RX2, 106, 5), (RX2, 59, 1), (RX2, 61, 2), (RX2, 63, 3), (RX6, 111, 0), (RX6, 117, 1), (RX6, 119, 2), (RX6, 93, 4), (RX6, 99, 5), (RX6, 124, 3)]
def nstM : List (String × Nat × MethodName) := [(RX2, 32, yX3_clear), (RX1, 93, yX5_hasBit)]
def nstF : List (String × Nat × Nat) := [(RX0, 23, 2), (RX0, 30, 1)]
def staN : List String := ["CHORD_ABOVE", "KIND_ABOVE", "BODIES"]

/-- the operand of a row of a method of the class own -/
def nFl : List Nat := [5, 15, 4, 9, 12, 11, 23]
def inF (a b : Nat) : Bool := Nat.blt a 7 && Nat.blt b (nFl.getD a 0)
def retT : Nat → Option FieldType
  | 1 => some .int
  | 2 => some .boolean
  | 3 => some .char
  | 4 => some .byte
  | _ => none
def lenO : Instr → Nat
  | .bipush _ => 2
  | .sipush _ => 3
  | .ldc _ => 2
  | .ldc_w _ => 3
  | .ldc2_w _ => 3
  | .iload _ => 2
  | .lload _ => 2
  | .aload _ => 2
  | .istore _ => 2
  | .lstore _ => 2
  | .astore _ => 2
  | .iinc _ _ => 3
  | .goto _ => 3
  | .ifCond _ _ => 3
  | .if_icmp _ _ => 3
  | .tableswitch _ _ _ _ => 0
  | .lookupswitch _ _ => 0
  | .getfield _ => 3
  | .putfield _ => 3
  | .getstatic _ => 3
  | .invokevirtual _ => 3
  | .invokestatic _ => 3
  | .invokespecial _ => 3
  | .new _ => 3
  | _ => 1
def lnB (l : List CE) : Bool := l.all fun q => lenO q.2.2.1 == 0 || lenO q.2.2.1 == q.2.1
def eok (j : Nat) : CE → Prop
  | (_, _, .getfield i, a, b, _) => if a = 20 then Nat.ble b 1 = true ∧ Cond.fieldLink (owO j) i "java/lang/String" (if b = 0 then "value" else "coder") (if b = 0 then "[B" else "B") ∈ wBig else inF a b = true ∧ Cond.fieldLink (owO j) i (TO a b).1 (TO a b).2.1 (TO a b).2.2.1 ∈ wBig
  | (_, _, .putfield i, a, b, _) => inF a b = true ∧ Cond.fieldLink (owO j) i (TO a b).1 (TO a b).2.1 (TO a b).2.2.1 ∈ wBig
  | (_, _, .getstatic i, a, b, _) => if a = 0 then Cond.fieldLink (owO j) i "java/lang/String" "COMPACT_STRINGS" "Z" ∈ wBig else if a = 1 then Nat.blt b 3 = true ∧ ((owO j, i, b) ∈ nstF ∨ Cond.fieldLink (owO j) i "ChoirRoof" (staN.getD b "") "[I" ∈ wBig) else if a = 2 then Cond.fieldLink (owO j) i "jdk/internal/util/Preconditions" "SIOOBE_FORMATTER" "Ljava/util/function/BiFunction;" ∈ wBig else True
  | (_, _, .ldc i, a, b, _) => if a = 1 then (owO j, i, b) ∈ strTab else Cond.constant (owO j) i (Int32.ofNat b) ∈ wBig
  | (_, _, .ldc_w i, _, b, _) => Cond.constant (owO j) i (Int32.ofNat b) ∈ wBig
  | (_, _, .ldc2_w i, _, _, _) => Cond.constantLong (owO j) i (-9223372036854775808) ∈ wBig
  | (_, _, .invokevirtual i, a, _, _) => ((owO j, i, yO a) ∈ nstM ∨ Cond.methodLink (owO j) i (yO a) ∈ wBig)
  | (_, _, .invokestatic i, a, _, _) => if a = 1000 then Cond.methodLink (owO j) i Lib.Math.min.name ∈ wBig else if a = 1001 then Cond.methodLink (owO j) i Lib.Math.max.name ∈ wBig else if a = 1002 then Cond.methodLink (owO j) i Lib.Math.abs.name ∈ wBig else if a = 1003 then Cond.methodLink (owO j) i arraycopyName ∈ wBig else if a = 2000 then True else ((owO j, i, yO a) ∈ nstM ∨ Cond.methodLink (owO j) i (yO a) ∈ wBig)
  | (pc, _, .goto o, _, _, _) => decide (0 ≤ (pc : Int) + o) = true
  | (pc, _, .ifCond _ o, _, _, _) => decide (0 ≤ (pc : Int) + o) = true
  | (pc, _, .if_icmp _ o, _, _, _) => decide (0 ≤ (pc : Int) + o) = true
  | (pc, _, .tableswitch d lo hi offs, _, _, _) => (decide (hi = lo + offs.size - 1) && decide (-1000 ≤ lo) && decide (hi ≤ 1000) && decide (0 ≤ (pc : Int) + d) && offs.toList.all (fun o => decide (0 ≤ (pc : Int) + o))) = true
  | (pc, _, .lookupswitch d ps, _, _, _) => ((ps.toList.zip (ps.toList.drop 1)).all (fun (a, next) => a.1 < next.1) && decide (0 ≤ (pc : Int) + d) && ps.toList.all (fun q => decide (0 ≤ (pc : Int) + q.2) && decide (-1000 ≤ q.1) && decide (q.1 ≤ 1000))) = true
  | (_, _, .ireturn, a, _, _) => retT a = reO j
  | (_, _, .lreturn, _, _, _) => some .long = reO j
  | (_, _, .return_, _, _, _) => none = reO j
  | _ => True
def eoks (j : Nat) : List CE → Prop
  | [] => True
  | q :: r => eok j q ∧ eoks j r
theorem lRJ6_265 : Cond.constant RJ6 265 (Int32.ofNat 1431655765) ∈ wBig := wb3 (i := 111) rfl rfl
theorem lRJ6_266 : Cond.constant RJ6 266 (Int32.ofNat 858993459) ∈ wBig := wb3 (i := 112) rfl rfl
theorem lRJ6_267 : Cond.constant RJ6 267 (Int32.ofNat 252645135) ∈ wBig := wb3 (i := 113) rfl rfl
theorem lRJ0_9 : Cond.fieldLink RJ0 9 "java/lang/String" "value" "[B" ∈ wBig := wb6 (i := 85) rfl rfl
theorem lRJ0_335 : ((RJ0, 335, yO 6) ∈ nstM ∨ Cond.methodLink RJ0 335 (yO 6) ∈ wBig) := Or.inr (wb2 (i := 63) rfl rfl)
theorem lRJ0_492 : ((RJ0, 492, yO 7) ∈ nstM ∨ Cond.methodLink RJ0 492 (yO 7) ∈ wBig) := Or.inr (wb2 (i := 73) rfl rfl)
theorem lRJ0_495 : ((RJ0, 495, yO 9) ∈ nstM ∨ Cond.methodLink RJ0 495 (yO 9) ∈ wBig) := Or.inr (wb2 (i := 77) rfl rfl)
theorem lRJ0_633 : ((RJ0, 633, yO 5) ∈ nstM ∨ Cond.methodLink RJ0 633 (yO 5) ∈ wBig) := Or.inr (wb2 (i := 144) rfl rfl)
theorem lRJ0_505 : ((RJ0, 505, yO 2) ∈ nstM ∨ Cond.methodLink RJ0 505 (yO 2) ∈ wBig) := Or.inr (wb2 (i := 148) rfl rfl)
theorem lRJ0_637 : ((RJ0, 637, yO 11) ∈ nstM ∨ Cond.methodLink RJ0 637 (yO 11) ∈ wBig) := Or.inr (wb2 (i := 149) rfl rfl)
theorem lRJ0_38 : Cond.fieldLink RJ0 38 "java/lang/String" "COMPACT_STRINGS" "Z" ∈ wBig := wb2 (i := 67) rfl rfl
theorem lRJ0_15 : Cond.fieldLink RJ0 15 "java/lang/String" "coder" "B" ∈ wBig := wb6 (i := 86) rfl rfl
theorem lRJ0_1053 : Cond.fieldLink RJ0 1053 "jdk/internal/util/Preconditions" "SIOOBE_FORMATTER" "Ljava/util/function/BiFunction;" ∈ wBig := wb2 (i := 83) rfl rfl
theorem lRJ0_1059 : ((RJ0, 1059, yO 13) ∈ nstM ∨ Cond.methodLink RJ0 1059 (yO 13) ∈ wBig) := Or.inr (wb2 (i := 85) rfl rfl)
theorem lRJ1_9 : ((RJ1, 9, yO 8) ∈ nstM ∨ Cond.methodLink RJ1 9 (yO 8) ∈ wBig) := Or.inr (wb2 (i := 80) rfl rfl)
theorem lRJ1_88 : ((RJ1, 88, yO 10) ∈ nstM ∨ Cond.methodLink RJ1 88 (yO 10) ∈ wBig) := Or.inr (wb2 (i := 152) rfl rfl)
theorem lRJ1_92 : Cond.methodLink RJ1 92 Lib.Math.max.name ∈ wBig := wb2 (i := 155) rfl rfl
theorem lRJ1_38 : Cond.methodLink RJ1 38 Lib.Math.min.name ∈ wBig := wb2 (i := 158) rfl rfl
theorem lRJ1_95 : ((RJ1, 95, yO 12) ∈ nstM ∨ Cond.methodLink RJ1 95 (yO 12) ∈ wBig) := Or.inr (wb2 (i := 159) rfl rfl)
theorem lRX0_15 : Cond.fieldLink RX0 15 (TO 0 1).1 (TO 0 1).2.1 (TO 0 1).2.2.1 ∈ wBig := wb1 (i := 54) rfl rfl
theorem lRX0_19 : ((RX0, 19, yO 15) ∈ nstM ∨ Cond.methodLink RX0 19 (yO 15) ∈ wBig) := Or.inr (wb4 (i := 52) rfl rfl)
theorem lRX0_23 : ((RX0, 23, 2) ∈ nstF ∨ Cond.fieldLink RX0 23 "ChoirRoof" (staN.getD 2 "") "[I" ∈ wBig) := Or.inl (by decide +kernel)
theorem lRX0_26 : ((RX0, 26, yO 16) ∈ nstM ∨ Cond.methodLink RX0 26 (yO 16) ∈ wBig) := Or.inr (wb4 (i := 58) rfl rfl)
theorem lRX0_30 : ((RX0, 30, 1) ∈ nstF ∨ Cond.fieldLink RX0 30 "ChoirRoof" (staN.getD 1 "") "[I" ∈ wBig) := Or.inl (by decide +kernel)
theorem lRX0_33 : Cond.fieldLink RX0 33 (TO 0 3).1 (TO 0 3).2.1 (TO 0 3).2.2.1 ∈ wBig := wb1 (i := 58) rfl rfl
theorem lRX0_9 : Cond.fieldLink RX0 9 (TO 0 4).1 (TO 0 4).2.1 (TO 0 4).2.2.1 ∈ wBig := wb1 (i := 60) rfl rfl
theorem lRX0_36 : Cond.fieldLink RX0 36 (TO 0 0).1 (TO 0 0).2.1 (TO 0 0).2.2.1 ∈ wBig := wb1 (i := 52) rfl rfl
theorem lRX0_39 : Cond.fieldLink RX0 39 (TO 0 2).1 (TO 0 2).2.1 (TO 0 2).2.2.1 ∈ wBig := wb1 (i := 56) rfl rfl
theorem lRX1_49 : Cond.fieldLink RX1 49 (TO 1 0).1 (TO 1 0).2.1 (TO 1 0).2.2.1 ∈ wBig := wb1 (i := 176) rfl rfl
theorem lRX1_53 : Cond.fieldLink RX1 53 (TO 1 1).1 (TO 1 1).2.1 (TO 1 1).2.2.1 ∈ wBig := wb1 (i := 178) rfl rfl
theorem lRX1_56 : Cond.fieldLink RX1 56 (TO 1 2).1 (TO 1 2).2.1 (TO 1 2).2.2.1 ∈ wBig := wb1 (i := 180) rfl rfl
theorem lRX1_45 : Cond.fieldLink RX1 45 (TO 1 3).1 (TO 1 3).2.1 (TO 1 3).2.2.1 ∈ wBig := wb1 (i := 182) rfl rfl
theorem lRX1_9 : Cond.fieldLink RX1 9 (TO 1 4).1 (TO 1 4).2.1 (TO 1 4).2.2.1 ∈ wBig := wb1 (i := 184) rfl rfl
theorem lRX1_59 : Cond.methodLink RX1 59 arraycopyName ∈ wBig := wb3 (i := 122) rfl rfl
theorem lRX1_15 : Cond.fieldLink RX1 15 (TO 1 5).1 (TO 1 5).2.1 (TO 1 5).2.2.1 ∈ wBig := wb1 (i := 186) rfl rfl
theorem lRX1_18 : Cond.fieldLink RX1 18 (TO 1 6).1 (TO 1 6).2.1 (TO 1 6).2.2.1 ∈ wBig := wb1 (i := 188) rfl rfl
theorem lRX1_21 : Cond.fieldLink RX1 21 (TO 1 7).1 (TO 1 7).2.1 (TO 1 7).2.2.1 ∈ wBig := wb1 (i := 190) rfl rfl
theorem lRX1_24 : Cond.fieldLink RX1 24 (TO 1 8).1 (TO 1 8).2.1 (TO 1 8).2.2.1 ∈ wBig := wb1 (i := 192) rfl rfl
theorem lRX1_27 : Cond.fieldLink RX1 27 (TO 1 9).1 (TO 1 9).2.1 (TO 1 9).2.2.1 ∈ wBig := wb1 (i := 194) rfl rfl
theorem lRX1_30 : Cond.fieldLink RX1 30 (TO 1 10).1 (TO 1 10).2.1 (TO 1 10).2.2.1 ∈ wBig := wb1 (i := 196) rfl rfl
theorem lRX1_33 : Cond.fieldLink RX1 33 (TO 1 11).1 (TO 1 11).2.1 (TO 1 11).2.2.1 ∈ wBig := wb1 (i := 198) rfl rfl
theorem lRX1_36 : Cond.fieldLink RX1 36 (TO 1 12).1 (TO 1 12).2.1 (TO 1 12).2.2.1 ∈ wBig := wb1 (i := 200) rfl rfl
theorem lRX1_65 : Cond.methodLink RX1 65 Lib.Math.min.name ∈ wBig := wb3 (i := 46) rfl rfl
theorem lRX1_71 : ((RX1, 71, yO 20) ∈ nstM ∨ Cond.methodLink RX1 71 (yO 20) ∈ wBig) := Or.inr (wb3 (i := 42) rfl rfl)
theorem lRX1_39 : Cond.fieldLink RX1 39 (TO 1 13).1 (TO 1 13).2.1 (TO 1 13).2.2.1 ∈ wBig := wb1 (i := 202) rfl rfl
theorem lRX1_75 : ((RX1, 75, yO 24) ∈ nstM ∨ Cond.methodLink RX1 75 (yO 24) ∈ wBig) := Or.inr (wb2 (i := 230) rfl rfl)
theorem lRX1_42 : Cond.fieldLink RX1 42 (TO 1 14).1 (TO 1 14).2.1 (TO 1 14).2.2.1 ∈ wBig := wb1 (i := 204) rfl rfl
theorem lRX1_78 : ((RX1, 78, yO 25) ∈ nstM ∨ Cond.methodLink RX1 78 (yO 25) ∈ wBig) := Or.inr (wb2 (i := 234) rfl rfl)
theorem lRX1_81 : ((RX1, 81, yO 53) ∈ nstM ∨ Cond.methodLink RX1 81 (yO 53) ∈ wBig) := Or.inr (wb2 (i := 238) rfl rfl)
theorem lRX1_87 : Cond.methodLink RX1 87 Lib.Math.max.name ∈ wBig := wb3 (i := 10) rfl rfl
theorem lRX1_90 : Cond.methodLink RX1 90 Lib.Math.abs.name ∈ wBig := wb3 (i := 23) rfl rfl
theorem lRX1_93 : ((RX1, 93, yO 98) ∈ nstM ∨ Cond.methodLink RX1 93 (yO 98) ∈ wBig) := Or.inl (by decide +kernel)
theorem lRX1_97 : ((RX1, 97, yO 26) ∈ nstM ∨ Cond.methodLink RX1 97 (yO 26) ∈ wBig) := Or.inr (wb3 (i := 19) rfl rfl)
theorem lRX1_100 : ((RX1, 100, yO 27) ∈ nstM ∨ Cond.methodLink RX1 100 (yO 27) ∈ wBig) := Or.inr (wb3 (i := 77) rfl rfl)
theorem lRX1_103 : ((RX1, 103, yO 23) ∈ nstM ∨ Cond.methodLink RX1 103 (yO 23) ∈ wBig) := Or.inr (wb3 (i := 71) rfl rfl)
theorem lRX1_106 : ((RX1, 106, yO 22) ∈ nstM ∨ Cond.methodLink RX1 106 (yO 22) ∈ wBig) := Or.inr (wb3 (i := 72) rfl rfl)
theorem lRX1_110 : ((RX1, 110, yO 28) ∈ nstM ∨ Cond.methodLink RX1 110 (yO 28) ∈ wBig) := Or.inr (wb3 (i := 73) rfl rfl)
theorem lRX1_113 : ((RX1, 113, yO 30) ∈ nstM ∨ Cond.methodLink RX1 113 (yO 30) ∈ wBig) := Or.inr (wb3 (i := 82) rfl rfl)
theorem lRX1_117 : ((RX1, 117, yO 32) ∈ nstM ∨ Cond.methodLink RX1 117 (yO 32) ∈ wBig) := Or.inr (wb3 (i := 107) rfl rfl)
theorem lRX1_120 : Cond.fieldLink RX1 120 (TO 3 2).1 (TO 3 2).2.1 (TO 3 2).2.2.1 ∈ wBig := wb1 (i := 142) rfl rfl
theorem lRX1_123 : Cond.fieldLink RX1 123 (TO 3 3).1 (TO 3 3).2.1 (TO 3 3).2.2.1 ∈ wBig := wb1 (i := 145) rfl rfl
theorem lRX1_126 : ((RX1, 126, yO 1) ∈ nstM ∨ Cond.methodLink RX1 126 (yO 1) ∈ wBig) := Or.inr (wb3 (i := 108) rfl rfl)
theorem lRX1_131 : ((RX1, 131, yO 21) ∈ nstM ∨ Cond.methodLink RX1 131 (yO 21) ∈ wBig) := Or.inr (wb3 (i := 209) rfl rfl)
theorem lRX2_9 : Cond.fieldLink RX2 9 (TO 2 0).1 (TO 2 0).2.1 (TO 2 0).2.2.1 ∈ wBig := wb1 (i := 32) rfl rfl
theorem lRX2_15 : Cond.methodLink RX2 15 Lib.Math.min.name ∈ wBig := wb2 (i := 42) rfl rfl
theorem lRX2_21 : Cond.fieldLink RX2 21 (TO 2 1).1 (TO 2 1).2.1 (TO 2 1).2.2.1 ∈ wBig := wb1 (i := 33) rfl rfl
theorem lRX2_25 : Cond.fieldLink RX2 25 (TO 2 2).1 (TO 2 2).2.1 (TO 2 2).2.2.1 ∈ wBig := wb1 (i := 34) rfl rfl
theorem lRX2_28 : Cond.fieldLink RX2 28 (TO 2 3).1 (TO 2 3).2.1 (TO 2 3).2.2.1 ∈ wBig := wb1 (i := 35) rfl rfl
theorem lRX2_32 : ((RX2, 32, yO 50) ∈ nstM ∨ Cond.methodLink RX2 32 (yO 50) ∈ wBig) := Or.inl (by decide +kernel)
theorem lRX2_37 : ((RX2, 37, yO 41) ∈ nstM ∨ Cond.methodLink RX2 37 (yO 41) ∈ wBig) := Or.inr (wb2 (i := 46) rfl rfl)
theorem lRX2_41 : ((RX2, 41, yO 40) ∈ nstM ∨ Cond.methodLink RX2 41 (yO 40) ∈ wBig) := Or.inr (wb2 (i := 107) rfl rfl)
theorem lRX2_45 : ((RX2, 45, yO 39) ∈ nstM ∨ Cond.methodLink RX2 45 (yO 39) ∈ wBig) := Or.inr (wb2 (i := 50) rfl rfl)
theorem lRX2_49 : (RX2, 49, 0) ∈ strTab := by decide +kernel
theorem lRX2_51 : ((RX2, 51, yO 42) ∈ nstM ∨ Cond.methodLink RX2 51 (yO 42) ∈ wBig) := Or.inr (wb2 (i := 55) rfl rfl)
theorem lRX2_55 : ((RX2, 55, yO 43) ∈ nstM ∨ Cond.methodLink RX2 55 (yO 43) ∈ wBig) := Or.inr (wb2 (i := 111) rfl rfl)
theorem lRX2_59 : (RX2, 59, 1) ∈ strTab := by decide +kernel
theorem lRX2_61 : (RX2, 61, 2) ∈ strTab := by decide +kernel
theorem lRX2_63 : (RX2, 63, 3) ∈ strTab := by decide +kernel
theorem lRX2_65 : ((RX2, 65, yO 2) ∈ nstM ∨ Cond.methodLink RX2 65 (yO 2) ∈ wBig) := Or.inr (wb2 (i := 59) rfl rfl)
theorem lRX2_70 : ((RX2, 70, yO 3) ∈ nstM ∨ Cond.methodLink RX2 70 (yO 3) ∈ wBig) := Or.inr (wb2 (i := 69) rfl rfl)
theorem lRX2_74 : ((RX2, 74, yO 44) ∈ nstM ∨ Cond.methodLink RX2 74 (yO 44) ∈ wBig) := Or.inr (wb2 (i := 115) rfl rfl)
theorem lRX2_77 : Cond.fieldLink RX2 77 (TO 3 1).1 (TO 3 1).2.1 (TO 3 1).2.2.1 ∈ wBig := wb1 (i := 139) rfl rfl
theorem lRX2_80 : ((RX2, 80, yO 45) ∈ nstM ∨ Cond.methodLink RX2 80 (yO 45) ∈ wBig) := Or.inr (wb2 (i := 119) rfl rfl)
theorem lRX2_83 : ((RX2, 83, yO 52) ∈ nstM ∨ Cond.methodLink RX2 83 (yO 52) ∈ wBig) := Or.inr (wb2 (i := 202) rfl rfl)
theorem lRX2_87 : ((RX2, 87, yO 46) ∈ nstM ∨ Cond.methodLink RX2 87 (yO 46) ∈ wBig) := Or.inr (wb2 (i := 123) rfl rfl)
theorem lRX2_90 : ((RX2, 90, yO 51) ∈ nstM ∨ Cond.methodLink RX2 90 (yO 51) ∈ wBig) := Or.inr (wb2 (i := 198) rfl rfl)
theorem lRX2_94 : ((RX2, 94, yO 47) ∈ nstM ∨ Cond.methodLink RX2 94 (yO 47) ∈ wBig) := Or.inr (wb2 (i := 127) rfl rfl)
theorem lRX2_97 : ((RX2, 97, yO 48) ∈ nstM ∨ Cond.methodLink RX2 97 (yO 48) ∈ wBig) := Or.inr (wb2 (i := 131) rfl rfl)
theorem lRX2_100 : (RX2, 100, 4) ∈ strTab := by decide +kernel
theorem lRX2_102 : ((RX2, 102, yO 49) ∈ nstM ∨ Cond.methodLink RX2 102 (yO 49) ∈ wBig) := Or.inr (wb2 (i := 136) rfl rfl)
theorem lRX2_106 : (RX2, 106, 5) ∈ strTab := by decide +kernel
theorem lRX2_108 : ((RX2, 108, yO 4) ∈ nstM ∨ Cond.methodLink RX2 108 (yO 4) ∈ wBig) := Or.inr (wb2 (i := 140) rfl rfl)
theorem lRX3_30 : Cond.fieldLink RX3 30 (TO 3 0).1 (TO 3 0).2.1 (TO 3 0).2.2.1 ∈ wBig := wb1 (i := 137) rfl rfl
theorem lRX3_34 : Cond.fieldLink RX3 34 (TO 3 1).1 (TO 3 1).2.1 (TO 3 1).2.2.1 ∈ wBig := wb1 (i := 138) rfl rfl
theorem lRX3_37 : Cond.fieldLink RX3 37 (TO 3 2).1 (TO 3 2).2.1 (TO 3 2).2.2.1 ∈ wBig := wb1 (i := 140) rfl rfl
theorem lRX3_40 : Cond.fieldLink RX3 40 (TO 3 3).1 (TO 3 3).2.1 (TO 3 3).2.2.1 ∈ wBig := wb1 (i := 143) rfl rfl
theorem lRX3_24 : Cond.fieldLink RX3 24 (TO 3 8).1 (TO 3 8).2.1 (TO 3 8).2.2.1 ∈ wBig := wb1 (i := 150) rfl rfl
theorem lRX3_9 : Cond.fieldLink RX3 9 (TO 3 4).1 (TO 3 4).2.1 (TO 3 4).2.2.1 ∈ wBig := wb1 (i := 146) rfl rfl
theorem lRX3_15 : Cond.fieldLink RX3 15 (TO 3 5).1 (TO 3 5).2.1 (TO 3 5).2.2.1 ∈ wBig := wb1 (i := 147) rfl rfl
theorem lRX3_18 : Cond.fieldLink RX3 18 (TO 3 6).1 (TO 3 6).2.1 (TO 3 6).2.2.1 ∈ wBig := wb1 (i := 148) rfl rfl
theorem lRX3_21 : Cond.fieldLink RX3 21 (TO 3 7).1 (TO 3 7).2.1 (TO 3 7).2.2.1 ∈ wBig := wb1 (i := 149) rfl rfl
theorem lRX3_43 : ((RX3, 43, yO 54) ∈ nstM ∨ Cond.methodLink RX3 43 (yO 54) ∈ wBig) := Or.inr (wb3 (i := 2) rfl rfl)
theorem lRX3_47 : Cond.methodLink RX3 47 Lib.Math.min.name ∈ wBig := wb3 (i := 6) rfl rfl
theorem lRX3_53 : ((RX3, 53, yO 0) ∈ nstM ∨ Cond.methodLink RX3 53 (yO 0) ∈ wBig) := Or.inr (wb3 (i := 7) rfl rfl)
theorem lRX4_33 : Cond.fieldLink RX4 33 (TO 4 0).1 (TO 4 0).2.1 (TO 4 0).2.2.1 ∈ wBig := wb1 (i := 79) rfl rfl
theorem lRX4_37 : Cond.fieldLink RX4 37 (TO 4 1).1 (TO 4 1).2.1 (TO 4 1).2.2.1 ∈ wBig := wb1 (i := 81) rfl rfl
theorem lRX4_40 : Cond.fieldLink RX4 40 (TO 4 2).1 (TO 4 2).2.1 (TO 4 2).2.2.1 ∈ wBig := wb1 (i := 83) rfl rfl
theorem lRX4_43 : Cond.fieldLink RX4 43 (TO 4 3).1 (TO 4 3).2.1 (TO 4 3).2.2.1 ∈ wBig := wb1 (i := 85) rfl rfl
theorem lRX4_46 : Cond.fieldLink RX4 46 (TO 4 4).1 (TO 4 4).2.1 (TO 4 4).2.2.1 ∈ wBig := wb1 (i := 87) rfl rfl
theorem lRX4_9 : Cond.fieldLink RX4 9 (TO 4 5).1 (TO 4 5).2.1 (TO 4 5).2.2.1 ∈ wBig := wb1 (i := 89) rfl rfl
theorem lRX4_49 : Cond.methodLink RX4 49 arraycopyName ∈ wBig := wb4 (i := 81) rfl rfl
theorem lRX4_15 : Cond.fieldLink RX4 15 (TO 4 6).1 (TO 4 6).2.1 (TO 4 6).2.2.1 ∈ wBig := wb1 (i := 91) rfl rfl
theorem lRX4_18 : Cond.fieldLink RX4 18 (TO 4 7).1 (TO 4 7).2.1 (TO 4 7).2.2.1 ∈ wBig := wb1 (i := 93) rfl rfl
theorem lRX4_21 : Cond.fieldLink RX4 21 (TO 4 8).1 (TO 4 8).2.1 (TO 4 8).2.2.1 ∈ wBig := wb1 (i := 95) rfl rfl
theorem lRX4_24 : Cond.fieldLink RX4 24 (TO 4 9).1 (TO 4 9).2.1 (TO 4 9).2.2.1 ∈ wBig := wb1 (i := 97) rfl rfl
theorem lRX4_27 : Cond.fieldLink RX4 27 (TO 4 10).1 (TO 4 10).2.1 (TO 4 10).2.2.1 ∈ wBig := wb1 (i := 99) rfl rfl
theorem lRX4_30 : Cond.fieldLink RX4 30 (TO 4 11).1 (TO 4 11).2.1 (TO 4 11).2.2.1 ∈ wBig := wb1 (i := 101) rfl rfl
theorem lRX5_34 : Cond.fieldLink RX5 34 (TO 5 6).1 (TO 5 6).2.1 (TO 5 6).2.2.1 ∈ wBig := wb2 (i := 2) rfl rfl
theorem lRX5_64 : Cond.fieldLink RX5 64 (TO 4 0).1 (TO 4 0).2.1 (TO 4 0).2.2.1 ∈ wBig := wb1 (i := 80) rfl rfl
theorem lRX5_68 : Cond.fieldLink RX5 68 (TO 4 5).1 (TO 4 5).2.1 (TO 4 5).2.2.1 ∈ wBig := wb1 (i := 90) rfl rfl
theorem lRX5_71 : Cond.fieldLink RX5 71 (TO 4 1).1 (TO 4 1).2.1 (TO 4 1).2.2.1 ∈ wBig := wb1 (i := 82) rfl rfl
theorem lRX5_13 : Cond.fieldLink RX5 13 (TO 5 0).1 (TO 5 0).2.1 (TO 5 0).2.2.1 ∈ wBig := wb1 (i := 236) rfl rfl
theorem lRX5_20 : Cond.fieldLink RX5 20 (TO 5 1).1 (TO 5 1).2.1 (TO 5 1).2.2.1 ∈ wBig := wb1 (i := 237) rfl rfl
theorem lRX5_73 : ((RX5, 73, yO 38) ∈ nstM ∨ Cond.methodLink RX5 73 (yO 38) ∈ wBig) := Or.inr (wb2 (i := 38) rfl rfl)
theorem lRX5_54 : Cond.fieldLink RX5 54 (TO 5 3).1 (TO 5 3).2.1 (TO 5 3).2.2.1 ∈ wBig := wb1 (i := 239) rfl rfl
theorem lRX5_77 : Cond.fieldLink RX5 77 (TO 1 3).1 (TO 1 3).2.1 (TO 1 3).2.2.1 ∈ wBig := wb1 (i := 183) rfl rfl
theorem lRX5_81 : Cond.fieldLink RX5 81 (TO 1 0).1 (TO 1 0).2.1 (TO 1 0).2.2.1 ∈ wBig := wb1 (i := 177) rfl rfl
theorem lRX5_84 : ((RX5, 84, yO 18) ∈ nstM ∨ Cond.methodLink RX5 84 (yO 18) ∈ wBig) := Or.inr (wb2 (i := 214) rfl rfl)
theorem lRX5_88 : ((RX5, 88, yO 96) ∈ nstM ∨ Cond.methodLink RX5 88 (yO 96) ∈ wBig) := Or.inr (wb2 (i := 222) rfl rfl)
theorem lRX5_92 : Cond.fieldLink RX5 92 (TO 1 7).1 (TO 1 7).2.1 (TO 1 7).2.2.1 ∈ wBig := wb1 (i := 191) rfl rfl
theorem lRX5_95 : ((RX5, 95, yO 23) ∈ nstM ∨ Cond.methodLink RX5 95 (yO 23) ∈ wBig) := Or.inr (wb2 (i := 226) rfl rfl)
theorem lRX5_98 : Cond.fieldLink RX5 98 (TO 1 4).1 (TO 1 4).2.1 (TO 1 4).2.2.1 ∈ wBig := wb1 (i := 185) rfl rfl
theorem lRX5_101 : Cond.fieldLink RX5 101 (TO 1 5).1 (TO 1 5).2.1 (TO 1 5).2.2.1 ∈ wBig := wb1 (i := 187) rfl rfl
theorem lRX5_104 : Cond.fieldLink RX5 104 (TO 1 6).1 (TO 1 6).2.1 (TO 1 6).2.2.1 ∈ wBig := wb1 (i := 189) rfl rfl
theorem lRX5_107 : Cond.fieldLink RX5 107 (TO 1 8).1 (TO 1 8).2.1 (TO 1 8).2.2.1 ∈ wBig := wb1 (i := 193) rfl rfl
theorem lRX5_110 : Cond.fieldLink RX5 110 (TO 1 13).1 (TO 1 13).2.1 (TO 1 13).2.2.1 ∈ wBig := wb1 (i := 203) rfl rfl
theorem lRX5_113 : ((RX5, 113, yO 22) ∈ nstM ∨ Cond.methodLink RX5 113 (yO 22) ∈ wBig) := Or.inr (wb3 (i := 11) rfl rfl)
theorem lRX5_117 : ((RX5, 117, yO 27) ∈ nstM ∨ Cond.methodLink RX5 117 (yO 27) ∈ wBig) := Or.inr (wb3 (i := 15) rfl rfl)
theorem lRX5_121 : ((RX5, 121, yO 26) ∈ nstM ∨ Cond.methodLink RX5 121 (yO 26) ∈ wBig) := Or.inr (wb3 (i := 29) rfl rfl)
theorem lRX5_124 : Cond.fieldLink RX5 124 (TO 1 9).1 (TO 1 9).2.1 (TO 1 9).2.2.1 ∈ wBig := wb1 (i := 195) rfl rfl
theorem lRX5_127 : ((RX5, 127, yO 21) ∈ nstM ∨ Cond.methodLink RX5 127 (yO 21) ∈ wBig) := Or.inr (wb3 (i := 38) rfl rfl)
theorem lRX5_131 : Cond.fieldLink RX5 131 (TO 1 1).1 (TO 1 1).2.1 (TO 1 1).2.2.1 ∈ wBig := wb1 (i := 179) rfl rfl
theorem lRX5_134 : ((RX5, 134, yO 19) ∈ nstM ∨ Cond.methodLink RX5 134 (yO 19) ∈ wBig) := Or.inr (wb3 (i := 55) rfl rfl)
theorem lRX5_138 : ((RX5, 138, yO 97) ∈ nstM ∨ Cond.methodLink RX5 138 (yO 97) ∈ wBig) := Or.inr (wb3 (i := 63) rfl rfl)
theorem lRX5_141 : Cond.fieldLink RX5 141 (TO 1 10).1 (TO 1 10).2.1 (TO 1 10).2.2.1 ∈ wBig := wb1 (i := 197) rfl rfl
theorem lRX5_144 : Cond.fieldLink RX5 144 (TO 1 11).1 (TO 1 11).2.1 (TO 1 11).2.2.1 ∈ wBig := wb1 (i := 199) rfl rfl
theorem lRX5_147 : Cond.fieldLink RX5 147 (TO 1 12).1 (TO 1 12).2.1 (TO 1 12).2.2.1 ∈ wBig := wb1 (i := 201) rfl rfl
theorem lRX5_150 : ((RX5, 150, yO 29) ∈ nstM ∨ Cond.methodLink RX5 150 (yO 29) ∈ wBig) := Or.inr (wb3 (i := 67) rfl rfl)
theorem lRX5_153 : ((RX5, 153, yO 32) ∈ nstM ∨ Cond.methodLink RX5 153 (yO 32) ∈ wBig) := Or.inr (wb3 (i := 78) rfl rfl)
theorem lRX5_156 : Cond.fieldLink RX5 156 (TO 1 2).1 (TO 1 2).2.1 (TO 1 2).2.2.1 ∈ wBig := wb1 (i := 181) rfl rfl
theorem lRX5_159 : Cond.fieldLink RX5 159 (TO 3 2).1 (TO 3 2).2.1 (TO 3 2).2.2.1 ∈ wBig := wb1 (i := 141) rfl rfl
theorem lRX5_162 : Cond.fieldLink RX5 162 (TO 3 3).1 (TO 3 3).2.1 (TO 3 3).2.2.1 ∈ wBig := wb1 (i := 144) rfl rfl
theorem lRX5_165 : ((RX5, 165, yO 33) ∈ nstM ∨ Cond.methodLink RX5 165 (yO 33) ∈ wBig) := Or.inr (wb3 (i := 94) rfl rfl)
theorem lRX5_168 : Cond.constant RX5 168 (Int32.ofNat 99999) ∈ wBig := wb3 (i := 102) rfl rfl
theorem lRX5_169 : ((RX5, 169, yO 35) ∈ nstM ∨ Cond.methodLink RX5 169 (yO 35) ∈ wBig) := Or.inr (wb3 (i := 103) rfl rfl)
theorem lRX5_58 : Cond.fieldLink RX5 58 (TO 5 4).1 (TO 5 4).2.1 (TO 5 4).2.2.1 ∈ wBig := wb2 (i := 0) rfl rfl
theorem lRX5_172 : ((RX5, 172, yO 17) ∈ nstM ∨ Cond.methodLink RX5 172 (yO 17) ∈ wBig) := Or.inr (wb3 (i := 118) rfl rfl)
theorem lRX5_176 : ((RX5, 176, yO 99) ∈ nstM ∨ Cond.methodLink RX5 176 (yO 99) ∈ wBig) := Or.inr (wb3 (i := 133) rfl rfl)
theorem lRX5_179 : ((RX5, 179, yO 100) ∈ nstM ∨ Cond.methodLink RX5 179 (yO 100) ∈ wBig) := Or.inr (wb3 (i := 142) rfl rfl)
theorem lRX5_182 : ((RX5, 182, yO 102) ∈ nstM ∨ Cond.methodLink RX5 182 (yO 102) ∈ wBig) := Or.inr (wb3 (i := 154) rfl rfl)
theorem lRX5_185 : ((RX5, 185, yO 103) ∈ nstM ∨ Cond.methodLink RX5 185 (yO 103) ∈ wBig) := Or.inr (wb3 (i := 158) rfl rfl)
theorem lRX5_188 : ((RX5, 188, yO 98) ∈ nstM ∨ Cond.methodLink RX5 188 (yO 98) ∈ wBig) := Or.inr (wb3 (i := 167) rfl rfl)
theorem lRX5_191 : ((RX5, 191, yO 28) ∈ nstM ∨ Cond.methodLink RX5 191 (yO 28) ∈ wBig) := Or.inr (wb3 (i := 162) rfl rfl)
theorem lRX5_194 : ((RX5, 194, yO 105) ∈ nstM ∨ Cond.methodLink RX5 194 (yO 105) ∈ wBig) := Or.inr (wb3 (i := 172) rfl rfl)
theorem lRX5_197 : ((RX5, 197, yO 106) ∈ nstM ∨ Cond.methodLink RX5 197 (yO 106) ∈ wBig) := Or.inr (wb3 (i := 185) rfl rfl)
theorem lRX5_200 : ((RX5, 200, yO 34) ∈ nstM ∨ Cond.methodLink RX5 200 (yO 34) ∈ wBig) := Or.inr (wb3 (i := 193) rfl rfl)
theorem lRX5_203 : Cond.methodLink RX5 203 Lib.Math.min.name ∈ wBig := wb3 (i := 152) rfl rfl
theorem lRX5_208 : ((RX5, 208, yO 36) ∈ nstM ∨ Cond.methodLink RX5 208 (yO 36) ∈ wBig) := Or.inr (wb3 (i := 205) rfl rfl)
theorem lRX5_211 : ((RX5, 211, yO 108) ∈ nstM ∨ Cond.methodLink RX5 211 (yO 108) ∈ wBig) := Or.inr (wb3 (i := 214) rfl rfl)
theorem lRX5_214 : ((RX5, 214, yO 31) ∈ nstM ∨ Cond.methodLink RX5 214 (yO 31) ∈ wBig) := Or.inr (wb3 (i := 219) rfl rfl)
theorem lRX5_45 : Cond.fieldLink RX5 45 (TO 5 9).1 (TO 5 9).2.1 (TO 5 9).2.2.1 ∈ wBig := wb2 (i := 5) rfl rfl
theorem lRX5_217 : ((RX5, 217, yO 104) ∈ nstM ∨ Cond.methodLink RX5 217 (yO 104) ∈ wBig) := Or.inr (wb3 (i := 176) rfl rfl)
theorem lRX5_220 : Cond.fieldLink RX5 220 (TO 4 2).1 (TO 4 2).2.1 (TO 4 2).2.2.1 ∈ wBig := wb1 (i := 84) rfl rfl
theorem lRX5_223 : Cond.fieldLink RX5 223 (TO 4 6).1 (TO 4 6).2.1 (TO 4 6).2.2.1 ∈ wBig := wb1 (i := 92) rfl rfl
theorem lRX5_226 : Cond.fieldLink RX5 226 (TO 4 7).1 (TO 4 7).2.1 (TO 4 7).2.2.1 ∈ wBig := wb1 (i := 94) rfl rfl
theorem lRX5_229 : ((RX5, 229, yO 107) ∈ nstM ∨ Cond.methodLink RX5 229 (yO 107) ∈ wBig) := Or.inr (wb3 (i := 239) rfl rfl)
theorem lRX5_232 : Cond.constantLong RX5 232 (-9223372036854775808) ∈ wBig := wb4 (i := 12) rfl rfl
theorem lRX5_234 : ((RX5, 234, yO 109) ∈ nstM ∨ Cond.methodLink RX5 234 (yO 109) ∈ wBig) := Or.inr (wb4 (i := 13) rfl rfl)
theorem lRX5_238 : Cond.fieldLink RX5 238 (TO 4 3).1 (TO 4 3).2.1 (TO 4 3).2.2.1 ∈ wBig := wb1 (i := 86) rfl rfl
theorem lRX5_241 : Cond.fieldLink RX5 241 (TO 4 8).1 (TO 4 8).2.1 (TO 4 8).2.2.1 ∈ wBig := wb1 (i := 96) rfl rfl
theorem lRX5_244 : Cond.fieldLink RX5 244 (TO 4 9).1 (TO 4 9).2.1 (TO 4 9).2.2.1 ∈ wBig := wb1 (i := 98) rfl rfl
theorem lRX5_247 : Cond.fieldLink RX5 247 (TO 4 4).1 (TO 4 4).2.1 (TO 4 4).2.2.1 ∈ wBig := wb1 (i := 88) rfl rfl
theorem lRX5_250 : Cond.fieldLink RX5 250 (TO 4 10).1 (TO 4 10).2.1 (TO 4 10).2.2.1 ∈ wBig := wb1 (i := 100) rfl rfl
theorem lRX5_253 : Cond.fieldLink RX5 253 (TO 4 11).1 (TO 4 11).2.1 (TO 4 11).2.2.1 ∈ wBig := wb1 (i := 102) rfl rfl
theorem lRX5_27 : Cond.fieldLink RX5 27 (TO 5 2).1 (TO 5 2).2.1 (TO 5 2).2.2.1 ∈ wBig := wb1 (i := 238) rfl rfl
theorem lRX5_256 : Cond.fieldLink RX5 256 (TO 0 3).1 (TO 0 3).2.1 (TO 0 3).2.2.1 ∈ wBig := wb1 (i := 59) rfl rfl
theorem lRX5_259 : Cond.fieldLink RX5 259 (TO 0 0).1 (TO 0 0).2.1 (TO 0 0).2.2.1 ∈ wBig := wb1 (i := 53) rfl rfl
theorem lRX5_262 : Cond.fieldLink RX5 262 (TO 0 1).1 (TO 0 1).2.1 (TO 0 1).2.2.1 ∈ wBig := wb1 (i := 55) rfl rfl
theorem lRX5_264 : Cond.fieldLink RX5 264 (TO 0 2).1 (TO 0 2).2.1 (TO 0 2).2.2.1 ∈ wBig := wb1 (i := 57) rfl rfl
theorem lRX5_266 : ((RX5, 266, yO 14) ∈ nstM ∨ Cond.methodLink RX5 266 (yO 14) ∈ wBig) := Or.inr (wb4 (i := 48) rfl rfl)
theorem lRX5_269 : Cond.fieldLink RX5 269 (TO 0 4).1 (TO 0 4).2.1 (TO 0 4).2.2.1 ∈ wBig := wb1 (i := 61) rfl rfl
theorem lRX5_272 : ((RX5, 272, 1) ∈ nstF ∨ Cond.fieldLink RX5 272 "ChoirRoof" (staN.getD 1 "") "[I" ∈ wBig) := Or.inr (wb4 (i := 72) rfl rfl)
theorem lRX5_61 : Cond.fieldLink RX5 61 (TO 5 5).1 (TO 5 5).2.1 (TO 5 5).2.2.1 ∈ wBig := wb2 (i := 1) rfl rfl
theorem lRX5_38 : Cond.fieldLink RX5 38 (TO 5 7).1 (TO 5 7).2.1 (TO 5 7).2.2.1 ∈ wBig := wb2 (i := 3) rfl rfl
theorem lRX5_275 : ((RX5, 275, yO 55) ∈ nstM ∨ Cond.methodLink RX5 275 (yO 55) ∈ wBig) := Or.inr (wb4 (i := 77) rfl rfl)
theorem lRX5_278 : Cond.fieldLink RX5 278 (TO 5 10).1 (TO 5 10).2.1 (TO 5 10).2.2.1 ∈ wBig := wb2 (i := 6) rfl rfl
theorem lRX5_282 : ((RX5, 282, yO 20) ∈ nstM ∨ Cond.methodLink RX5 282 (yO 20) ∈ wBig) := Or.inr (wb3 (i := 137) rfl rfl)
theorem lRX5_285 : ((RX5, 285, yO 101) ∈ nstM ∨ Cond.methodLink RX5 285 (yO 101) ∈ wBig) := Or.inr (wb3 (i := 146) rfl rfl)
theorem lRX5_41 : Cond.fieldLink RX5 41 (TO 5 8).1 (TO 5 8).2.1 (TO 5 8).2.2.1 ∈ wBig := wb2 (i := 4) rfl rfl
theorem lRX5_288 : ((RX5, 288, yO 24) ∈ nstM ∨ Cond.methodLink RX5 288 (yO 24) ∈ wBig) := Or.inr (wb3 (i := 153) rfl rfl)
theorem lRX5_291 : ((RX5, 291, 0) ∈ nstF ∨ Cond.fieldLink RX5 291 "ChoirRoof" (staN.getD 0 "") "[I" ∈ wBig) := Or.inr (wb3 (i := 150) rfl rfl)
theorem lRX5_294 : ((RX5, 294, yO 1) ∈ nstM ∨ Cond.methodLink RX5 294 (yO 1) ∈ wBig) := Or.inr (wb3 (i := 180) rfl rfl)
theorem lRX5_299 : ((RX5, 299, yO 37) ∈ nstM ∨ Cond.methodLink RX5 299 (yO 37) ∈ wBig) := Or.inr (wb3 (i := 189) rfl rfl)
theorem lRX5_303 : Cond.methodLink RX5 303 Lib.Math.max.name ∈ wBig := wb4 (i := 3) rfl rfl
theorem lRX5_306 : ((RX5, 306, yO 30) ∈ nstM ∨ Cond.methodLink RX5 306 (yO 30) ∈ wBig) := Or.inr (wb3 (i := 218) rfl rfl)
theorem lRX5_309 : Cond.methodLink RX5 309 Lib.Math.abs.name ∈ wBig := wb4 (i := 16) rfl rfl
theorem lRX5_312 : ((RX5, 312, yO 110) ∈ nstM ∨ Cond.methodLink RX5 312 (yO 110) ∈ wBig) := Or.inr (wb4 (i := 17) rfl rfl)
theorem lRX6_9 : Cond.fieldLink RX6 9 (TO 6 1).1 (TO 6 1).2.1 (TO 6 1).2.2.1 ∈ wBig := wb4 (i := 96) rfl rfl
theorem lRX6_47 : ((RX6, 47, yO 111) ∈ nstM ∨ Cond.methodLink RX6 47 (yO 111) ∈ wBig) := Or.inr (wb4 (i := 170) rfl rfl)
theorem lRX6_18 : Cond.fieldLink RX6 18 (TO 6 3).1 (TO 6 3).2.1 (TO 6 3).2.2.1 ∈ wBig := wb4 (i := 98) rfl rfl
theorem lRX6_51 : Cond.fieldLink RX6 51 (TO 6 6).1 (TO 6 6).2.1 (TO 6 6).2.2.1 ∈ wBig := wb4 (i := 101) rfl rfl
theorem lRX6_54 : Cond.fieldLink RX6 54 (TO 6 7).1 (TO 6 7).2.1 (TO 6 7).2.2.1 ∈ wBig := wb4 (i := 102) rfl rfl
theorem lRX6_57 : Cond.fieldLink RX6 57 (TO 6 8).1 (TO 6 8).2.1 (TO 6 8).2.2.1 ∈ wBig := wb4 (i := 103) rfl rfl
theorem lRX6_61 : ((RX6, 61, yO 118) ∈ nstM ∨ Cond.methodLink RX6 61 (yO 118) ∈ wBig) := Or.inr (wb4 (i := 181) rfl rfl)
theorem lRX6_65 : ((RX6, 65, yO 2) ∈ nstM ∨ Cond.methodLink RX6 65 (yO 2) ∈ wBig) := Or.inr (wb4 (i := 194) rfl rfl)
theorem lRX6_70 : ((RX6, 70, yO 3) ∈ nstM ∨ Cond.methodLink RX6 70 (yO 3) ∈ wBig) := Or.inr (wb4 (i := 195) rfl rfl)
theorem lRX6_74 : ((RX6, 74, yO 119) ∈ nstM ∨ Cond.methodLink RX6 74 (yO 119) ∈ wBig) := Or.inr (wb4 (i := 196) rfl rfl)
theorem lRX6_78 : Cond.fieldLink RX6 78 (TO 6 5).1 (TO 6 5).2.1 (TO 6 5).2.2.1 ∈ wBig := wb4 (i := 100) rfl rfl
theorem lRX6_81 : Cond.fieldLink RX6 81 (TO 6 9).1 (TO 6 9).2.1 (TO 6 9).2.2.1 ∈ wBig := wb4 (i := 104) rfl rfl
theorem lRX6_84 : ((RX6, 84, yO 124) ∈ nstM ∨ Cond.methodLink RX6 84 (yO 124) ∈ wBig) := Or.inr (wb4 (i := 218) rfl rfl)
theorem lRX6_87 : ((RX6, 87, yO 123) ∈ nstM ∨ Cond.methodLink RX6 87 (yO 123) ∈ wBig) := Or.inr (wb4 (i := 222) rfl rfl)
theorem lRX6_90 : ((RX6, 90, yO 126) ∈ nstM ∨ Cond.methodLink RX6 90 (yO 126) ∈ wBig) := Or.inr (wb4 (i := 210) rfl rfl)
theorem lRX6_93 : (RX6, 93, 4) ∈ strTab := by decide +kernel
theorem lRX6_95 : ((RX6, 95, yO 122) ∈ nstM ∨ Cond.methodLink RX6 95 (yO 122) ∈ wBig) := Or.inr (wb4 (i := 227) rfl rfl)
theorem lRX6_99 : (RX6, 99, 5) ∈ strTab := by decide +kernel
theorem lRX6_101 : ((RX6, 101, yO 121) ∈ nstM ∨ Cond.methodLink RX6 101 (yO 121) ∈ wBig) := Or.inr (wb4 (i := 200) rfl rfl)
theorem lRX6_104 : ((RX6, 104, yO 125) ∈ nstM ∨ Cond.methodLink RX6 104 (yO 125) ∈ wBig) := Or.inr (wb4 (i := 214) rfl rfl)
theorem lRX6_107 : ((RX6, 107, yO 120) ∈ nstM ∨ Cond.methodLink RX6 107 (yO 120) ∈ wBig) := Or.inr (wb4 (i := 190) rfl rfl)
theorem lRX6_111 : (RX6, 111, 0) ∈ strTab := by decide +kernel
theorem lRX6_113 : ((RX6, 113, yO 128) ∈ nstM ∨ Cond.methodLink RX6 113 (yO 128) ∈ wBig) := Or.inr (wb4 (i := 186) rfl rfl)
theorem lRX6_117 : (RX6, 117, 1) ∈ strTab := by decide +kernel
theorem lRX6_119 : (RX6, 119, 2) ∈ strTab := by decide +kernel
theorem lRX6_121 : ((RX6, 121, yO 127) ∈ nstM ∨ Cond.methodLink RX6 121 (yO 127) ∈ wBig) := Or.inr (wb4 (i := 206) rfl rfl)
theorem lRX6_124 : (RX6, 124, 3) ∈ strTab := by decide +kernel
theorem lRX6_126 : ((RX6, 126, yO 129) ∈ nstM ∨ Cond.methodLink RX6 126 (yO 129) ∈ wBig) := Or.inr (wb4 (i := 177) rfl rfl)
theorem lRX6_21 : Cond.fieldLink RX6 21 (TO 6 10).1 (TO 6 10).2.1 (TO 6 10).2.2.1 ∈ wBig := wb4 (i := 105) rfl rfl
theorem lRX6_129 : ((RX6, 129, yO 131) ∈ nstM ∨ Cond.methodLink RX6 129 (yO 131) ∈ wBig) := Or.inr (wb5 (i := 21) rfl rfl)
theorem lRX6_24 : Cond.fieldLink RX6 24 (TO 6 11).1 (TO 6 11).2.1 (TO 6 11).2.2.1 ∈ wBig := wb4 (i := 106) rfl rfl
theorem lRX6_133 : ((RX6, 133, yO 114) ∈ nstM ∨ Cond.methodLink RX6 133 (yO 114) ∈ wBig) := Or.inr (wb5 (i := 5) rfl rfl)
theorem lRX6_137 : ((RX6, 137, yO 133) ∈ nstM ∨ Cond.methodLink RX6 137 (yO 133) ∈ wBig) := Or.inr (wb5 (i := 13) rfl rfl)
theorem lRX6_141 : ((RX6, 141, yO 132) ∈ nstM ∨ Cond.methodLink RX6 141 (yO 132) ∈ wBig) := Or.inr (wb5 (i := 17) rfl rfl)
theorem lRX6_28 : Cond.fieldLink RX6 28 (TO 6 12).1 (TO 6 12).2.1 (TO 6 12).2.2.1 ∈ wBig := wb4 (i := 107) rfl rfl
theorem lRX6_144 : ((RX6, 144, yO 134) ∈ nstM ∨ Cond.methodLink RX6 144 (yO 134) ∈ wBig) := Or.inr (wb5 (i := 9) rfl rfl)
theorem lRX6_147 : ((RX6, 147, yO 137) ∈ nstM ∨ Cond.methodLink RX6 147 (yO 137) ∈ wBig) := Or.inr (wb5 (i := 33) rfl rfl)
theorem lRX6_151 : ((RX6, 151, yO 135) ∈ nstM ∨ Cond.methodLink RX6 151 (yO 135) ∈ wBig) := Or.inr (wb5 (i := 41) rfl rfl)
theorem lRX6_154 : ((RX6, 154, yO 138) ∈ nstM ∨ Cond.methodLink RX6 154 (yO 138) ∈ wBig) := Or.inr (wb5 (i := 37) rfl rfl)
theorem lRX6_157 : ((RX6, 157, yO 139) ∈ nstM ∨ Cond.methodLink RX6 157 (yO 139) ∈ wBig) := Or.inr (wb5 (i := 29) rfl rfl)
theorem lRX6_160 : ((RX6, 160, yO 136) ∈ nstM ∨ Cond.methodLink RX6 160 (yO 136) ∈ wBig) := Or.inr (wb5 (i := 25) rfl rfl)
theorem lRX6_163 : ((RX6, 163, yO 140) ∈ nstM ∨ Cond.methodLink RX6 163 (yO 140) ∈ wBig) := Or.inr (wb5 (i := 80) rfl rfl)
theorem lRX6_166 : ((RX6, 166, yO 143) ∈ nstM ∨ Cond.methodLink RX6 166 (yO 143) ∈ wBig) := Or.inr (wb5 (i := 88) rfl rfl)
theorem lRX6_169 : ((RX6, 169, yO 149) ∈ nstM ∨ Cond.methodLink RX6 169 (yO 149) ∈ wBig) := Or.inr (wb5 (i := 56) rfl rfl)
theorem lRX6_172 : ((RX6, 172, yO 112) ∈ nstM ∨ Cond.methodLink RX6 172 (yO 112) ∈ wBig) := Or.inr (wb5 (i := 1) rfl rfl)
theorem lRX6_175 : ((RX6, 175, yO 150) ∈ nstM ∨ Cond.methodLink RX6 175 (yO 150) ∈ wBig) := Or.inr (wb5 (i := 52) rfl rfl)
theorem lRX6_178 : ((RX6, 178, yO 113) ∈ nstM ∨ Cond.methodLink RX6 178 (yO 113) ∈ wBig) := Or.inr (wb5 (i := 72) rfl rfl)
theorem lRX6_181 : ((RX6, 181, yO 142) ∈ nstM ∨ Cond.methodLink RX6 181 (yO 142) ∈ wBig) := Or.inr (wb5 (i := 76) rfl rfl)
theorem lRX6_184 : ((RX6, 184, yO 144) ∈ nstM ∨ Cond.methodLink RX6 184 (yO 144) ∈ wBig) := Or.inr (wb5 (i := 84) rfl rfl)
theorem lRX6_187 : ((RX6, 187, yO 145) ∈ nstM ∨ Cond.methodLink RX6 187 (yO 145) ∈ wBig) := Or.inr (wb5 (i := 100) rfl rfl)
theorem lRX6_190 : ((RX6, 190, yO 146) ∈ nstM ∨ Cond.methodLink RX6 190 (yO 146) ∈ wBig) := Or.inr (wb5 (i := 117) rfl rfl)
theorem lRX6_193 : ((RX6, 193, yO 159) ∈ nstM ∨ Cond.methodLink RX6 193 (yO 159) ∈ wBig) := Or.inr (wb5 (i := 113) rfl rfl)
theorem lRX6_196 : Cond.constant RX6 196 (Int32.ofNat 99999) ∈ wBig := wb5 (i := 108) rfl rfl
theorem lRX6_197 : ((RX6, 197, yO 160) ∈ nstM ∨ Cond.methodLink RX6 197 (yO 160) ∈ wBig) := Or.inr (wb5 (i := 109) rfl rfl)
theorem lRX6_200 : ((RX6, 200, yO 115) ∈ nstM ∨ Cond.methodLink RX6 200 (yO 115) ∈ wBig) := Or.inr (wb5 (i := 124) rfl rfl)
theorem lRX6_203 : ((RX6, 203, yO 116) ∈ nstM ∨ Cond.methodLink RX6 203 (yO 116) ∈ wBig) := Or.inr (wb5 (i := 128) rfl rfl)
theorem lRX6_206 : Cond.fieldLink RX6 206 (TO 6 13).1 (TO 6 13).2.1 (TO 6 13).2.2.1 ∈ wBig := wb4 (i := 108) rfl rfl
theorem lRX6_209 : Cond.fieldLink RX6 209 (TO 6 14).1 (TO 6 14).2.1 (TO 6 14).2.2.1 ∈ wBig := wb4 (i := 109) rfl rfl
theorem lRX6_212 : ((RX6, 212, yO 164) ∈ nstM ∨ Cond.methodLink RX6 212 (yO 164) ∈ wBig) := Or.inr (wb5 (i := 140) rfl rfl)
theorem lRX6_34 : Cond.fieldLink RX6 34 (TO 6 16).1 (TO 6 16).2.1 (TO 6 16).2.2.1 ∈ wBig := wb4 (i := 111) rfl rfl
theorem lRX6_215 : ((RX6, 215, yO 166) ∈ nstM ∨ Cond.methodLink RX6 215 (yO 166) ∈ wBig) := Or.inr (wb5 (i := 148) rfl rfl)
theorem lRX6_31 : Cond.fieldLink RX6 31 (TO 6 15).1 (TO 6 15).2.1 (TO 6 15).2.2.1 ∈ wBig := wb4 (i := 110) rfl rfl
theorem lRX6_218 : ((RX6, 218, yO 167) ∈ nstM ∨ Cond.methodLink RX6 218 (yO 167) ∈ wBig) := Or.inr (wb5 (i := 152) rfl rfl)
theorem lRX6_221 : Cond.constant RX6 221 (Int32.ofNat 100000000) ∈ wBig := wb5 (i := 160) rfl rfl
theorem lRX6_222 : ((RX6, 222, yO 170) ∈ nstM ∨ Cond.methodLink RX6 222 (yO 170) ∈ wBig) := Or.inr (wb5 (i := 165) rfl rfl)
theorem lRX6_225 : ((RX6, 225, yO 141) ∈ nstM ∨ Cond.methodLink RX6 225 (yO 141) ∈ wBig) := Or.inr (wb5 (i := 173) rfl rfl)
theorem lRX6_228 : ((RX6, 228, yO 172) ∈ nstM ∨ Cond.methodLink RX6 228 (yO 172) ∈ wBig) := Or.inr (wb5 (i := 177) rfl rfl)
theorem lRX6_37 : Cond.fieldLink RX6 37 (TO 6 17).1 (TO 6 17).2.1 (TO 6 17).2.2.1 ∈ wBig := wb4 (i := 112) rfl rfl
theorem lRX6_231 : ((RX6, 231, yO 175) ∈ nstM ∨ Cond.methodLink RX6 231 (yO 175) ∈ wBig) := Or.inr (wb5 (i := 189) rfl rfl)
theorem lRX6_234 : ((RX6, 234, yO 177) ∈ nstM ∨ Cond.methodLink RX6 234 (yO 177) ∈ wBig) := Or.inr (wb5 (i := 197) rfl rfl)
theorem lRX6_237 : ((RX6, 237, yO 171) ∈ nstM ∨ Cond.methodLink RX6 237 (yO 171) ∈ wBig) := Or.inr (wb5 (i := 205) rfl rfl)
theorem lRX6_240 : ((RX6, 240, yO 147) ∈ nstM ∨ Cond.methodLink RX6 240 (yO 147) ∈ wBig) := Or.inr (wb5 (i := 210) rfl rfl)
theorem lRX6_243 : ((RX6, 243, yO 182) ∈ nstM ∨ Cond.methodLink RX6 243 (yO 182) ∈ wBig) := Or.inr (wb5 (i := 226) rfl rfl)
theorem lRX6_246 : ((RX6, 246, yO 183) ∈ nstM ∨ Cond.methodLink RX6 246 (yO 183) ∈ wBig) := Or.inr (wb5 (i := 222) rfl rfl)
theorem lRX6_249 : ((RX6, 249, yO 185) ∈ nstM ∨ Cond.methodLink RX6 249 (yO 185) ∈ wBig) := Or.inr (wb5 (i := 234) rfl rfl)
theorem lRX6_252 : Cond.constantLong RX6 252 (-9223372036854775808) ∈ wBig := wb6 (i := 2) rfl rfl
theorem lRX6_254 : ((RX6, 254, yO 187) ∈ nstM ∨ Cond.methodLink RX6 254 (yO 187) ∈ wBig) := Or.inr (wb6 (i := 3) rfl rfl)
theorem lRX6_258 : Cond.fieldLink RX6 258 (TO 6 19).1 (TO 6 19).2.1 (TO 6 19).2.2.1 ∈ wBig := wb4 (i := 114) rfl rfl
theorem lRX6_40 : Cond.fieldLink RX6 40 (TO 6 18).1 (TO 6 18).2.1 (TO 6 18).2.2.1 ∈ wBig := wb4 (i := 113) rfl rfl
theorem lRX6_261 : ((RX6, 261, yO 195) ∈ nstM ∨ Cond.methodLink RX6 261 (yO 195) ∈ wBig) := Or.inr (wb6 (i := 41) rfl rfl)
theorem lRX6_264 : Cond.fieldLink RX6 264 (TO 6 21).1 (TO 6 21).2.1 (TO 6 21).2.2.1 ∈ wBig := wb4 (i := 116) rfl rfl
theorem lRX6_267 : Cond.fieldLink RX6 267 (TO 6 20).1 (TO 6 20).2.1 (TO 6 20).2.2.1 ∈ wBig := wb4 (i := 115) rfl rfl
theorem lRX6_270 : ((RX6, 270, yO 196) ∈ nstM ∨ Cond.methodLink RX6 270 (yO 196) ∈ wBig) := Or.inr (wb6 (i := 38) rfl rfl)
theorem lRX6_273 : ((RX6, 273, yO 197) ∈ nstM ∨ Cond.methodLink RX6 273 (yO 197) ∈ wBig) := Or.inr (wb6 (i := 45) rfl rfl)
theorem lRX6_276 : ((RX6, 276, yO 198) ∈ nstM ∨ Cond.methodLink RX6 276 (yO 198) ∈ wBig) := Or.inr (wb6 (i := 34) rfl rfl)
theorem lRX6_279 : Cond.fieldLink RX6 279 (TO 6 22).1 (TO 6 22).2.1 (TO 6 22).2.2.1 ∈ wBig := wb4 (i := 117) rfl rfl
theorem lRX6_282 : ((RX6, 282, yO 199) ∈ nstM ∨ Cond.methodLink RX6 282 (yO 199) ∈ wBig) := Or.inr (wb6 (i := 53) rfl rfl)
theorem lRX6_285 : ((RX6, 285, yO 200) ∈ nstM ∨ Cond.methodLink RX6 285 (yO 200) ∈ wBig) := Or.inr (wb6 (i := 49) rfl rfl)
theorem lRX6_288 : ((RX6, 288, yO 201) ∈ nstM ∨ Cond.methodLink RX6 288 (yO 201) ∈ wBig) := Or.inr (wb6 (i := 61) rfl rfl)
theorem lRX6_291 : ((RX6, 291, yO 202) ∈ nstM ∨ Cond.methodLink RX6 291 (yO 202) ∈ wBig) := Or.inr (wb6 (i := 57) rfl rfl)
theorem lRX6_15 : Cond.fieldLink RX6 15 (TO 6 2).1 (TO 6 2).2.1 (TO 6 2).2.2.1 ∈ wBig := wb4 (i := 97) rfl rfl
theorem lRX6_294 : Cond.fieldLink RX6 294 (TO 6 4).1 (TO 6 4).2.1 (TO 6 4).2.2.1 ∈ wBig := wb4 (i := 99) rfl rfl
theorem lRL_13 : ((RL, 13, yO 56) ∈ nstM ∨ Cond.methodLink RL 13 (yO 56) ∈ wBig) := Or.inr (wb2 (i := 30) rfl rfl)
theorem lRL_17 : ((RL, 17, yO 117) ∈ nstM ∨ Cond.methodLink RL 17 (yO 117) ∈ wBig) := Or.inr (wb4 (i := 166) rfl rfl)
theorem lRL_18 : ((RL, 18, yO 57) ∈ nstM ∨ Cond.methodLink RL 18 (yO 57) ∈ wBig) := Or.inr (wb2 (i := 34) rfl rfl)
theorem lRL_22 : ((RL, 22, yO 130) ∈ nstM ∨ Cond.methodLink RL 22 (yO 130) ∈ wBig) := Or.inr (wb4 (i := 173) rfl rfl)
theorem lRL_23 : ((RL, 23, yO 58) ∈ nstM ∨ Cond.methodLink RL 23 (yO 58) ∈ wBig) := Or.inr (wb2 (i := 210) rfl rfl)
theorem lRL_27 : ((RL, 27, yO 148) ∈ nstM ∨ Cond.methodLink RL 27 (yO 148) ∈ wBig) := Or.inr (wb4 (i := 233) rfl rfl)
theorem lRL_28 : ((RL, 28, yO 59) ∈ nstM ∨ Cond.methodLink RL 28 (yO 59) ∈ wBig) := Or.inr (wb2 (i := 218) rfl rfl)
theorem lRL_32 : ((RL, 32, yO 151) ∈ nstM ∨ Cond.methodLink RL 32 (yO 151) ∈ wBig) := Or.inr (wb4 (i := 237) rfl rfl)
theorem lRL_33 : ((RL, 33, yO 60) ∈ nstM ∨ Cond.methodLink RL 33 (yO 60) ∈ wBig) := Or.inr (wb3 (i := 30) rfl rfl)
theorem lRL_36 : ((RL, 36, yO 152) ∈ nstM ∨ Cond.methodLink RL 36 (yO 152) ∈ wBig) := Or.inr (wb5 (i := 44) rfl rfl)
theorem lRL_37 : ((RL, 37, yO 61) ∈ nstM ∨ Cond.methodLink RL 37 (yO 61) ∈ wBig) := Or.inr (wb3 (i := 34) rfl rfl)
theorem lRL_40 : ((RL, 40, yO 153) ∈ nstM ∨ Cond.methodLink RL 40 (yO 153) ∈ wBig) := Or.inr (wb5 (i := 48) rfl rfl)
theorem lRL_41 : ((RL, 41, yO 62) ∈ nstM ∨ Cond.methodLink RL 41 (yO 62) ∈ wBig) := Or.inr (wb3 (i := 47) rfl rfl)
theorem lRL_44 : ((RL, 44, yO 154) ∈ nstM ∨ Cond.methodLink RL 44 (yO 154) ∈ wBig) := Or.inr (wb5 (i := 60) rfl rfl)
theorem lRL_45 : ((RL, 45, yO 63) ∈ nstM ∨ Cond.methodLink RL 45 (yO 63) ∈ wBig) := Or.inr (wb3 (i := 51) rfl rfl)
theorem lRL_48 : ((RL, 48, yO 155) ∈ nstM ∨ Cond.methodLink RL 48 (yO 155) ∈ wBig) := Or.inr (wb5 (i := 64) rfl rfl)
theorem lRL_49 : ((RL, 49, yO 64) ∈ nstM ∨ Cond.methodLink RL 49 (yO 64) ∈ wBig) := Or.inr (wb3 (i := 59) rfl rfl)
theorem lRL_52 : ((RL, 52, yO 156) ∈ nstM ∨ Cond.methodLink RL 52 (yO 156) ∈ wBig) := Or.inr (wb5 (i := 68) rfl rfl)
theorem lRL_53 : ((RL, 53, yO 65) ∈ nstM ∨ Cond.methodLink RL 53 (yO 65) ∈ wBig) := Or.inr (wb3 (i := 86) rfl rfl)
theorem lRL_57 : ((RL, 57, yO 157) ∈ nstM ∨ Cond.methodLink RL 57 (yO 157) ∈ wBig) := Or.inr (wb5 (i := 92) rfl rfl)
theorem lRL_58 : ((RL, 58, yO 66) ∈ nstM ∨ Cond.methodLink RL 58 (yO 66) ∈ wBig) := Or.inr (wb3 (i := 90) rfl rfl)
theorem lRL_61 : ((RL, 61, yO 158) ∈ nstM ∨ Cond.methodLink RL 61 (yO 158) ∈ wBig) := Or.inr (wb5 (i := 96) rfl rfl)
theorem lRL_62 : ((RL, 62, yO 67) ∈ nstM ∨ Cond.methodLink RL 62 (yO 67) ∈ wBig) := Or.inr (wb3 (i := 98) rfl rfl)
theorem lRL_65 : ((RL, 65, yO 161) ∈ nstM ∨ Cond.methodLink RL 65 (yO 161) ∈ wBig) := Or.inr (wb5 (i := 104) rfl rfl)
theorem lRL_66 : ((RL, 66, yO 68) ∈ nstM ∨ Cond.methodLink RL 66 (yO 68) ∈ wBig) := Or.inr (wb3 (i := 114) rfl rfl)
theorem lRL_69 : ((RL, 69, yO 162) ∈ nstM ∨ Cond.methodLink RL 69 (yO 162) ∈ wBig) := Or.inr (wb5 (i := 120) rfl rfl)
theorem lRL_70 : ((RL, 70, yO 69) ∈ nstM ∨ Cond.methodLink RL 70 (yO 69) ∈ wBig) := Or.inr (wb3 (i := 125) rfl rfl)
theorem lRL_73 : ((RL, 73, yO 163) ∈ nstM ∨ Cond.methodLink RL 73 (yO 163) ∈ wBig) := Or.inr (wb5 (i := 132) rfl rfl)
theorem lRL_74 : ((RL, 74, yO 70) ∈ nstM ∨ Cond.methodLink RL 74 (yO 70) ∈ wBig) := Or.inr (wb3 (i := 129) rfl rfl)
theorem lRL_77 : ((RL, 77, yO 165) ∈ nstM ∨ Cond.methodLink RL 77 (yO 165) ∈ wBig) := Or.inr (wb5 (i := 136) rfl rfl)
theorem lRL_78 : ((RL, 78, yO 71) ∈ nstM ∨ Cond.methodLink RL 78 (yO 71) ∈ wBig) := Or.inr (wb3 (i := 138) rfl rfl)
theorem lRL_81 : ((RL, 81, yO 168) ∈ nstM ∨ Cond.methodLink RL 81 (yO 168) ∈ wBig) := Or.inr (wb5 (i := 144) rfl rfl)
theorem lRL_82 : ((RL, 82, yO 72) ∈ nstM ∨ Cond.methodLink RL 82 (yO 72) ∈ wBig) := Or.inr (wb3 (i := 163) rfl rfl)
theorem lRL_85 : ((RL, 85, yO 169) ∈ nstM ∨ Cond.methodLink RL 85 (yO 169) ∈ wBig) := Or.inr (wb5 (i := 156) rfl rfl)
theorem lRL_86 : ((RL, 86, yO 73) ∈ nstM ∨ Cond.methodLink RL 86 (yO 73) ∈ wBig) := Or.inr (wb3 (i := 168) rfl rfl)
theorem lRL_89 : ((RL, 89, yO 171) ∈ nstM ∨ Cond.methodLink RL 89 (yO 171) ∈ wBig) := Or.inr (wb5 (i := 161) rfl rfl)
theorem lRL_90 : ((RL, 90, yO 74) ∈ nstM ∨ Cond.methodLink RL 90 (yO 74) ∈ wBig) := Or.inr (wb3 (i := 181) rfl rfl)
theorem lRL_93 : ((RL, 93, yO 173) ∈ nstM ∨ Cond.methodLink RL 93 (yO 173) ∈ wBig) := Or.inr (wb5 (i := 169) rfl rfl)
theorem lRL_94 : ((RL, 94, yO 75) ∈ nstM ∨ Cond.methodLink RL 94 (yO 75) ∈ wBig) := Or.inr (wb3 (i := 197) rfl rfl)
theorem lRL_97 : ((RL, 97, yO 174) ∈ nstM ∨ Cond.methodLink RL 97 (yO 174) ∈ wBig) := Or.inr (wb5 (i := 181) rfl rfl)
theorem lRL_98 : ((RL, 98, yO 76) ∈ nstM ∨ Cond.methodLink RL 98 (yO 76) ∈ wBig) := Or.inr (wb3 (i := 201) rfl rfl)
theorem lRL_101 : ((RL, 101, yO 176) ∈ nstM ∨ Cond.methodLink RL 101 (yO 176) ∈ wBig) := Or.inr (wb5 (i := 185) rfl rfl)
theorem lRL_102 : ((RL, 102, yO 77) ∈ nstM ∨ Cond.methodLink RL 102 (yO 77) ∈ wBig) := Or.inr (wb3 (i := 210) rfl rfl)
theorem lRL_105 : ((RL, 105, yO 178) ∈ nstM ∨ Cond.methodLink RL 105 (yO 178) ∈ wBig) := Or.inr (wb5 (i := 193) rfl rfl)
theorem lRL_106 : ((RL, 106, yO 78) ∈ nstM ∨ Cond.methodLink RL 106 (yO 78) ∈ wBig) := Or.inr (wb3 (i := 223) rfl rfl)
theorem lRL_109 : ((RL, 109, yO 179) ∈ nstM ∨ Cond.methodLink RL 109 (yO 179) ∈ wBig) := Or.inr (wb5 (i := 201) rfl rfl)
theorem lRL_110 : ((RL, 110, yO 79) ∈ nstM ∨ Cond.methodLink RL 110 (yO 79) ∈ wBig) := Or.inr (wb3 (i := 227) rfl rfl)
theorem lRL_113 : ((RL, 113, yO 180) ∈ nstM ∨ Cond.methodLink RL 113 (yO 180) ∈ wBig) := Or.inr (wb5 (i := 206) rfl rfl)
theorem lRL_114 : ((RL, 114, yO 80) ∈ nstM ∨ Cond.methodLink RL 114 (yO 80) ∈ wBig) := Or.inr (wb3 (i := 231) rfl rfl)
theorem lRL_117 : ((RL, 117, yO 181) ∈ nstM ∨ Cond.methodLink RL 117 (yO 181) ∈ wBig) := Or.inr (wb5 (i := 214) rfl rfl)
theorem lRL_118 : ((RL, 118, yO 81) ∈ nstM ∨ Cond.methodLink RL 118 (yO 81) ∈ wBig) := Or.inr (wb3 (i := 235) rfl rfl)
theorem lRL_121 : ((RL, 121, yO 184) ∈ nstM ∨ Cond.methodLink RL 121 (yO 184) ∈ wBig) := Or.inr (wb5 (i := 218) rfl rfl)
theorem lRL_122 : ((RL, 122, yO 82) ∈ nstM ∨ Cond.methodLink RL 122 (yO 82) ∈ wBig) := Or.inr (wb4 (i := 4) rfl rfl)
theorem lRL_125 : ((RL, 125, yO 186) ∈ nstM ∨ Cond.methodLink RL 125 (yO 186) ∈ wBig) := Or.inr (wb5 (i := 230) rfl rfl)
theorem lRL_126 : ((RL, 126, yO 83) ∈ nstM ∨ Cond.methodLink RL 126 (yO 83) ∈ wBig) := Or.inr (wb4 (i := 8) rfl rfl)
theorem lRL_130 : ((RL, 130, yO 188) ∈ nstM ∨ Cond.methodLink RL 130 (yO 188) ∈ wBig) := Or.inr (wb5 (i := 238) rfl rfl)
theorem lRL_131 : ((RL, 131, yO 84) ∈ nstM ∨ Cond.methodLink RL 131 (yO 84) ∈ wBig) := Or.inr (wb4 (i := 20) rfl rfl)
theorem lRL_135 : ((RL, 135, yO 189) ∈ nstM ∨ Cond.methodLink RL 135 (yO 189) ∈ wBig) := Or.inr (wb6 (i := 6) rfl rfl)
theorem lRL_136 : ((RL, 136, yO 85) ∈ nstM ∨ Cond.methodLink RL 136 (yO 85) ∈ wBig) := Or.inr (wb4 (i := 24) rfl rfl)
theorem lRL_139 : ((RL, 139, yO 190) ∈ nstM ∨ Cond.methodLink RL 139 (yO 190) ∈ wBig) := Or.inr (wb6 (i := 10) rfl rfl)
theorem lRL_140 : ((RL, 140, yO 86) ∈ nstM ∨ Cond.methodLink RL 140 (yO 86) ∈ wBig) := Or.inr (wb4 (i := 28) rfl rfl)
theorem lRL_143 : ((RL, 143, yO 191) ∈ nstM ∨ Cond.methodLink RL 143 (yO 191) ∈ wBig) := Or.inr (wb6 (i := 14) rfl rfl)
theorem lRL_144 : ((RL, 144, yO 87) ∈ nstM ∨ Cond.methodLink RL 144 (yO 87) ∈ wBig) := Or.inr (wb4 (i := 32) rfl rfl)
theorem lRL_147 : ((RL, 147, yO 192) ∈ nstM ∨ Cond.methodLink RL 147 (yO 192) ∈ wBig) := Or.inr (wb6 (i := 18) rfl rfl)
theorem lRL_148 : ((RL, 148, yO 88) ∈ nstM ∨ Cond.methodLink RL 148 (yO 88) ∈ wBig) := Or.inr (wb4 (i := 36) rfl rfl)
theorem lRL_151 : ((RL, 151, yO 193) ∈ nstM ∨ Cond.methodLink RL 151 (yO 193) ∈ wBig) := Or.inr (wb6 (i := 22) rfl rfl)
theorem lRL_152 : ((RL, 152, yO 89) ∈ nstM ∨ Cond.methodLink RL 152 (yO 89) ∈ wBig) := Or.inr (wb4 (i := 40) rfl rfl)
theorem lRL_155 : ((RL, 155, yO 194) ∈ nstM ∨ Cond.methodLink RL 155 (yO 194) ∈ wBig) := Or.inr (wb6 (i := 26) rfl rfl)
theorem lRL_156 : ((RL, 156, yO 90) ∈ nstM ∨ Cond.methodLink RL 156 (yO 90) ∈ wBig) := Or.inr (wb4 (i := 44) rfl rfl)
theorem lRL_159 : ((RL, 159, yO 203) ∈ nstM ∨ Cond.methodLink RL 159 (yO 203) ∈ wBig) := Or.inr (wb6 (i := 30) rfl rfl)
theorem lRL_160 : ((RL, 160, yO 91) ∈ nstM ∨ Cond.methodLink RL 160 (yO 91) ∈ wBig) := Or.inr (wb4 (i := 64) rfl rfl)
theorem lRL_163 : ((RL, 163, yO 204) ∈ nstM ∨ Cond.methodLink RL 163 (yO 204) ∈ wBig) := Or.inr (wb6 (i := 65) rfl rfl)
theorem lRL_164 : ((RL, 164, yO 92) ∈ nstM ∨ Cond.methodLink RL 164 (yO 92) ∈ wBig) := Or.inr (wb4 (i := 68) rfl rfl)
theorem lRL_167 : ((RL, 167, yO 205) ∈ nstM ∨ Cond.methodLink RL 167 (yO 205) ∈ wBig) := Or.inr (wb6 (i := 69) rfl rfl)
theorem lRL_168 : ((RL, 168, yO 93) ∈ nstM ∨ Cond.methodLink RL 168 (yO 93) ∈ wBig) := Or.inr (wb4 (i := 73) rfl rfl)
theorem lRL_171 : ((RL, 171, yO 206) ∈ nstM ∨ Cond.methodLink RL 171 (yO 206) ∈ wBig) := Or.inr (wb6 (i := 73) rfl rfl)
theorem lRL_172 : ((RL, 172, yO 94) ∈ nstM ∨ Cond.methodLink RL 172 (yO 94) ∈ wBig) := Or.inr (wb4 (i := 82) rfl rfl)
theorem lRL_175 : ((RL, 175, yO 207) ∈ nstM ∨ Cond.methodLink RL 175 (yO 207) ∈ wBig) := Or.inr (wb6 (i := 77) rfl rfl)
theorem lRL_176 : ((RL, 176, yO 95) ∈ nstM ∨ Cond.methodLink RL 176 (yO 95) ∈ wBig) := Or.inr (wb4 (i := 86) rfl rfl)
theorem lRL_179 : ((RL, 179, yO 208) ∈ nstM ∨ Cond.methodLink RL 179 (yO 208) ∈ wBig) := Or.inr (wb6 (i := 81) rfl rfl)
theorem lnJ6_compare_7cf53 : lnB kJ6_compare_7cf53 = true := by decide +kernel
theorem lnJ6_bitCount_0f7a4 : lnB kJ6_bitCount_0f7a4 = true := by decide +kernel
theorem lnJ0_length_8abf5 : lnB kJ0_length_8abf5 = true := by decide +kernel
theorem lnJ0_charAt_5068e : lnB kJ0_charAt_5068e = true := by decide +kernel
theorem lnJ0_indexOf_0f7a4 : lnB kJ0_indexOf_0f7a4 = true := by decide +kernel
theorem lnJ0_indexOf_7cf53 : lnB kJ0_indexOf_7cf53 = true := by decide +kernel
theorem lnJ0_coder_7d493 : lnB kJ0_coder_7d493 = true := by decide +kernel
theorem lnJ0_isLatin1_aae02 : lnB kJ0_isLatin1_aae02 = true := by decide +kernel
theorem lnJ0_checkIndex_df160 : lnB kJ0_checkIndex_df160 = true := by decide +kernel
theorem lnJ1_charAt_3b067 : lnB kJ1_charAt_3b067 = true := by decide +kernel
theorem lnJ1_canEncode_9a6ad : lnB kJ1_canEncode_9a6ad = true := by decide +kernel
theorem lnJ1_indexOf_4cfef : lnB kJ1_indexOf_4cfef = true := by decide +kernel
theorem lnJ1_indexOfChar_4cfef : lnB kJ1_indexOfChar_4cfef = true := by decide +kernel
theorem lnJ3_checkIndex_8e157 : lnB kJ3_checkIndex_8e157 = true := by decide +kernel
theorem lnX0_perform : lnB kX0_perform = true := by decide +kernel
theorem lnX0_callFrom : lnB kX0_callFrom = true := by decide +kernel
theorem lnX0_runBody : lnB kX0_runBody = true := by decide +kernel
theorem lnX1_become : lnB kX1_become = true := by decide +kernel
theorem lnX1_addSinger : lnB kX1_addSinger = true := by decide +kernel
theorem lnX1_addStone : lnB kX1_addStone = true := by decide +kernel
theorem lnX1_highOf : lnB kX1_highOf = true := by decide +kernel
theorem lnX1_canSing : lnB kX1_canSing = true := by decide +kernel
theorem lnX1_singing : lnB kX1_singing = true := by decide +kernel
theorem lnX1_measure : lnB kX1_measure = true := by decide +kernel
theorem lnX1_forceOf : lnB kX1_forceOf = true := by decide +kernel
theorem lnX1_strengthOf : lnB kX1_strengthOf = true := by decide +kernel
theorem lnX1_partners : lnB kX1_partners = true := by decide +kernel
theorem lnX1_bearing : lnB kX1_bearing = true := by decide +kernel
theorem lnX1_allOf : lnB kX1_allOf = true := by decide +kernel
theorem lnX1_allNow : lnB kX1_allNow = true := by decide +kernel
theorem lnX1_hangs : lnB kX1_hangs = true := by decide +kernel
theorem lnX1_sumHanging : lnB kX1_sumHanging = true := by decide +kernel
theorem lnX1_looseBits : lnB kX1_looseBits = true := by decide +kernel
theorem lnX1_countFallen : lnB kX1_countFallen = true := by decide +kernel
theorem lnX1_sumTired : lnB kX1_sumTired = true := by decide +kernel
theorem lnX1_goBeat : lnB kX1_goBeat = true := by decide +kernel
theorem lnX1_goRound : lnB kX1_goRound = true := by decide +kernel
theorem lnX1_keepNotes : lnB kX1_keepNotes = true := by decide +kernel
theorem lnX2_read : lnB kX2_read = true := by decide +kernel
theorem lnX2_peek : lnB kX2_peek = true := by decide +kernel
theorem lnX2_take : lnB kX2_take = true := by decide +kernel
theorem lnX2_readClause : lnB kX2_readClause = true := by decide +kernel
theorem lnX2_readWord : lnB kX2_readWord = true := by decide +kernel
theorem lnX2_readRest : lnB kX2_readRest = true := by decide +kernel
theorem lnX2_readNumber : lnB kX2_readNumber = true := by decide +kernel
theorem lnX2_readEither : lnB kX2_readEither = true := by decide +kernel
theorem lnX2_readBoth : lnB kX2_readBoth = true := by decide +kernel
theorem lnX2_readFactor : lnB kX2_readFactor = true := by decide +kernel
theorem lnX2_readTest : lnB kX2_readTest = true := by decide +kernel
theorem lnX2_indexOfNext : lnB kX2_indexOfNext = true := by decide +kernel
theorem lnX3_clear : lnB kX3_clear = true := by decide +kernel
theorem lnX3_addToken : lnB kX3_addToken = true := by decide +kernel
theorem lnX3_addClause : lnB kX3_addClause = true := by decide +kernel
theorem lnX3_gainOf : lnB kX3_gainOf = true := by decide +kernel
theorem lnX3_holds : lnB kX3_holds = true := by decide +kernel
theorem lnX4_become : lnB kX4_become = true := by decide +kernel
theorem lnX5_feed : lnB kX5_feed = true := by decide +kernel
theorem lnX5_setting : lnB kX5_setting = true := by decide +kernel
theorem lnX5_singer : lnB kX5_singer = true := by decide +kernel
theorem lnX5_of : lnB kX5_of = true := by decide +kernel
theorem lnX5_row : lnB kX5_row = true := by decide +kernel
theorem lnX5_sing : lnB kX5_sing = true := by decide +kernel
theorem lnX5_tire : lnB kX5_tire = true := by decide +kernel
theorem lnX5_stone : lnB kX5_stone = true := by decide +kernel
theorem lnX5_at : lnB kX5_at = true := by decide +kernel
theorem lnX5_prop : lnB kX5_prop = true := by decide +kernel
theorem lnX5_told : lnB kX5_told = true := by decide +kernel
theorem lnX5_beat : lnB kX5_beat = true := by decide +kernel
theorem lnX5_on : lnB kX5_on = true := by decide +kernel
theorem lnX5_steady : lnB kX5_steady = true := by decide +kernel
theorem lnX5_best : lnB kX5_best = true := by decide +kernel
theorem lnX5_chord : lnB kX5_chord = true := by decide +kernel
theorem lnX5_needed : lnB kX5_needed = true := by decide +kernel
theorem lnX5_spare : lnB kX5_spare = true := by decide +kernel
theorem lnX5_shift : lnB kX5_shift = true := by decide +kernel
theorem lnX5_ill : lnB kX5_ill = true := by decide +kernel
theorem lnX5_canon : lnB kX5_canon = true := by decide +kernel
theorem lnX5_props : lnB kX5_props = true := by decide +kernel
theorem lnX5_critical : lnB kX5_critical = true := by decide +kernel
theorem lnX5_load : lnB kX5_load = true := by decide +kernel
theorem lnX5_dust : lnB kX5_dust = true := by decide +kernel
theorem lnX5_flat : lnB kX5_flat = true := by decide +kernel
theorem lnX5_order : lnB kX5_order = true := by decide +kernel
theorem lnX5_odds : lnB kX5_odds = true := by decide +kernel
theorem lnX5_mean : lnB kX5_mean = true := by decide +kernel
theorem lnX5_wage : lnB kX5_wage = true := by decide +kernel
theorem lnX5_plan : lnB kX5_plan = true := by decide +kernel
theorem lnX5_planned : lnB kX5_planned = true := by decide +kernel
theorem lnX5_book : lnB kX5_book = true := by decide +kernel
theorem lnX5_looked : lnB kX5_looked = true := by decide +kernel
theorem lnX5_act : lnB kX5_act = true := by decide +kernel
theorem lnX5_trace : lnB kX5_trace = true := by decide +kernel
theorem lnX5_as : lnB kX5_as = true := by decide +kernel
theorem lnX5_image : lnB kX5_image = true := by decide +kernel
theorem lnX5_undo : lnB kX5_undo = true := by decide +kernel
theorem lnX5_count : lnB kX5_count = true := by decide +kernel
theorem lnX5_isSinger : lnB kX5_isSinger = true := by decide +kernel
theorem lnX5_isStone : lnB kX5_isStone = true := by decide +kernel
theorem lnX5_hasBit : lnB kX5_hasBit = true := by decide +kernel
theorem lnX5_bestNote : lnB kX5_bestNote = true := by decide +kernel
theorem lnX5_measureChords : lnB kX5_measureChords = true := by decide +kernel
theorem lnX5_chordNote : lnB kX5_chordNote = true := by decide +kernel
theorem lnX5_bestChord : lnB kX5_bestChord = true := by decide +kernel
theorem lnX5_singChord : lnB kX5_singChord = true := by decide +kernel
theorem lnX5_looseOf : lnB kX5_looseOf = true := by decide +kernel
theorem lnX5_spareBits : lnB kX5_spareBits = true := by decide +kernel
theorem lnX5_setShift : lnB kX5_setShift = true := by decide +kernel
theorem lnX5_isDustBy : lnB kX5_isDustBy = true := by decide +kernel
theorem lnX5_sortHanging : lnB kX5_sortHanging = true := by decide +kernel
theorem lnX5_inLowestTerms : lnB kX5_inLowestTerms = true := by decide +kernel
theorem lnX5_commonDivisor : lnB kX5_commonDivisor = true := by decide +kernel
theorem lnX6_in : lnB kX6_in = true := by decide +kernel
theorem lnX6_isSinger : lnB kX6_isSinger = true := by decide +kernel
theorem lnX6_isStone : lnB kX6_isStone = true := by decide +kernel
theorem lnX6_doesSing : lnB kX6_doesSing = true := by decide +kernel
theorem lnX6_keeps : lnB kX6_keeps = true := by decide +kernel
theorem lnX6_goesBack : lnB kX6_goesBack = true := by decide +kernel
theorem lnX6_feed : lnB kX6_feed = true := by decide +kernel
theorem lnX6_here : lnB kX6_here = true := by decide +kernel
theorem lnX6_must : lnB kX6_must = true := by decide +kernel
theorem lnX6_spells : lnB kX6_spells = true := by decide +kernel
theorem lnX6_figures : lnB kX6_figures = true := by decide +kernel
theorem lnX6_among : lnB kX6_among = true := by decide +kernel
theorem lnX6_emits : lnB kX6_emits = true := by decide +kernel
theorem lnX6_factor : lnB kX6_factor = true := by decide +kernel
theorem lnX6_every : lnB kX6_every = true := by decide +kernel
theorem lnX6_some : lnB kX6_some = true := by decide +kernel
theorem lnX6_much : lnB kX6_much = true := by decide +kernel
theorem lnX6_tellsHere : lnB kX6_tellsHere = true := by decide +kernel
theorem lnX6_clauseHere : lnB kX6_clauseHere = true := by decide +kernel
theorem lnX6_setting : lnB kX6_setting = true := by decide +kernel
theorem lnX6_tellsOf : lnB kX6_tellsOf = true := by decide +kernel
theorem lnX6_looks : lnB kX6_looks = true := by decide +kernel
theorem lnX6_strengthOf : lnB kX6_strengthOf = true := by decide +kernel
theorem lnX6_forceOf : lnB kX6_forceOf = true := by decide +kernel
theorem lnX6_isTune : lnB kX6_isTune = true := by decide +kernel
theorem lnX6_looksForForces : lnB kX6_looksForForces = true := by decide +kernel
theorem lnX6_isOf : lnB kX6_isOf = true := by decide +kernel
theorem lnX6_tunesOf : lnB kX6_tunesOf = true := by decide +kernel
theorem lnX6_bearsOf : lnB kX6_bearsOf = true := by decide +kernel
theorem lnX6_allBy : lnB kX6_allBy = true := by decide +kernel
theorem lnX6_singing : lnB kX6_singing = true := by decide +kernel
theorem lnX6_allNow : lnB kX6_allNow = true := by decide +kernel
theorem lnX6_doesHang : lnB kX6_doesHang = true := by decide +kernel
theorem lnX6_looseBy : lnB kX6_looseBy = true := by decide +kernel
theorem lnX6_fallenMany : lnB kX6_fallenMany = true := by decide +kernel
theorem lnX6_sizeOf : lnB kX6_sizeOf = true := by decide +kernel
theorem lnX6_hangingWeight : lnB kX6_hangingWeight = true := by decide +kernel
theorem lnX6_singer : lnB kX6_singer = true := by decide +kernel
theorem lnX6_highOf : lnB kX6_highOf = true := by decide +kernel
theorem lnX6_canSing : lnB kX6_canSing = true := by decide +kernel
theorem lnX6_of : lnB kX6_of = true := by decide +kernel
theorem lnX6_row : lnB kX6_row = true := by decide +kernel
theorem lnX6_sing : lnB kX6_sing = true := by decide +kernel
theorem lnX6_tire : lnB kX6_tire = true := by decide +kernel
theorem lnX6_stone : lnB kX6_stone = true := by decide +kernel
theorem lnX6_at : lnB kX6_at = true := by decide +kernel
theorem lnX6_prop : lnB kX6_prop = true := by decide +kernel
theorem lnX6_told : lnB kX6_told = true := by decide +kernel
theorem lnX6_goesBy : lnB kX6_goesBy = true := by decide +kernel
theorem lnX6_goes : lnB kX6_goes = true := by decide +kernel
theorem lnX6_beat : lnB kX6_beat = true := by decide +kernel
theorem lnX6_on : lnB kX6_on = true := by decide +kernel
theorem lnX6_steady : lnB kX6_steady = true := by decide +kernel
theorem lnX6_looksForNote : lnB kX6_looksForNote = true := by decide +kernel
theorem lnX6_best : lnB kX6_best = true := by decide +kernel
theorem lnX6_noteAbove : lnB kX6_noteAbove = true := by decide +kernel
theorem lnX6_chordsFrom : lnB kX6_chordsFrom = true := by decide +kernel
theorem lnX6_chord : lnB kX6_chord = true := by decide +kernel
theorem lnX6_needed : lnB kX6_needed = true := by decide +kernel
theorem lnX6_looseMany : lnB kX6_looseMany = true := by decide +kernel
theorem lnX6_spare : lnB kX6_spare = true := by decide +kernel
theorem lnX6_fewestOf : lnB kX6_fewestOf = true := by decide +kernel
theorem lnX6_shift : lnB kX6_shift = true := by decide +kernel
theorem lnX6_ill : lnB kX6_ill = true := by decide +kernel
theorem lnX6_goesRound : lnB kX6_goesRound = true := by decide +kernel
theorem lnX6_canon : lnB kX6_canon = true := by decide +kernel
theorem lnX6_weightOf : lnB kX6_weightOf = true := by decide +kernel
theorem lnX6_props : lnB kX6_props = true := by decide +kernel
theorem lnX6_critical : lnB kX6_critical = true := by decide +kernel
theorem lnX6_load : lnB kX6_load = true := by decide +kernel
theorem lnX6_dust : lnB kX6_dust = true := by decide +kernel
theorem lnX6_isDust : lnB kX6_isDust = true := by decide +kernel
theorem lnX6_isFlat : lnB kX6_isFlat = true := by decide +kernel
theorem lnX6_flat : lnB kX6_flat = true := by decide +kernel
theorem lnX6_lightest : lnB kX6_lightest = true := by decide +kernel
theorem lnX6_order : lnB kX6_order = true := by decide +kernel
theorem lnX6_lowest : lnB kX6_lowest = true := by decide +kernel
theorem lnX6_odds : lnB kX6_odds = true := by decide +kernel
theorem lnX6_mean : lnB kX6_mean = true := by decide +kernel
theorem lnX6_wage : lnB kX6_wage = true := by decide +kernel
theorem lnX6_plan : lnB kX6_plan = true := by decide +kernel
theorem lnX6_planned : lnB kX6_planned = true := by decide +kernel
theorem lnX6_book : lnB kX6_book = true := by decide +kernel
theorem lnX6_looked : lnB kX6_looked = true := by decide +kernel
theorem lnX6_ranBody : lnB kX6_ranBody = true := by decide +kernel
theorem lnX6_isUnder : lnB kX6_isUnder = true := by decide +kernel
theorem lnX6_plainSings : lnB kX6_plainSings = true := by decide +kernel
theorem lnX6_singsActs : lnB kX6_singsActs = true := by decide +kernel
theorem lnX6_plainBears : lnB kX6_plainBears = true := by decide +kernel
theorem lnX6_bearsActs : lnB kX6_bearsActs = true := by decide +kernel
theorem lnX6_plainTells : lnB kX6_plainTells = true := by decide +kernel
theorem lnX6_tellsActs : lnB kX6_tellsActs = true := by decide +kernel
theorem lnX6_act : lnB kX6_act = true := by decide +kernel
theorem lnX6_trace : lnB kX6_trace = true := by decide +kernel
theorem lnX6_as : lnB kX6_as = true := by decide +kernel
theorem lnX6_image : lnB kX6_image = true := by decide +kernel
theorem lnX6_undo : lnB kX6_undo = true := by decide +kernel
theorem lnX6_count : lnB kX6_count = true := by decide +kernel
theorem lnL_law : lnB kL_law = true := by decide +kernel
set_option maxRecDepth 20000 in
theorem ekJ6_compare_7cf53 : eoks 0 kJ6_compare_7cf53 := ⟨trivial, trivial, rfl, trivial, rfl, trivial, trivial, rfl, trivial, rfl, trivial, rfl, trivial⟩
set_option maxRecDepth 20000 in
theorem ekJ6_bitCount_0f7a4 : eoks 1 kJ6_bitCount_0f7a4 := ⟨trivial, trivial, trivial, trivial, lRJ6_265, trivial, trivial, trivial, trivial, lRJ6_266, trivial, trivial, trivial, trivial, lRJ6_266, trivial, trivial, trivial, trivial, trivial, trivial, trivial, trivial, lRJ6_267, trivial, trivial, trivial, trivial, trivial, trivial, trivial, trivial, trivial, trivial, trivial, trivial, trivial, trivial, trivial, trivial, trivial, rfl, trivial⟩
set_option maxRecDepth 20000 in
theorem ekJ0_length_8abf5 : eoks 2 kJ0_length_8abf5 := ⟨trivial, ⟨rfl, lRJ0_9⟩, trivial, trivial, lRJ0_335, trivial, rfl, trivial⟩
set_option maxRecDepth 20000 in
theorem ekJ0_charAt_5068e : eoks 3 kJ0_charAt_5068e := ⟨trivial, lRJ0_492, rfl, trivial, ⟨rfl, lRJ0_9⟩, trivial, lRJ0_495, rfl, trivial, ⟨rfl, lRJ0_9⟩, trivial, trivial, rfl, trivial⟩
set_option maxRecDepth 20000 in
theorem ekJ0_indexOf_0f7a4 : eoks 4 kJ0_indexOf_0f7a4 := ⟨trivial, trivial, trivial, lRJ0_633, rfl, trivial⟩
set_option maxRecDepth 20000 in
theorem ekJ0_indexOf_7cf53 : eoks 5 kJ0_indexOf_7cf53 := ⟨trivial, lRJ0_492, rfl, trivial, ⟨rfl, lRJ0_9⟩, trivial, trivial, trivial, lRJ0_505, lRJ0_637, rfl, trivial, ⟨rfl, lRJ0_9⟩, trivial, trivial, trivial, lRJ0_505, trivial, rfl, trivial⟩
set_option maxRecDepth 20000 in
theorem ekJ0_coder_7d493 : eoks 6 kJ0_coder_7d493 := ⟨lRJ0_38, rfl, trivial, ⟨rfl, lRJ0_15⟩, rfl, trivial, rfl, trivial⟩
set_option maxRecDepth 20000 in
theorem ekJ0_isLatin1_aae02 : eoks 7 kJ0_isLatin1_aae02 := ⟨lRJ0_38, rfl, trivial, ⟨rfl, lRJ0_15⟩, rfl, trivial, rfl, trivial, rfl, trivial⟩
set_option maxRecDepth 20000 in
theorem ekJ0_checkIndex_df160 : eoks 8 kJ0_checkIndex_df160 := ⟨trivial, trivial, lRJ0_1053, lRJ0_1059, trivial, rfl, trivial⟩
set_option maxRecDepth 20000 in
theorem ekJ1_charAt_3b067 : eoks 9 kJ1_charAt_3b067 := ⟨trivial, trivial, trivial, lRJ1_9, trivial, trivial, trivial, trivial, trivial, trivial, rfl, trivial⟩
set_option maxRecDepth 20000 in
theorem ekJ1_canEncode_9a6ad : eoks 10 kJ1_canEncode_9a6ad := ⟨trivial, rfl, trivial, trivial, rfl, trivial, rfl, trivial, rfl, trivial⟩
set_option maxRecDepth 20000 in
theorem ekJ1_indexOf_4cfef : eoks 11 kJ1_indexOf_4cfef := ⟨trivial, lRJ1_88, rfl, trivial, rfl, trivial, trivial, lRJ1_92, trivial, trivial, trivial, trivial, lRJ1_38, trivial, trivial, trivial, rfl, trivial, rfl, trivial, trivial, trivial, trivial, lRJ1_95, rfl, trivial⟩
set_option maxRecDepth 20000 in
theorem ekJ1_indexOfChar_4cfef : eoks 12 kJ1_indexOfChar_4cfef := ⟨trivial, trivial, trivial, trivial, trivial, trivial, trivial, rfl, trivial, trivial, trivial, trivial, rfl, trivial, rfl, trivial, rfl, trivial, rfl, trivial⟩
set_option maxRecDepth 20000 in
theorem ekJ3_checkIndex_8e157 : eoks 13 kJ3_checkIndex_8e157 := ⟨trivial, rfl, trivial, trivial, rfl, trivial, trivial, trivial, trivial, trivial, trivial, rfl, trivial⟩
set_option maxRecDepth 20000 in
theorem ekX0_perform : eoks 14 kX0_perform := ⟨trivial, trivial, ⟨rfl, lRX0_15⟩, trivial, trivial, trivial, lRX0_19, rfl, trivial⟩
set_option maxRecDepth 20000 in
theorem ekX0_callFrom : eoks 15 kX0_callFrom := ⟨trivial, trivial, trivial, trivial, trivial, trivial, rfl, trivial, rfl, trivial, trivial, rfl, ⟨rfl, lRX0_23⟩, trivial, trivial, trivial, trivial, trivial, trivial, trivial, trivial, rfl, trivial, trivial, trivial, trivial, trivial, trivial, lRX0_26, rfl, ⟨rfl, lRX0_30⟩, trivial, trivial, trivial, trivial, rfl, trivial, rfl, trivial⟩
set_option maxRecDepth 20000 in
theorem ekX0_runBody : eoks 16 kX0_runBody := ⟨trivial, trivial, rfl, trivial, rfl, trivial, ⟨rfl, lRX0_33⟩, trivial, rfl, trivial, ⟨rfl, lRX0_9⟩, trivial, ⟨rfl, lRX0_33⟩, trivial, trivial, trivial, trivial, ⟨rfl, lRX0_33⟩, trivial, trivial, ⟨rfl, lRX0_33⟩, trivial, rfl, trivial, trivial, ⟨rfl, lRX0_36⟩, trivial, rfl, trivial, trivial, ⟨rfl, lRX0_15⟩, trivial, trivial, trivial, lRX0_19, trivial, ⟨rfl, lRX0_39⟩, trivial, rfl, trivial, trivial, ⟨rfl, lRX0_15⟩, trivial, trivial, trivial, lRX0_19, trivial, trivial, rfl, trivial, trivial, trivial, trivial, trivial, trivial, trivial, lRX0_19, rfl, trivial, trivial, trivial, trivial, trivial, lRX0_19, trivial, rfl, trivial, trivial, trivial, trivial, trivial, lRX0_19, trivial, trivial, rfl, trivial, trivial, trivial, trivial, trivial, trivial, trivial, lRX0_19, trivial, trivial, ⟨rfl, lRX0_15⟩, trivial, trivial, trivial, lRX0_19, trivial, rfl, trivial, trivial, trivial, trivial, trivial, lRX0_19, trivial, ⟨rfl, lRX0_36⟩, trivial, rfl, trivial, trivial, trivial, trivial, trivial, lRX0_19, trivial, ⟨rfl, lRX0_39⟩, trivial, rfl, trivial, rfl, trivial⟩
set_option maxRecDepth 20000 in
theorem ekX1_become : eoks 17 kX1_become := ⟨trivial, trivial, ⟨rfl, lRX1_49⟩, ⟨rfl, lRX1_49⟩, trivial, trivial, ⟨rfl, lRX1_53⟩, ⟨rfl, lRX1_53⟩, trivial, trivial, ⟨rfl, lRX1_56⟩, ⟨rfl, lRX1_56⟩, trivial, trivial, ⟨rfl, lRX1_45⟩, ⟨rfl, lRX1_45⟩, trivial, ⟨rfl, lRX1_9⟩, trivial, trivial, ⟨rfl, lRX1_9⟩, trivial, trivial, lRX1_59, trivial, ⟨rfl, lRX1_15⟩, trivial, trivial, ⟨rfl, lRX1_15⟩, trivial, trivial, lRX1_59, trivial, ⟨rfl, lRX1_18⟩, trivial, trivial, ⟨rfl, lRX1_18⟩, trivial, trivial, lRX1_59, trivial, ⟨rfl, lRX1_21⟩, trivial, trivial, ⟨rfl, lRX1_21⟩, trivial, trivial, lRX1_59, trivial, ⟨rfl, lRX1_24⟩, trivial, trivial, ⟨rfl, lRX1_24⟩, trivial, trivial, lRX1_59, trivial, ⟨rfl, lRX1_27⟩, trivial, trivial, ⟨rfl, lRX1_27⟩, trivial, trivial, lRX1_59, trivial, ⟨rfl, lRX1_30⟩, trivial, trivial, ⟨rfl, lRX1_30⟩, trivial, trivial, lRX1_59, trivial, ⟨rfl, lRX1_33⟩, trivial, trivial, ⟨rfl, lRX1_33⟩, trivial, trivial, lRX1_59, trivial, ⟨rfl, lRX1_36⟩, trivial, trivial, ⟨rfl, lRX1_36⟩, trivial, trivial, lRX1_59, rfl, trivial⟩
set_option maxRecDepth 20000 in
theorem ekX1_addSinger : eoks 18 kX1_addSinger := ⟨trivial, ⟨rfl, lRX1_49⟩, trivial, trivial, trivial, rfl, trivial, rfl, trivial, ⟨rfl, lRX1_9⟩, trivial, trivial, trivial, trivial, ⟨rfl, lRX1_15⟩, trivial, trivial, trivial, trivial, ⟨rfl, lRX1_18⟩, trivial, trivial, trivial, trivial, ⟨rfl, lRX1_21⟩, trivial, trivial, trivial, trivial, trivial, ⟨rfl, lRX1_49⟩, trivial, trivial, ⟨rfl, lRX1_49⟩, trivial, rfl, trivial⟩
set_option maxRecDepth 20000 in
theorem ekX1_addStone : eoks 19 kX1_addStone := ⟨trivial, ⟨rfl, lRX1_53⟩, trivial, trivial, trivial, rfl, trivial, rfl, trivial, ⟨rfl, lRX1_30⟩, trivial, trivial, trivial, trivial, trivial, ⟨rfl, lRX1_53⟩, trivial, trivial, ⟨rfl, lRX1_53⟩, trivial, rfl, trivial⟩
set_option maxRecDepth 20000 in
theorem ekX1_highOf : eoks 20 kX1_highOf := ⟨trivial, trivial, ⟨rfl, lRX1_18⟩, trivial, trivial, trivial, trivial, lRX1_65, rfl, trivial⟩
set_option maxRecDepth 20000 in
theorem ekX1_canSing : eoks 21 kX1_canSing := ⟨trivial, trivial, ⟨rfl, lRX1_18⟩, trivial, trivial, rfl, trivial, trivial, trivial, lRX1_71, rfl, trivial, rfl, trivial, rfl, trivial⟩
set_option maxRecDepth 20000 in
theorem ekX1_singing : eoks 22 kX1_singing := ⟨trivial, trivial, trivial, trivial, trivial, trivial, ⟨rfl, lRX1_49⟩, rfl, trivial, ⟨rfl, lRX1_21⟩, trivial, trivial, trivial, rfl, trivial, trivial, trivial, trivial, trivial, trivial, trivial, rfl, trivial, rfl, trivial⟩
set_option maxRecDepth 20000 in
theorem ekX1_measure : eoks 23 kX1_measure := ⟨trivial, trivial, trivial, trivial, ⟨rfl, lRX1_49⟩, rfl, trivial, ⟨rfl, lRX1_39⟩, trivial, trivial, ⟨rfl, lRX1_21⟩, trivial, trivial, trivial, rfl, trivial, rfl, trivial, trivial, lRX1_75, trivial, trivial, rfl, rfl, trivial⟩
set_option maxRecDepth 20000 in
theorem ekX1_forceOf : eoks 24 kX1_forceOf := ⟨trivial, ⟨rfl, lRX1_24⟩, trivial, trivial, trivial, trivial, trivial, trivial, ⟨rfl, lRX1_42⟩, trivial, trivial, trivial, trivial, ⟨rfl, lRX1_42⟩, trivial, trivial, ⟨rfl, lRX1_9⟩, trivial, trivial, trivial, trivial, ⟨rfl, lRX1_42⟩, trivial, trivial, ⟨rfl, lRX1_15⟩, trivial, trivial, trivial, trivial, ⟨rfl, lRX1_42⟩, trivial, trivial, ⟨rfl, lRX1_21⟩, trivial, trivial, trivial, trivial, ⟨rfl, lRX1_42⟩, trivial, trivial, trivial, trivial, ⟨rfl, lRX1_42⟩, trivial, trivial, ⟨rfl, lRX1_56⟩, trivial, trivial, trivial, trivial, trivial, trivial, lRX1_78, trivial, ⟨rfl, lRX1_45⟩, trivial, ⟨rfl, lRX1_42⟩, lRX1_81, trivial, trivial, trivial, lRX1_87, rfl, trivial⟩
set_option maxRecDepth 20000 in
theorem ekX1_strengthOf : eoks 25 kX1_strengthOf := ⟨trivial, ⟨rfl, lRX1_21⟩, trivial, trivial, trivial, rfl, trivial, rfl, trivial, trivial, trivial, trivial, ⟨rfl, lRX1_21⟩, trivial, trivial, trivial, trivial, trivial, trivial, trivial, trivial, ⟨rfl, lRX1_15⟩, trivial, trivial, trivial, trivial, trivial, ⟨rfl, lRX1_15⟩, trivial, trivial, trivial, trivial, trivial, trivial, ⟨rfl, lRX1_9⟩, trivial, trivial, rfl, trivial, rfl, trivial, rfl, trivial, rfl, trivial, trivial, trivial, ⟨rfl, lRX1_21⟩, trivial, trivial, trivial, trivial, trivial, trivial, rfl, trivial, rfl, trivial, ⟨rfl, lRX1_56⟩, trivial, trivial, trivial, trivial, rfl, trivial, rfl, trivial, rfl, trivial, trivial, ⟨rfl, lRX1_27⟩, trivial, trivial, trivial, trivial, ⟨rfl, lRX1_56⟩, trivial, trivial, trivial, trivial, trivial, rfl, trivial, rfl, trivial⟩
set_option maxRecDepth 20000 in
theorem ekX1_partners : eoks 26 kX1_partners := ⟨trivial, trivial, trivial, trivial, trivial, trivial, ⟨rfl, lRX1_49⟩, rfl, trivial, ⟨rfl, lRX1_21⟩, trivial, trivial, trivial, ⟨rfl, lRX1_21⟩, trivial, trivial, trivial, lRX1_90, trivial, trivial, trivial, trivial, trivial, rfl, trivial, trivial, lRX1_93, rfl, trivial, trivial, lRX1_93, rfl, trivial, trivial, rfl, trivial, rfl, trivial⟩
set_option maxRecDepth 20000 in
theorem ekX1_bearing : eoks 27 kX1_bearing := ⟨trivial, trivial, trivial, lRX1_97, trivial, trivial, rfl, trivial, ⟨rfl, lRX1_39⟩, trivial, trivial, trivial, trivial, rfl, trivial, ⟨rfl, lRX1_39⟩, trivial, trivial, trivial, trivial, rfl, trivial⟩
set_option maxRecDepth 20000 in
theorem ekX1_allOf : eoks 28 kX1_allOf := ⟨trivial, trivial, trivial, trivial, trivial, trivial, ⟨rfl, lRX1_49⟩, rfl, trivial, trivial, lRX1_93, rfl, trivial, trivial, trivial, trivial, lRX1_100, trivial, trivial, trivial, rfl, trivial, rfl, trivial⟩
set_option maxRecDepth 20000 in
theorem ekX1_allNow : eoks 29 kX1_allNow := ⟨trivial, lRX1_103, trivial, trivial, lRX1_106, lRX1_110, rfl, trivial⟩
set_option maxRecDepth 20000 in
theorem ekX1_hangs : eoks 30 kX1_hangs := ⟨trivial, ⟨rfl, lRX1_33⟩, trivial, trivial, rfl, trivial, ⟨rfl, lRX1_36⟩, trivial, trivial, rfl, trivial, rfl, trivial, rfl, trivial⟩
set_option maxRecDepth 20000 in
theorem ekX1_sumHanging : eoks 31 kX1_sumHanging := ⟨trivial, trivial, trivial, trivial, trivial, trivial, ⟨rfl, lRX1_53⟩, rfl, trivial, trivial, trivial, lRX1_113, rfl, trivial, ⟨rfl, lRX1_30⟩, trivial, trivial, rfl, trivial, trivial, trivial, trivial, rfl, trivial, rfl, trivial⟩
set_option maxRecDepth 20000 in
theorem ekX1_looseBits : eoks 32 kX1_looseBits := ⟨trivial, trivial, trivial, trivial, trivial, trivial, trivial, trivial, ⟨rfl, lRX1_53⟩, rfl, trivial, trivial, lRX1_113, rfl, trivial, trivial, ⟨rfl, lRX1_30⟩, trivial, trivial, trivial, trivial, trivial, trivial, trivial, rfl, trivial, trivial, trivial, rfl, trivial, trivial, trivial, trivial, rfl, trivial, rfl, trivial⟩
set_option maxRecDepth 20000 in
theorem ekX1_countFallen : eoks 33 kX1_countFallen := ⟨trivial, trivial, trivial, trivial, trivial, trivial, ⟨rfl, lRX1_53⟩, rfl, trivial, trivial, ⟨rfl, lRX1_36⟩, trivial, trivial, trivial, trivial, trivial, rfl, trivial, rfl, trivial⟩
set_option maxRecDepth 20000 in
theorem ekX1_sumTired : eoks 34 kX1_sumTired := ⟨trivial, trivial, trivial, trivial, trivial, trivial, ⟨rfl, lRX1_49⟩, rfl, trivial, trivial, ⟨rfl, lRX1_24⟩, trivial, trivial, trivial, trivial, trivial, rfl, trivial, rfl, trivial⟩
set_option maxRecDepth 20000 in
theorem ekX1_goBeat : eoks 35 kX1_goBeat := ⟨trivial, lRX1_103, trivial, trivial, trivial, lRX1_106, lRX1_110, lRX1_117, trivial, trivial, trivial, trivial, trivial, ⟨rfl, lRX1_53⟩, rfl, trivial, trivial, lRX1_93, rfl, trivial, ⟨rfl, lRX1_36⟩, trivial, trivial, trivial, trivial, rfl, trivial, trivial, trivial, trivial, ⟨rfl, lRX1_49⟩, rfl, trivial, ⟨rfl, lRX1_24⟩, trivial, trivial, ⟨rfl, lRX1_21⟩, trivial, trivial, trivial, rfl, trivial, trivial, ⟨rfl, lRX1_24⟩, trivial, trivial, trivial, ⟨rfl, lRX1_45⟩, ⟨rfl, lRX1_120⟩, trivial, lRX1_87, rfl, trivial, trivial, ⟨rfl, lRX1_24⟩, trivial, trivial, trivial, ⟨rfl, lRX1_45⟩, ⟨rfl, lRX1_123⟩, trivial, lRX1_65, trivial, trivial, rfl, trivial, trivial, ⟨rfl, lRX1_56⟩, trivial, trivial, ⟨rfl, lRX1_56⟩, trivial, lRX1_126, rfl, trivial⟩
set_option maxRecDepth 20000 in
theorem ekX1_goRound : eoks 36 kX1_goRound := ⟨trivial, ⟨rfl, lRX1_49⟩, rfl, rfl, trivial, ⟨rfl, lRX1_21⟩, trivial, ⟨rfl, lRX1_49⟩, trivial, trivial, trivial, trivial, trivial, ⟨rfl, lRX1_49⟩, trivial, trivial, trivial, trivial, rfl, trivial, rfl, trivial, rfl, trivial, ⟨rfl, lRX1_21⟩, trivial, trivial, trivial, trivial, trivial, trivial, ⟨rfl, lRX1_21⟩, trivial, trivial, trivial, trivial, lRX1_131, rfl, trivial, rfl, trivial, trivial, trivial, rfl, rfl, trivial⟩
set_option maxRecDepth 20000 in
theorem ekX1_keepNotes : eoks 37 kX1_keepNotes := ⟨trivial, trivial, trivial, trivial, ⟨rfl, lRX1_49⟩, rfl, trivial, ⟨rfl, lRX1_21⟩, trivial, trivial, trivial, lRX1_93, rfl, trivial, ⟨rfl, lRX1_21⟩, trivial, trivial, rfl, trivial, trivial, trivial, rfl, rfl, trivial⟩
set_option maxRecDepth 20000 in
theorem ekX2_read : eoks 38 kX2_read := ⟨trivial, trivial, ⟨rfl, lRX2_9⟩, trivial, trivial, trivial, trivial, lRX2_15, ⟨rfl, lRX2_21⟩, trivial, trivial, ⟨rfl, lRX2_25⟩, trivial, trivial, ⟨rfl, lRX2_28⟩, trivial, ⟨rfl, lRX2_28⟩, lRX2_32, trivial, trivial, trivial, trivial, rfl, trivial, lRX2_37, rfl, trivial, ⟨rfl, lRX2_25⟩, rfl, trivial, ⟨rfl, lRX2_25⟩, trivial, ⟨rfl, lRX2_21⟩, rfl, trivial, rfl, trivial, trivial, rfl, trivial, trivial, lRX2_41, rfl, trivial, ⟨rfl, lRX2_25⟩, rfl, trivial, rfl, trivial, ⟨rfl, lRX2_25⟩, rfl, trivial⟩
set_option maxRecDepth 20000 in
theorem ekX2_peek : eoks 39 kX2_peek := ⟨trivial, ⟨rfl, lRX2_25⟩, trivial, ⟨rfl, lRX2_21⟩, rfl, trivial, ⟨rfl, lRX2_9⟩, trivial, ⟨rfl, lRX2_25⟩, trivial, rfl, trivial, rfl, trivial⟩
set_option maxRecDepth 20000 in
theorem ekX2_take : eoks 40 kX2_take := ⟨trivial, lRX2_45, trivial, rfl, trivial, rfl, trivial, trivial, ⟨rfl, lRX2_25⟩, trivial, trivial, ⟨rfl, lRX2_25⟩, trivial, rfl, trivial⟩
set_option maxRecDepth 20000 in
theorem ekX2_readClause : eoks 41 kX2_readClause := ⟨trivial, lRX2_45, rfl, trivial, lRX2_49, lRX2_51, rfl, trivial, trivial, lRX2_55, rfl, trivial, rfl, trivial, rfl, trivial, lRX2_59, lRX2_51, rfl, trivial, trivial, lRX2_55, rfl, trivial, rfl, trivial, rfl, trivial, lRX2_61, lRX2_51, rfl, trivial, trivial, lRX2_55, rfl, trivial, rfl, trivial, rfl, trivial, lRX2_63, lRX2_51, rfl, trivial, trivial, lRX2_55, rfl, trivial, rfl, trivial, rfl, trivial, rfl, trivial⟩
set_option maxRecDepth 20000 in
theorem ekX2_readWord : eoks 42 kX2_readWord := ⟨trivial, trivial, trivial, trivial, lRX2_65, rfl, trivial, trivial, trivial, lRX2_70, lRX2_41, rfl, trivial, rfl, trivial, rfl, trivial, rfl, trivial⟩
set_option maxRecDepth 20000 in
theorem ekX2_readRest : eoks 43 kX2_readRest := ⟨trivial, lRX2_74, trivial, trivial, rfl, trivial, rfl, trivial, ⟨rfl, lRX2_28⟩, ⟨rfl, lRX2_77⟩, trivial, trivial, trivial, rfl, trivial, trivial, rfl, trivial, rfl, trivial, trivial, trivial, rfl, trivial, trivial, lRX2_41, rfl, trivial, trivial, lRX2_80, rfl, trivial, rfl, trivial, ⟨rfl, lRX2_28⟩, trivial, trivial, trivial, lRX2_83, trivial, rfl, trivial⟩
set_option maxRecDepth 20000 in
theorem ekX2_readNumber : eoks 44 kX2_readNumber := ⟨trivial, lRX2_45, trivial, trivial, trivial, trivial, rfl, trivial, trivial, rfl, trivial, rfl, trivial, trivial, ⟨rfl, lRX2_25⟩, trivial, trivial, ⟨rfl, lRX2_25⟩, trivial, lRX2_45, trivial, trivial, trivial, trivial, rfl, trivial, rfl, trivial, trivial, rfl, trivial, rfl, trivial, trivial, ⟨rfl, lRX2_25⟩, trivial, trivial, ⟨rfl, lRX2_25⟩, trivial, trivial, trivial, trivial, trivial, rfl, trivial⟩
set_option maxRecDepth 20000 in
theorem ekX2_readEither : eoks 45 kX2_readEither := ⟨trivial, trivial, lRX2_87, rfl, trivial, rfl, trivial, trivial, trivial, trivial, rfl, trivial, trivial, lRX2_41, rfl, trivial, trivial, lRX2_87, rfl, trivial, rfl, trivial, ⟨rfl, lRX2_28⟩, trivial, lRX2_90, trivial, rfl, trivial, rfl, trivial⟩
set_option maxRecDepth 20000 in
theorem ekX2_readBoth : eoks 46 kX2_readBoth := ⟨trivial, trivial, lRX2_94, rfl, trivial, rfl, trivial, trivial, trivial, trivial, rfl, trivial, trivial, lRX2_41, rfl, trivial, trivial, lRX2_94, rfl, trivial, rfl, trivial, ⟨rfl, lRX2_28⟩, trivial, lRX2_90, trivial, rfl, trivial, rfl, trivial⟩
set_option maxRecDepth 20000 in
theorem ekX2_readFactor : eoks 47 kX2_readFactor := ⟨trivial, lRX2_45, trivial, trivial, trivial, rfl, trivial, trivial, rfl, trivial, lRX2_97, rfl, trivial, trivial, rfl, trivial, rfl, trivial, trivial, ⟨rfl, lRX2_25⟩, trivial, trivial, ⟨rfl, lRX2_25⟩, trivial, trivial, rfl, trivial, trivial, trivial, trivial, lRX2_80, rfl, trivial, trivial, lRX2_41, rfl, trivial, rfl, trivial, rfl, trivial, trivial, trivial, trivial, lRX2_94, rfl, trivial, rfl, trivial, ⟨rfl, lRX2_28⟩, trivial, lRX2_90, trivial, rfl, trivial⟩
set_option maxRecDepth 20000 in
theorem ekX2_readTest : eoks 48 kX2_readTest := ⟨trivial, lRX2_100, lRX2_102, trivial, trivial, rfl, trivial, rfl, trivial, lRX2_106, lRX2_102, trivial, trivial, rfl, trivial, rfl, trivial, lRX2_74, trivial, trivial, rfl, trivial, rfl, trivial, ⟨rfl, lRX2_28⟩, trivial, trivial, trivial, trivial, trivial, trivial, trivial, trivial, trivial, lRX2_90, trivial, rfl, trivial⟩
set_option maxRecDepth 20000 in
theorem ekX2_indexOfNext : eoks 49 kX2_indexOfNext := ⟨trivial, lRX2_45, trivial, trivial, rfl, trivial, rfl, trivial, trivial, trivial, lRX2_108, trivial, trivial, rfl, trivial, trivial, ⟨rfl, lRX2_25⟩, trivial, trivial, ⟨rfl, lRX2_25⟩, trivial, rfl, trivial⟩
set_option maxRecDepth 20000 in
theorem ekX3_clear : eoks 50 kX3_clear := ⟨trivial, trivial, ⟨rfl, lRX3_30⟩, trivial, trivial, ⟨rfl, lRX3_34⟩, trivial, trivial, ⟨rfl, lRX3_37⟩, trivial, trivial, ⟨rfl, lRX3_40⟩, rfl, trivial⟩
set_option maxRecDepth 20000 in
theorem ekX3_addToken : eoks 51 kX3_addToken := ⟨trivial, ⟨rfl, lRX3_34⟩, trivial, ⟨rfl, lRX3_24⟩, trivial, rfl, trivial, ⟨rfl, lRX3_24⟩, trivial, ⟨rfl, lRX3_34⟩, trivial, trivial, trivial, trivial, ⟨rfl, lRX3_34⟩, trivial, trivial, ⟨rfl, lRX3_34⟩, rfl, trivial⟩
set_option maxRecDepth 20000 in
theorem ekX3_addClause : eoks 52 kX3_addClause := ⟨trivial, ⟨rfl, lRX3_30⟩, trivial, rfl, rfl, trivial, ⟨rfl, lRX3_9⟩, trivial, ⟨rfl, lRX3_30⟩, trivial, trivial, trivial, ⟨rfl, lRX3_15⟩, trivial, ⟨rfl, lRX3_30⟩, trivial, trivial, trivial, ⟨rfl, lRX3_18⟩, trivial, ⟨rfl, lRX3_30⟩, trivial, trivial, trivial, ⟨rfl, lRX3_21⟩, trivial, ⟨rfl, lRX3_30⟩, trivial, ⟨rfl, lRX3_34⟩, trivial, trivial, trivial, ⟨rfl, lRX3_30⟩, trivial, trivial, ⟨rfl, lRX3_30⟩, trivial, rfl, trivial, trivial, ⟨rfl, lRX3_37⟩, rfl, trivial, trivial, rfl, trivial, trivial, ⟨rfl, lRX3_40⟩, rfl, trivial⟩
set_option maxRecDepth 20000 in
theorem ekX3_gainOf : eoks 53 kX3_gainOf := ⟨trivial, trivial, trivial, trivial, trivial, trivial, ⟨rfl, lRX3_30⟩, rfl, trivial, ⟨rfl, lRX3_9⟩, trivial, trivial, trivial, rfl, trivial, trivial, trivial, lRX3_43, rfl, trivial, trivial, ⟨rfl, lRX3_15⟩, trivial, trivial, trivial, trivial, rfl, trivial, ⟨rfl, lRX3_9⟩, trivial, trivial, trivial, rfl, trivial, trivial, trivial, lRX3_43, rfl, trivial, trivial, ⟨rfl, lRX3_15⟩, trivial, trivial, trivial, trivial, trivial, rfl, trivial, rfl, trivial⟩
set_option maxRecDepth 20000 in
theorem ekX3_holds : eoks 54 kX3_holds := ⟨trivial, trivial, trivial, ⟨rfl, lRX3_18⟩, trivial, trivial, trivial, trivial, trivial, ⟨rfl, lRX3_21⟩, trivial, trivial, rfl, trivial, ⟨rfl, lRX3_24⟩, trivial, trivial, trivial, trivial, trivial, trivial, trivial, trivial, rfl, trivial, trivial, trivial, trivial, trivial, trivial, trivial, lRX3_47, trivial, trivial, trivial, trivial, trivial, trivial, trivial, lRX3_53, trivial, trivial, trivial, trivial, trivial, trivial, trivial, trivial, trivial, trivial, trivial, trivial, rfl, trivial, rfl, trivial, trivial, trivial, rfl, trivial, trivial, rfl, trivial, trivial, trivial, trivial, rfl, trivial, trivial, trivial, trivial, trivial, trivial, rfl, trivial, trivial, trivial, trivial, trivial, rfl, trivial, trivial, trivial, trivial, trivial, rfl, trivial, trivial, trivial, rfl, trivial, rfl, trivial, rfl, trivial⟩
set_option maxRecDepth 20000 in
theorem ekX4_become : eoks 55 kX4_become := ⟨trivial, trivial, ⟨rfl, lRX4_33⟩, ⟨rfl, lRX4_33⟩, trivial, trivial, ⟨rfl, lRX4_37⟩, ⟨rfl, lRX4_37⟩, trivial, trivial, ⟨rfl, lRX4_40⟩, ⟨rfl, lRX4_40⟩, trivial, trivial, ⟨rfl, lRX4_43⟩, ⟨rfl, lRX4_43⟩, trivial, trivial, ⟨rfl, lRX4_46⟩, ⟨rfl, lRX4_46⟩, trivial, ⟨rfl, lRX4_9⟩, trivial, trivial, ⟨rfl, lRX4_9⟩, trivial, trivial, lRX4_49, trivial, ⟨rfl, lRX4_15⟩, trivial, trivial, ⟨rfl, lRX4_15⟩, trivial, trivial, lRX4_49, trivial, ⟨rfl, lRX4_18⟩, trivial, trivial, ⟨rfl, lRX4_18⟩, trivial, trivial, lRX4_49, trivial, ⟨rfl, lRX4_21⟩, trivial, trivial, ⟨rfl, lRX4_21⟩, trivial, trivial, lRX4_49, trivial, ⟨rfl, lRX4_24⟩, trivial, trivial, ⟨rfl, lRX4_24⟩, trivial, trivial, lRX4_49, trivial, ⟨rfl, lRX4_27⟩, trivial, trivial, ⟨rfl, lRX4_27⟩, trivial, trivial, lRX4_49, trivial, ⟨rfl, lRX4_30⟩, trivial, trivial, ⟨rfl, lRX4_30⟩, trivial, trivial, lRX4_49, rfl, trivial⟩
set_option maxRecDepth 20000 in
theorem ekX5_feed : eoks 56 kX5_feed := ⟨trivial, rfl, trivial, trivial, rfl, trivial, rfl, trivial, ⟨rfl, lRX5_34⟩, ⟨rfl, lRX5_64⟩, trivial, rfl, trivial, rfl, trivial, ⟨rfl, lRX5_34⟩, ⟨rfl, lRX5_68⟩, trivial, ⟨rfl, lRX5_34⟩, ⟨rfl, lRX5_64⟩, trivial, trivial, trivial, ⟨rfl, lRX5_34⟩, trivial, ⟨rfl, lRX5_64⟩, trivial, trivial, ⟨rfl, lRX5_64⟩, trivial, ⟨rfl, lRX5_34⟩, ⟨rfl, lRX5_64⟩, rfl, trivial⟩
set_option maxRecDepth 20000 in
theorem ekX5_setting : eoks 57 kX5_setting := ⟨trivial, ⟨rfl, lRX5_34⟩, ⟨rfl, lRX5_71⟩, trivial, rfl, trivial, rfl, trivial, ⟨rfl, lRX5_13⟩, trivial, ⟨rfl, lRX5_34⟩, ⟨rfl, lRX5_71⟩, trivial, trivial, trivial, trivial, trivial, ⟨rfl, lRX5_20⟩, trivial, ⟨rfl, lRX5_34⟩, ⟨rfl, lRX5_68⟩, trivial, ⟨rfl, lRX5_34⟩, ⟨rfl, lRX5_64⟩, trivial, lRX5_73, trivial, trivial, ⟨rfl, lRX5_34⟩, trivial, ⟨rfl, lRX5_64⟩, trivial, rfl, trivial, trivial, trivial, rfl, trivial, ⟨rfl, lRX5_54⟩, trivial, ⟨rfl, lRX5_77⟩, trivial, ⟨rfl, lRX5_34⟩, trivial, ⟨rfl, lRX5_71⟩, trivial, trivial, ⟨rfl, lRX5_71⟩, trivial, ⟨rfl, lRX5_34⟩, ⟨rfl, lRX5_71⟩, trivial, trivial, rfl, trivial⟩
set_option maxRecDepth 20000 in
theorem ekX5_singer : eoks 58 kX5_singer := ⟨trivial, rfl, trivial, trivial, rfl, trivial, rfl, trivial, rfl, trivial, trivial, rfl, trivial, rfl, trivial, trivial, rfl, trivial, rfl, trivial, ⟨rfl, lRX5_54⟩, ⟨rfl, lRX5_81⟩, trivial, rfl, trivial, rfl, trivial, ⟨rfl, lRX5_54⟩, trivial, trivial, trivial, lRX5_84, rfl, trivial⟩
set_option maxRecDepth 20000 in
theorem ekX5_of : eoks 59 kX5_of := ⟨trivial, trivial, lRX5_88, rfl, trivial, rfl, trivial, ⟨rfl, lRX5_54⟩, ⟨rfl, lRX5_92⟩, trivial, trivial, trivial, rfl, trivial, rfl, trivial, trivial, trivial, ⟨rfl, lRX5_54⟩, lRX5_95, trivial, rfl, trivial, ⟨rfl, lRX5_54⟩, ⟨rfl, lRX5_98⟩, trivial, trivial, rfl, trivial, ⟨rfl, lRX5_54⟩, ⟨rfl, lRX5_101⟩, trivial, trivial, rfl, trivial, ⟨rfl, lRX5_54⟩, ⟨rfl, lRX5_104⟩, trivial, trivial, rfl, trivial, rfl, trivial, ⟨rfl, lRX5_54⟩, ⟨rfl, lRX5_92⟩, trivial, trivial, rfl, trivial, rfl, trivial, ⟨rfl, lRX5_54⟩, ⟨rfl, lRX5_107⟩, trivial, trivial, rfl, trivial, ⟨rfl, lRX5_54⟩, ⟨rfl, lRX5_110⟩, trivial, trivial, rfl, trivial, rfl, trivial, ⟨rfl, lRX5_54⟩, trivial, trivial, ⟨rfl, lRX5_54⟩, lRX5_113, lRX5_117, rfl, trivial, rfl, trivial, rfl, trivial, ⟨rfl, lRX5_54⟩, trivial, trivial, ⟨rfl, lRX5_54⟩, lRX5_113, lRX5_121, rfl, trivial, rfl, trivial, rfl, trivial⟩
set_option maxRecDepth 20000 in
theorem ekX5_row : eoks 60 kX5_row := ⟨trivial, trivial, lRX5_88, rfl, trivial, rfl, trivial, trivial, rfl, trivial, rfl, trivial, rfl, trivial, trivial, rfl, trivial, rfl, trivial, ⟨rfl, lRX5_54⟩, ⟨rfl, lRX5_98⟩, trivial, trivial, trivial, rfl, trivial, rfl, trivial, ⟨rfl, lRX5_54⟩, ⟨rfl, lRX5_124⟩, trivial, trivial, trivial, trivial, trivial, trivial, trivial, trivial, ⟨rfl, lRX5_54⟩, ⟨rfl, lRX5_124⟩, trivial, trivial, trivial, trivial, trivial, trivial, trivial, trivial, rfl, trivial⟩
set_option maxRecDepth 20000 in
theorem ekX5_sing : eoks 61 kX5_sing := ⟨trivial, trivial, lRX5_88, rfl, trivial, rfl, trivial, trivial, rfl, trivial, ⟨rfl, lRX5_54⟩, trivial, trivial, lRX5_127, rfl, trivial, rfl, trivial, ⟨rfl, lRX5_54⟩, ⟨rfl, lRX5_92⟩, trivial, trivial, trivial, trivial, ⟨rfl, lRX5_54⟩, ⟨rfl, lRX5_92⟩, trivial, trivial, trivial, trivial, trivial, rfl, trivial, rfl, trivial, rfl, trivial⟩
set_option maxRecDepth 20000 in
theorem ekX5_tire : eoks 62 kX5_tire := ⟨trivial, trivial, lRX5_88, rfl, trivial, rfl, trivial, rfl, trivial, trivial, rfl, trivial, rfl, trivial, ⟨rfl, lRX5_54⟩, ⟨rfl, lRX5_107⟩, trivial, trivial, trivial, trivial, ⟨rfl, lRX5_54⟩, ⟨rfl, lRX5_107⟩, trivial, trivial, trivial, trivial, rfl, trivial⟩
set_option maxRecDepth 20000 in
theorem ekX5_stone : eoks 63 kX5_stone := ⟨trivial, trivial, rfl, trivial, trivial, rfl, trivial, rfl, trivial, ⟨rfl, lRX5_54⟩, ⟨rfl, lRX5_131⟩, trivial, rfl, trivial, rfl, trivial, ⟨rfl, lRX5_54⟩, trivial, lRX5_134, rfl, trivial⟩
set_option maxRecDepth 20000 in
theorem ekX5_at : eoks 64 kX5_at := ⟨trivial, trivial, lRX5_138, rfl, trivial, rfl, trivial, rfl, trivial, ⟨rfl, lRX5_54⟩, ⟨rfl, lRX5_141⟩, trivial, trivial, rfl, trivial, ⟨rfl, lRX5_54⟩, ⟨rfl, lRX5_144⟩, trivial, trivial, rfl, trivial, ⟨rfl, lRX5_54⟩, ⟨rfl, lRX5_147⟩, trivial, trivial, rfl, trivial, ⟨rfl, lRX5_54⟩, trivial, ⟨rfl, lRX5_54⟩, lRX5_150, lRX5_153, trivial, trivial, trivial, trivial, rfl, trivial, rfl, trivial⟩
set_option maxRecDepth 20000 in
theorem ekX5_prop : eoks 65 kX5_prop := ⟨trivial, trivial, lRX5_138, rfl, trivial, rfl, trivial, ⟨rfl, lRX5_54⟩, ⟨rfl, lRX5_147⟩, trivial, trivial, rfl, trivial, rfl, trivial, ⟨rfl, lRX5_54⟩, ⟨rfl, lRX5_144⟩, trivial, trivial, trivial, trivial, ⟨rfl, lRX5_54⟩, ⟨rfl, lRX5_144⟩, trivial, trivial, rfl, trivial, rfl, trivial, trivial, trivial, rfl, trivial⟩
set_option maxRecDepth 20000 in
theorem ekX5_told : eoks 66 kX5_told := ⟨trivial, rfl, trivial, ⟨rfl, lRX5_54⟩, ⟨rfl, lRX5_156⟩, rfl, trivial, ⟨rfl, lRX5_54⟩, ⟨rfl, lRX5_77⟩, ⟨rfl, lRX5_159⟩, rfl, trivial, ⟨rfl, lRX5_54⟩, ⟨rfl, lRX5_77⟩, ⟨rfl, lRX5_162⟩, rfl, trivial, ⟨rfl, lRX5_54⟩, lRX5_150, rfl, trivial, ⟨rfl, lRX5_54⟩, trivial, ⟨rfl, lRX5_54⟩, lRX5_150, lRX5_153, rfl, trivial, ⟨rfl, lRX5_54⟩, lRX5_165, rfl, trivial, rfl, trivial⟩
set_option maxRecDepth 20000 in
theorem ekX5_beat : eoks 67 kX5_beat := ⟨trivial, ⟨rfl, lRX5_54⟩, ⟨rfl, lRX5_156⟩, lRX5_168, rfl, trivial, rfl, trivial, ⟨rfl, lRX5_54⟩, lRX5_169, rfl, trivial⟩
set_option maxRecDepth 20000 in
theorem ekX5_on : eoks 68 kX5_on := ⟨trivial, trivial, rfl, trivial, trivial, trivial, trivial, lRX5_88, rfl, trivial, rfl, trivial, trivial, trivial, rfl, trivial, rfl, trivial, trivial, rfl, trivial, rfl, trivial, rfl, trivial, trivial, rfl, trivial, rfl, trivial, ⟨rfl, lRX5_58⟩, trivial, ⟨rfl, lRX5_54⟩, lRX5_172, trivial, trivial, trivial, trivial, trivial, trivial, rfl, trivial, ⟨rfl, lRX5_58⟩, lRX5_169, rfl, trivial, trivial, rfl, trivial, trivial, trivial, rfl, trivial, rfl, trivial, ⟨rfl, lRX5_58⟩, ⟨rfl, lRX5_107⟩, trivial, trivial, trivial, trivial, rfl, trivial, trivial, rfl, trivial, rfl, trivial, rfl, trivial, ⟨rfl, lRX5_58⟩, lRX5_165, rfl, trivial, ⟨rfl, lRX5_58⟩, lRX5_150, rfl, trivial⟩
set_option maxRecDepth 20000 in
theorem ekX5_steady : eoks 69 kX5_steady := ⟨trivial, ⟨rfl, lRX5_58⟩, trivial, ⟨rfl, lRX5_54⟩, lRX5_172, trivial, trivial, trivial, trivial, rfl, trivial, ⟨rfl, lRX5_58⟩, trivial, ⟨rfl, lRX5_58⟩, lRX5_150, lRX5_153, rfl, trivial, rfl, trivial, ⟨rfl, lRX5_58⟩, lRX5_169, trivial, trivial, rfl, trivial, rfl, trivial⟩
set_option maxRecDepth 20000 in
theorem ekX5_best : eoks 70 kX5_best := ⟨trivial, trivial, lRX5_88, rfl, trivial, rfl, trivial, trivial, rfl, trivial, rfl, trivial, ⟨rfl, lRX5_58⟩, trivial, ⟨rfl, lRX5_54⟩, lRX5_172, trivial, trivial, lRX5_176, trivial, trivial, rfl, trivial, rfl, trivial, ⟨rfl, lRX5_58⟩, ⟨rfl, lRX5_92⟩, trivial, trivial, trivial, trivial, ⟨rfl, lRX5_58⟩, lRX5_150, rfl, trivial⟩
set_option maxRecDepth 20000 in
theorem ekX5_chord : eoks 71 kX5_chord := ⟨trivial, trivial, rfl, trivial, trivial, rfl, trivial, rfl, trivial, ⟨rfl, lRX5_54⟩, ⟨rfl, lRX5_81⟩, trivial, rfl, trivial, rfl, trivial, trivial, ⟨rfl, lRX5_54⟩, ⟨rfl, lRX5_81⟩, rfl, trivial, rfl, trivial, lRX5_179, trivial, trivial, lRX5_182, lRX5_185, trivial, trivial, rfl, trivial, rfl, trivial, ⟨rfl, lRX5_58⟩, ⟨rfl, lRX5_92⟩, trivial, trivial, rfl, trivial⟩
set_option maxRecDepth 20000 in
theorem ekX5_needed : eoks 72 kX5_needed := ⟨trivial, ⟨rfl, lRX5_54⟩, lRX5_95, trivial, ⟨rfl, lRX5_54⟩, lRX5_113, trivial, trivial, trivial, trivial, trivial, trivial, trivial, trivial, trivial, ⟨rfl, lRX5_54⟩, ⟨rfl, lRX5_81⟩, rfl, trivial, trivial, lRX5_188, rfl, trivial, ⟨rfl, lRX5_54⟩, trivial, trivial, trivial, trivial, trivial, trivial, trivial, lRX5_191, trivial, trivial, trivial, rfl, trivial, trivial, rfl, trivial, trivial, trivial, trivial, trivial, rfl, trivial, rfl, trivial⟩
set_option maxRecDepth 20000 in
theorem ekX5_spare : eoks 73 kX5_spare := ⟨trivial, ⟨rfl, lRX5_54⟩, lRX5_95, trivial, trivial, ⟨rfl, lRX5_54⟩, lRX5_113, lRX5_194, rfl, trivial⟩
set_option maxRecDepth 20000 in
theorem ekX5_shift : eoks 74 kX5_shift := ⟨trivial, rfl, trivial, trivial, rfl, trivial, rfl, trivial, trivial, rfl, trivial, trivial, rfl, trivial, rfl, trivial, ⟨rfl, lRX5_58⟩, trivial, ⟨rfl, lRX5_54⟩, lRX5_172, trivial, trivial, trivial, trivial, trivial, trivial, rfl, trivial, lRX5_197, trivial, trivial, ⟨rfl, lRX5_58⟩, lRX5_169, trivial, trivial, rfl, trivial, rfl, trivial, ⟨rfl, lRX5_58⟩, lRX5_200, rfl, trivial, trivial, rfl, trivial, ⟨rfl, lRX5_58⟩, lRX5_165, rfl, trivial, rfl, trivial⟩
set_option maxRecDepth 20000 in
theorem ekX5_ill : eoks 75 kX5_ill := ⟨trivial, trivial, lRX5_88, rfl, trivial, rfl, trivial, ⟨rfl, lRX5_54⟩, ⟨rfl, lRX5_92⟩, trivial, trivial, trivial, rfl, trivial, rfl, trivial, ⟨rfl, lRX5_58⟩, trivial, ⟨rfl, lRX5_54⟩, lRX5_172, trivial, ⟨rfl, lRX5_58⟩, ⟨rfl, lRX5_92⟩, trivial, trivial, trivial, trivial, trivial, trivial, trivial, trivial, trivial, trivial, trivial, ⟨rfl, lRX5_54⟩, ⟨rfl, lRX5_81⟩, rfl, trivial, trivial, rfl, trivial, ⟨rfl, lRX5_54⟩, ⟨rfl, lRX5_92⟩, trivial, trivial, trivial, rfl, trivial, trivial, lRX5_176, trivial, trivial, ⟨rfl, lRX5_58⟩, ⟨rfl, lRX5_92⟩, trivial, trivial, trivial, trivial, ⟨rfl, lRX5_58⟩, lRX5_150, trivial, trivial, ⟨rfl, lRX5_58⟩, ⟨rfl, lRX5_92⟩, trivial, trivial, trivial, trivial, trivial, rfl, trivial, trivial, rfl, trivial, trivial, trivial, trivial, trivial, trivial, trivial, trivial, trivial, rfl, trivial, rfl, trivial⟩
set_option maxRecDepth 20000 in
theorem ekX5_canon : eoks 76 kX5_canon := ⟨trivial, rfl, trivial, trivial, rfl, trivial, rfl, trivial, trivial, rfl, trivial, trivial, rfl, trivial, rfl, trivial, ⟨rfl, lRX5_58⟩, trivial, ⟨rfl, lRX5_54⟩, lRX5_172, trivial, ⟨rfl, lRX5_58⟩, lRX5_150, trivial, trivial, trivial, trivial, trivial, rfl, trivial, trivial, ⟨rfl, lRX5_58⟩, lRX5_150, lRX5_203, trivial, trivial, ⟨rfl, lRX5_58⟩, lRX5_169, trivial, trivial, ⟨rfl, lRX5_58⟩, lRX5_208, trivial, rfl, trivial, rfl, trivial, ⟨rfl, lRX5_58⟩, lRX5_165, rfl, trivial, rfl, trivial⟩
set_option maxRecDepth 20000 in
theorem ekX5_props : eoks 77 kX5_props := ⟨trivial, rfl, trivial, trivial, rfl, trivial, rfl, trivial, ⟨rfl, lRX5_54⟩, lRX5_150, trivial, trivial, lRX5_211, trivial, trivial, ⟨rfl, lRX5_54⟩, lRX5_214, trivial, trivial, trivial, trivial, trivial, rfl, trivial, trivial, rfl, trivial, trivial, ⟨rfl, lRX5_54⟩, ⟨rfl, lRX5_141⟩, trivial, ⟨rfl, lRX5_45⟩, trivial, trivial, trivial, trivial, trivial, trivial, trivial, trivial, trivial, trivial, rfl, trivial, trivial, rfl, trivial, rfl, trivial, rfl, trivial⟩
set_option maxRecDepth 20000 in
theorem ekX5_critical : eoks 78 kX5_critical := ⟨trivial, rfl, trivial, trivial, rfl, trivial, rfl, trivial, ⟨rfl, lRX5_54⟩, lRX5_95, trivial, ⟨rfl, lRX5_54⟩, lRX5_113, trivial, trivial, trivial, lRX5_194, trivial, trivial, trivial, lRX5_217, trivial, trivial, trivial, trivial, trivial, trivial, trivial, trivial, trivial, ⟨rfl, lRX5_54⟩, ⟨rfl, lRX5_81⟩, rfl, trivial, trivial, trivial, trivial, trivial, trivial, ⟨rfl, lRX5_54⟩, ⟨rfl, lRX5_81⟩, rfl, trivial, trivial, lRX5_188, rfl, trivial, trivial, lRX5_188, rfl, trivial, trivial, trivial, trivial, trivial, trivial, trivial, trivial, trivial, trivial, trivial, trivial, trivial, trivial, lRX5_217, trivial, rfl, trivial, rfl, trivial, trivial, trivial, trivial, trivial, rfl, trivial, trivial, trivial, trivial, rfl, trivial, rfl, trivial, rfl, trivial, rfl, trivial, rfl, trivial⟩
set_option maxRecDepth 20000 in
theorem ekX5_load : eoks 79 kX5_load := ⟨trivial, ⟨rfl, lRX5_54⟩, lRX5_214, trivial, ⟨rfl, lRX5_54⟩, lRX5_150, trivial, rfl, trivial⟩
set_option maxRecDepth 20000 in
theorem ekX5_dust : eoks 80 kX5_dust := ⟨trivial, trivial, rfl, trivial, ⟨rfl, lRX5_34⟩, trivial, ⟨rfl, lRX5_220⟩, trivial, rfl, trivial, rfl, trivial, trivial, rfl, trivial, rfl, trivial, trivial, rfl, trivial, rfl, trivial, ⟨rfl, lRX5_34⟩, ⟨rfl, lRX5_220⟩, trivial, rfl, trivial, rfl, trivial, ⟨rfl, lRX5_34⟩, ⟨rfl, lRX5_223⟩, trivial, ⟨rfl, lRX5_34⟩, ⟨rfl, lRX5_220⟩, trivial, trivial, trivial, ⟨rfl, lRX5_34⟩, ⟨rfl, lRX5_226⟩, trivial, ⟨rfl, lRX5_34⟩, ⟨rfl, lRX5_220⟩, trivial, trivial, trivial, ⟨rfl, lRX5_34⟩, trivial, ⟨rfl, lRX5_220⟩, trivial, trivial, ⟨rfl, lRX5_220⟩, trivial, ⟨rfl, lRX5_34⟩, ⟨rfl, lRX5_220⟩, rfl, trivial⟩
set_option maxRecDepth 20000 in
theorem ekX5_flat : eoks 81 kX5_flat := ⟨trivial, trivial, trivial, trivial, trivial, trivial, ⟨rfl, lRX5_54⟩, ⟨rfl, lRX5_81⟩, rfl, trivial, ⟨rfl, lRX5_54⟩, ⟨rfl, lRX5_92⟩, trivial, trivial, trivial, rfl, trivial, trivial, lRX5_229, rfl, trivial, trivial, trivial, trivial, trivial, trivial, trivial, rfl, trivial, rfl, trivial⟩
set_option maxRecDepth 20000 in
theorem ekX5_order : eoks 82 kX5_order := ⟨trivial, trivial, rfl, trivial, trivial, rfl, trivial, rfl, trivial, lRX5_211, trivial, trivial, rfl, trivial, trivial, rfl, trivial, ⟨rfl, lRX5_45⟩, trivial, trivial, rfl, trivial, rfl, trivial, ⟨rfl, lRX5_54⟩, lRX5_150, trivial, trivial, trivial, trivial, trivial, trivial, trivial, trivial, trivial, rfl, trivial, trivial, ⟨rfl, lRX5_54⟩, ⟨rfl, lRX5_141⟩, trivial, ⟨rfl, lRX5_45⟩, trivial, trivial, trivial, trivial, trivial, trivial, trivial, trivial, rfl, trivial, rfl, trivial, trivial, trivial, trivial, rfl, trivial, trivial, trivial, rfl, trivial⟩
set_option maxRecDepth 20000 in
theorem ekX5_odds : eoks 83 kX5_odds := ⟨trivial, ⟨rfl, lRX5_54⟩, ⟨rfl, lRX5_81⟩, rfl, lRX5_232, rfl, trivial, ⟨rfl, lRX5_54⟩, lRX5_95, trivial, ⟨rfl, lRX5_54⟩, lRX5_113, trivial, trivial, trivial, trivial, trivial, trivial, trivial, ⟨rfl, lRX5_54⟩, ⟨rfl, lRX5_81⟩, rfl, trivial, trivial, trivial, trivial, trivial, trivial, trivial, trivial, lRX5_217, rfl, trivial, trivial, rfl, trivial, trivial, ⟨rfl, lRX5_54⟩, ⟨rfl, lRX5_81⟩, trivial, lRX5_234, rfl, trivial⟩
set_option maxRecDepth 20000 in
theorem ekX5_mean : eoks 84 kX5_mean := ⟨trivial, trivial, rfl, trivial, trivial, rfl, lRX5_232, rfl, trivial, ⟨rfl, lRX5_58⟩, trivial, ⟨rfl, lRX5_54⟩, lRX5_172, trivial, trivial, trivial, trivial, trivial, trivial, rfl, trivial, trivial, ⟨rfl, lRX5_58⟩, lRX5_150, trivial, trivial, trivial, ⟨rfl, lRX5_58⟩, lRX5_169, trivial, trivial, rfl, trivial, trivial, trivial, lRX5_234, rfl, trivial⟩
set_option maxRecDepth 20000 in
theorem ekX5_wage : eoks 85 kX5_wage := ⟨trivial, trivial, lRX5_88, rfl, lRX5_232, rfl, trivial, ⟨rfl, lRX5_54⟩, ⟨rfl, lRX5_92⟩, trivial, trivial, trivial, rfl, trivial, trivial, trivial, lRX5_234, rfl, trivial, ⟨rfl, lRX5_54⟩, lRX5_95, trivial, trivial, trivial, trivial, trivial, ⟨rfl, lRX5_54⟩, lRX5_113, trivial, trivial, trivial, trivial, trivial, trivial, trivial, trivial, trivial, trivial, trivial, trivial, trivial, rfl, trivial, trivial, trivial, trivial, trivial, rfl, trivial, trivial, ⟨rfl, lRX5_54⟩, trivial, trivial, trivial, lRX5_191, trivial, ⟨rfl, lRX5_54⟩, trivial, lRX5_191, trivial, trivial, trivial, trivial, trivial, rfl, trivial, trivial, trivial, lRX5_234, rfl, trivial⟩
set_option maxRecDepth 20000 in
theorem ekX5_plan : eoks 86 kX5_plan := ⟨trivial, trivial, rfl, trivial, ⟨rfl, lRX5_34⟩, trivial, ⟨rfl, lRX5_238⟩, trivial, rfl, trivial, trivial, lRX5_88, rfl, trivial, rfl, trivial, trivial, rfl, trivial, trivial, rfl, trivial, rfl, trivial, ⟨rfl, lRX5_34⟩, ⟨rfl, lRX5_238⟩, trivial, rfl, trivial, rfl, trivial, ⟨rfl, lRX5_34⟩, ⟨rfl, lRX5_241⟩, trivial, ⟨rfl, lRX5_34⟩, ⟨rfl, lRX5_238⟩, trivial, trivial, trivial, ⟨rfl, lRX5_34⟩, ⟨rfl, lRX5_244⟩, trivial, ⟨rfl, lRX5_34⟩, ⟨rfl, lRX5_238⟩, trivial, trivial, trivial, ⟨rfl, lRX5_34⟩, trivial, ⟨rfl, lRX5_238⟩, trivial, trivial, ⟨rfl, lRX5_238⟩, trivial, ⟨rfl, lRX5_34⟩, ⟨rfl, lRX5_238⟩, rfl, trivial⟩
set_option maxRecDepth 20000 in
theorem ekX5_planned : eoks 87 kX5_planned := ⟨trivial, rfl, trivial, trivial, rfl, trivial, rfl, trivial, ⟨rfl, lRX5_58⟩, trivial, ⟨rfl, lRX5_54⟩, lRX5_172, trivial, trivial, trivial, trivial, ⟨rfl, lRX5_34⟩, ⟨rfl, lRX5_238⟩, rfl, trivial, ⟨rfl, lRX5_34⟩, ⟨rfl, lRX5_241⟩, trivial, trivial, trivial, trivial, ⟨rfl, lRX5_34⟩, ⟨rfl, lRX5_244⟩, trivial, trivial, trivial, trivial, trivial, lRX5_88, rfl, trivial, ⟨rfl, lRX5_58⟩, ⟨rfl, lRX5_92⟩, trivial, trivial, ⟨rfl, lRX5_58⟩, trivial, trivial, lRX5_127, rfl, trivial, rfl, trivial, trivial, trivial, ⟨rfl, lRX5_58⟩, lRX5_169, trivial, trivial, rfl, trivial, rfl, trivial, ⟨rfl, lRX5_58⟩, lRX5_165, rfl, trivial, ⟨rfl, lRX5_58⟩, lRX5_150, rfl, trivial⟩
set_option maxRecDepth 20000 in
theorem ekX5_book : eoks 88 kX5_book := ⟨trivial, trivial, rfl, trivial, ⟨rfl, lRX5_34⟩, trivial, ⟨rfl, lRX5_247⟩, trivial, rfl, trivial, trivial, lRX5_88, rfl, trivial, rfl, trivial, rfl, trivial, trivial, rfl, trivial, rfl, trivial, ⟨rfl, lRX5_34⟩, ⟨rfl, lRX5_247⟩, trivial, rfl, trivial, rfl, trivial, ⟨rfl, lRX5_34⟩, ⟨rfl, lRX5_250⟩, trivial, ⟨rfl, lRX5_34⟩, ⟨rfl, lRX5_247⟩, trivial, trivial, trivial, ⟨rfl, lRX5_34⟩, ⟨rfl, lRX5_253⟩, trivial, ⟨rfl, lRX5_34⟩, ⟨rfl, lRX5_247⟩, trivial, trivial, trivial, ⟨rfl, lRX5_34⟩, trivial, ⟨rfl, lRX5_247⟩, trivial, trivial, ⟨rfl, lRX5_247⟩, trivial, ⟨rfl, lRX5_34⟩, ⟨rfl, lRX5_247⟩, rfl, trivial⟩
set_option maxRecDepth 20000 in
theorem ekX5_looked : eoks 89 kX5_looked := ⟨trivial, ⟨rfl, lRX5_54⟩, lRX5_95, trivial, ⟨rfl, lRX5_54⟩, lRX5_113, trivial, trivial, trivial, trivial, trivial, ⟨rfl, lRX5_34⟩, ⟨rfl, lRX5_247⟩, rfl, trivial, ⟨rfl, lRX5_34⟩, ⟨rfl, lRX5_250⟩, trivial, trivial, trivial, trivial, trivial, lRX5_188, rfl, trivial, ⟨rfl, lRX5_54⟩, trivial, trivial, lRX5_117, rfl, trivial, trivial, trivial, trivial, ⟨rfl, lRX5_34⟩, ⟨rfl, lRX5_253⟩, trivial, trivial, rfl, trivial, rfl, trivial, rfl, trivial, rfl, trivial⟩
set_option maxRecDepth 20000 in
theorem ekX5_act : eoks 90 kX5_act := ⟨trivial, ⟨rfl, lRX5_27⟩, trivial, ⟨rfl, lRX5_256⟩, trivial, trivial, lRX5_88, rfl, trivial, rfl, trivial, trivial, rfl, trivial, rfl, trivial, ⟨rfl, lRX5_27⟩, trivial, ⟨rfl, lRX5_259⟩, trivial, ⟨rfl, lRX5_27⟩, trivial, ⟨rfl, lRX5_54⟩, ⟨rfl, lRX5_98⟩, trivial, trivial, ⟨rfl, lRX5_262⟩, trivial, ⟨rfl, lRX5_27⟩, trivial, ⟨rfl, lRX5_54⟩, ⟨rfl, lRX5_101⟩, trivial, trivial, ⟨rfl, lRX5_264⟩, trivial, ⟨rfl, lRX5_27⟩, trivial, trivial, lRX5_266, rfl, trivial⟩
set_option maxRecDepth 20000 in
theorem ekX5_trace : eoks 91 kX5_trace := ⟨trivial, rfl, trivial, trivial, ⟨rfl, lRX5_27⟩, ⟨rfl, lRX5_256⟩, rfl, trivial, trivial, rfl, trivial, rfl, trivial, ⟨rfl, lRX5_27⟩, ⟨rfl, lRX5_269⟩, trivial, trivial, rfl, trivial⟩
set_option maxRecDepth 20000 in
theorem ekX5_as : eoks 92 kX5_as := ⟨trivial, trivial, lRX5_88, rfl, trivial, rfl, trivial, trivial, rfl, trivial, rfl, trivial, ⟨rfl, lRX5_54⟩, ⟨rfl, lRX5_98⟩, trivial, trivial, trivial, trivial, trivial, trivial, trivial, rfl, trivial, rfl, trivial, trivial, rfl, trivial, trivial, rfl, trivial, ⟨rfl, lRX5_54⟩, ⟨rfl, lRX5_101⟩, trivial, trivial, rfl, ⟨rfl, lRX5_272⟩, trivial, trivial, trivial, trivial, rfl, trivial, rfl, trivial⟩
set_option maxRecDepth 20000 in
theorem ekX5_image : eoks 93 kX5_image := ⟨trivial, ⟨rfl, lRX5_61⟩, trivial, ⟨rfl, lRX5_54⟩, lRX5_172, trivial, ⟨rfl, lRX5_38⟩, trivial, ⟨rfl, lRX5_34⟩, lRX5_275, trivial, trivial, ⟨rfl, lRX5_278⟩, trivial, ⟨rfl, lRX5_54⟩, ⟨rfl, lRX5_81⟩, rfl, trivial⟩
set_option maxRecDepth 20000 in
theorem ekX5_undo : eoks 94 kX5_undo := ⟨trivial, ⟨rfl, lRX5_278⟩, rfl, trivial, rfl, trivial, ⟨rfl, lRX5_54⟩, trivial, ⟨rfl, lRX5_61⟩, lRX5_172, trivial, ⟨rfl, lRX5_34⟩, trivial, ⟨rfl, lRX5_38⟩, lRX5_275, trivial, ⟨rfl, lRX5_54⟩, ⟨rfl, lRX5_81⟩, rfl, trivial⟩
set_option maxRecDepth 20000 in
theorem ekX5_count : eoks 95 kX5_count := ⟨trivial, rfl, trivial, ⟨rfl, lRX5_54⟩, ⟨rfl, lRX5_81⟩, rfl, trivial, ⟨rfl, lRX5_54⟩, ⟨rfl, lRX5_131⟩, rfl, trivial, ⟨rfl, lRX5_34⟩, ⟨rfl, lRX5_71⟩, rfl, trivial, ⟨rfl, lRX5_34⟩, ⟨rfl, lRX5_220⟩, rfl, trivial, ⟨rfl, lRX5_34⟩, ⟨rfl, lRX5_238⟩, rfl, trivial, ⟨rfl, lRX5_34⟩, ⟨rfl, lRX5_247⟩, rfl, trivial, ⟨rfl, lRX5_34⟩, ⟨rfl, lRX5_64⟩, rfl, trivial, ⟨rfl, lRX5_27⟩, ⟨rfl, lRX5_256⟩, rfl, trivial, rfl, trivial⟩
set_option maxRecDepth 20000 in
theorem ekX5_isSinger : eoks 96 kX5_isSinger := ⟨trivial, rfl, trivial, trivial, ⟨rfl, lRX5_54⟩, ⟨rfl, lRX5_81⟩, rfl, trivial, rfl, trivial, rfl, trivial⟩
set_option maxRecDepth 20000 in
theorem ekX5_isStone : eoks 97 kX5_isStone := ⟨trivial, rfl, trivial, trivial, ⟨rfl, lRX5_54⟩, ⟨rfl, lRX5_131⟩, rfl, trivial, rfl, trivial, rfl, trivial⟩
set_option maxRecDepth 20000 in
theorem ekX5_hasBit : eoks 98 kX5_hasBit := ⟨trivial, trivial, trivial, trivial, trivial, rfl, trivial, rfl, trivial, rfl, trivial⟩
set_option maxRecDepth 20000 in
theorem ekX5_bestNote : eoks 99 kX5_bestNote := ⟨trivial, ⟨rfl, lRX5_58⟩, ⟨rfl, lRX5_92⟩, trivial, trivial, trivial, trivial, trivial, trivial, trivial, trivial, ⟨rfl, lRX5_54⟩, ⟨rfl, lRX5_104⟩, trivial, trivial, trivial, trivial, trivial, ⟨rfl, lRX5_54⟩, trivial, lRX5_282, rfl, trivial, ⟨rfl, lRX5_58⟩, ⟨rfl, lRX5_92⟩, trivial, trivial, trivial, trivial, ⟨rfl, lRX5_58⟩, lRX5_150, trivial, trivial, trivial, rfl, trivial, trivial, rfl, trivial, trivial, trivial, trivial, trivial, rfl, trivial, ⟨rfl, lRX5_58⟩, ⟨rfl, lRX5_92⟩, trivial, trivial, trivial, trivial, rfl, trivial⟩
set_option maxRecDepth 20000 in
theorem ekX5_measureChords : eoks 100 kX5_measureChords := ⟨trivial, ⟨rfl, lRX5_58⟩, trivial, ⟨rfl, lRX5_54⟩, lRX5_172, trivial, trivial, trivial, trivial, ⟨rfl, lRX5_54⟩, ⟨rfl, lRX5_81⟩, rfl, trivial, trivial, trivial, trivial, rfl, trivial, ⟨rfl, lRX5_58⟩, ⟨rfl, lRX5_92⟩, trivial, trivial, trivial, trivial, lRX5_285, trivial, trivial, ⟨rfl, lRX5_41⟩, trivial, trivial, trivial, trivial, trivial, trivial, ⟨rfl, lRX5_58⟩, trivial, lRX5_288, trivial, trivial, rfl, trivial, rfl, rfl, trivial⟩
set_option maxRecDepth 20000 in
theorem ekX5_chordNote : eoks 101 kX5_chordNote := ⟨trivial, trivial, ⟨rfl, lRX5_54⟩, ⟨rfl, lRX5_104⟩, trivial, trivial, ⟨rfl, lRX5_291⟩, trivial, trivial, trivial, lRX5_203, rfl, trivial⟩
set_option maxRecDepth 20000 in
theorem ekX5_bestChord : eoks 102 kX5_bestChord := ⟨trivial, trivial, trivial, trivial, trivial, trivial, ⟨rfl, lRX5_54⟩, ⟨rfl, lRX5_81⟩, rfl, trivial, trivial, trivial, trivial, trivial, rfl, trivial, trivial, trivial, trivial, trivial, trivial, trivial, trivial, rfl, trivial, trivial, lRX5_185, trivial, trivial, trivial, rfl, trivial, trivial, trivial, trivial, trivial, rfl, trivial, rfl, trivial⟩
set_option maxRecDepth 20000 in
theorem ekX5_singChord : eoks 103 kX5_singChord := ⟨trivial, trivial, trivial, ⟨rfl, lRX5_54⟩, ⟨rfl, lRX5_81⟩, trivial, trivial, trivial, trivial, rfl, trivial, trivial, trivial, trivial, trivial, trivial, trivial, trivial, trivial, ⟨rfl, lRX5_58⟩, ⟨rfl, lRX5_92⟩, trivial, trivial, trivial, trivial, lRX5_285, trivial, trivial, ⟨rfl, lRX5_58⟩, ⟨rfl, lRX5_110⟩, trivial, trivial, ⟨rfl, lRX5_41⟩, trivial, trivial, trivial, trivial, trivial, trivial, trivial, trivial, rfl, trivial, ⟨rfl, lRX5_58⟩, trivial, trivial, ⟨rfl, lRX5_54⟩, ⟨rfl, lRX5_81⟩, trivial, trivial, trivial, lRX5_191, rfl, trivial⟩
set_option maxRecDepth 20000 in
theorem ekX5_looseOf : eoks 104 kX5_looseOf := ⟨trivial, ⟨rfl, lRX5_54⟩, trivial, ⟨rfl, lRX5_54⟩, trivial, lRX5_191, lRX5_153, lRX5_294, rfl, trivial⟩
set_option maxRecDepth 20000 in
theorem ekX5_spareBits : eoks 105 kX5_spareBits := ⟨trivial, trivial, lRX5_217, trivial, trivial, trivial, trivial, trivial, trivial, trivial, ⟨rfl, lRX5_54⟩, ⟨rfl, lRX5_81⟩, rfl, trivial, trivial, lRX5_188, rfl, trivial, trivial, trivial, trivial, trivial, trivial, trivial, trivial, lRX5_217, trivial, rfl, trivial, trivial, trivial, trivial, trivial, trivial, trivial, rfl, trivial, rfl, trivial⟩
set_option maxRecDepth 20000 in
theorem ekX5_setShift : eoks 106 kX5_setShift := ⟨trivial, ⟨rfl, lRX5_54⟩, lRX5_113, trivial, trivial, ⟨rfl, lRX5_58⟩, trivial, ⟨rfl, lRX5_54⟩, trivial, lRX5_299, trivial, ⟨rfl, lRX5_58⟩, lRX5_95, trivial, trivial, trivial, trivial, trivial, trivial, trivial, trivial, rfl, trivial, trivial, trivial, trivial, trivial, rfl, trivial, lRX5_294, trivial, rfl, trivial, ⟨rfl, lRX5_58⟩, trivial, ⟨rfl, lRX5_58⟩, trivial, lRX5_191, lRX5_153, rfl, trivial, trivial, trivial, lRX5_294, trivial, trivial, rfl, trivial, ⟨rfl, lRX5_58⟩, trivial, ⟨rfl, lRX5_54⟩, trivial, lRX5_299, trivial, rfl, trivial⟩
set_option maxRecDepth 20000 in
theorem ekX5_isDustBy : eoks 107 kX5_isDustBy := ⟨trivial, ⟨rfl, lRX5_58⟩, trivial, ⟨rfl, lRX5_54⟩, lRX5_172, trivial, ⟨rfl, lRX5_58⟩, ⟨rfl, lRX5_92⟩, trivial, trivial, trivial, ⟨rfl, lRX5_54⟩, ⟨rfl, lRX5_92⟩, trivial, trivial, trivial, trivial, lRX5_303, trivial, trivial, trivial, trivial, trivial, rfl, trivial, ⟨rfl, lRX5_58⟩, lRX5_165, trivial, trivial, trivial, trivial, trivial, ⟨rfl, lRX5_34⟩, ⟨rfl, lRX5_220⟩, rfl, trivial, ⟨rfl, lRX5_34⟩, ⟨rfl, lRX5_223⟩, trivial, trivial, trivial, rfl, trivial, ⟨rfl, lRX5_34⟩, ⟨rfl, lRX5_226⟩, trivial, trivial, trivial, rfl, trivial, rfl, trivial, rfl, trivial, ⟨rfl, lRX5_58⟩, lRX5_169, trivial, trivial, rfl, trivial, rfl, trivial⟩
set_option maxRecDepth 20000 in
theorem ekX5_sortHanging : eoks 108 kX5_sortHanging := ⟨trivial, trivial, trivial, trivial, trivial, trivial, ⟨rfl, lRX5_54⟩, ⟨rfl, lRX5_131⟩, rfl, trivial, ⟨rfl, lRX5_54⟩, trivial, lRX5_306, rfl, trivial, trivial, trivial, rfl, trivial, ⟨rfl, lRX5_54⟩, ⟨rfl, lRX5_141⟩, trivial, ⟨rfl, lRX5_45⟩, trivial, trivial, trivial, trivial, trivial, trivial, ⟨rfl, lRX5_54⟩, ⟨rfl, lRX5_141⟩, trivial, trivial, rfl, trivial, ⟨rfl, lRX5_45⟩, trivial, trivial, ⟨rfl, lRX5_45⟩, trivial, trivial, trivial, trivial, trivial, trivial, rfl, trivial, ⟨rfl, lRX5_45⟩, trivial, trivial, trivial, trivial, trivial, rfl, trivial, rfl, trivial⟩
set_option maxRecDepth 20000 in
theorem ekX5_inLowestTerms : eoks 109 kX5_inLowestTerms := ⟨trivial, rfl, trivial, trivial, rfl, lRX5_232, rfl, trivial, trivial, lRX5_309, trivial, lRX5_312, lRX5_303, trivial, trivial, rfl, trivial, rfl, trivial, trivial, trivial, trivial, rfl, trivial⟩
set_option maxRecDepth 20000 in
theorem ekX5_commonDivisor : eoks 110 kX5_commonDivisor := ⟨trivial, trivial, trivial, trivial, trivial, trivial, trivial, trivial, rfl, trivial, rfl, trivial, trivial, trivial, trivial, trivial, trivial, trivial, trivial, trivial, rfl, trivial, rfl, trivial⟩
set_option maxRecDepth 20000 in
theorem ekX6_in : eoks 111 kX6_in := ⟨trivial, trivial, rfl, trivial, trivial, rfl, trivial, rfl, trivial, rfl, trivial⟩
set_option maxRecDepth 20000 in
theorem ekX6_isSinger : eoks 112 kX6_isSinger := ⟨trivial, trivial, trivial, ⟨rfl, lRX6_9⟩, trivial, trivial, trivial, trivial, lRX6_47, rfl, trivial⟩
set_option maxRecDepth 20000 in
theorem ekX6_isStone : eoks 113 kX6_isStone := ⟨trivial, trivial, trivial, ⟨rfl, lRX6_9⟩, trivial, trivial, trivial, trivial, lRX6_47, rfl, trivial⟩
set_option maxRecDepth 20000 in
theorem ekX6_doesSing : eoks 114 kX6_doesSing := ⟨trivial, ⟨rfl, lRX6_9⟩, trivial, trivial, trivial, trivial, trivial, rfl, trivial, rfl, trivial, rfl, trivial⟩
set_option maxRecDepth 20000 in
theorem ekX6_keeps : eoks 115 kX6_keeps := ⟨trivial, trivial, trivial, trivial, rfl, trivial, ⟨rfl, lRX6_18⟩, trivial, trivial, ⟨rfl, lRX6_9⟩, trivial, trivial, trivial, trivial, rfl, rfl, trivial⟩
set_option maxRecDepth 20000 in
theorem ekX6_goesBack : eoks 116 kX6_goesBack := ⟨trivial, trivial, trivial, trivial, rfl, trivial, ⟨rfl, lRX6_9⟩, trivial, trivial, ⟨rfl, lRX6_18⟩, trivial, trivial, trivial, trivial, rfl, rfl, trivial⟩
set_option maxRecDepth 20000 in
theorem ekX6_feed : eoks 117 kX6_feed := ⟨trivial, trivial, trivial, lRX6_47, rfl, trivial, rfl, trivial, ⟨rfl, lRX6_9⟩, trivial, trivial, trivial, rfl, trivial, rfl, trivial, ⟨rfl, lRX6_9⟩, trivial, trivial, ⟨rfl, lRX6_9⟩, trivial, trivial, trivial, trivial, trivial, trivial, ⟨rfl, lRX6_9⟩, trivial, trivial, trivial, trivial, trivial, trivial, trivial, ⟨rfl, lRX6_9⟩, trivial, trivial, rfl, trivial⟩
set_option maxRecDepth 20000 in
theorem ekX6_here : eoks 118 kX6_here := ⟨trivial, ⟨rfl, lRX6_51⟩, trivial, ⟨rfl, lRX6_54⟩, rfl, trivial, ⟨rfl, lRX6_9⟩, trivial, trivial, ⟨rfl, lRX6_51⟩, trivial, trivial, rfl, trivial, rfl, trivial⟩
set_option maxRecDepth 20000 in
theorem ekX6_must : eoks 119 kX6_must := ⟨trivial, trivial, ⟨rfl, lRX6_57⟩, rfl, trivial, lRX6_61, trivial, rfl, trivial, rfl, trivial, ⟨rfl, lRX6_57⟩, trivial, trivial, ⟨rfl, lRX6_51⟩, trivial, ⟨rfl, lRX6_57⟩, rfl, trivial, rfl, trivial, trivial, ⟨rfl, lRX6_51⟩, rfl, trivial⟩
set_option maxRecDepth 20000 in
theorem ekX6_spells : eoks 120 kX6_spells := ⟨trivial, trivial, trivial, trivial, lRX6_65, rfl, trivial, trivial, trivial, lRX6_70, lRX6_74, trivial, rfl, rfl, trivial⟩
set_option maxRecDepth 20000 in
theorem ekX6_figures : eoks 121 kX6_figures := ⟨trivial, trivial, ⟨rfl, lRX6_57⟩, rfl, trivial, lRX6_61, trivial, trivial, lRX6_47, rfl, trivial, rfl, trivial, ⟨rfl, lRX6_57⟩, trivial, trivial, trivial, trivial, trivial, trivial, rfl, trivial, ⟨rfl, lRX6_57⟩, rfl, trivial, lRX6_61, trivial, trivial, lRX6_47, rfl, trivial, rfl, trivial, rfl, trivial, trivial, trivial, trivial, lRX6_61, trivial, trivial, trivial, trivial, trivial, trivial, ⟨rfl, lRX6_51⟩, trivial, trivial, ⟨rfl, lRX6_51⟩, trivial, rfl, trivial, rfl, trivial⟩
set_option maxRecDepth 20000 in
theorem ekX6_among : eoks 122 kX6_among := ⟨trivial, trivial, trivial, trivial, lRX6_65, rfl, trivial, lRX6_61, trivial, trivial, lRX6_70, rfl, trivial, trivial, ⟨rfl, lRX6_51⟩, trivial, trivial, ⟨rfl, lRX6_51⟩, trivial, rfl, trivial, rfl, trivial, rfl, trivial⟩
set_option maxRecDepth 20000 in
theorem ekX6_emits : eoks 123 kX6_emits := ⟨trivial, ⟨rfl, lRX6_57⟩, rfl, trivial, ⟨rfl, lRX6_9⟩, trivial, trivial, trivial, ⟨rfl, lRX6_78⟩, trivial, trivial, trivial, ⟨rfl, lRX6_9⟩, trivial, trivial, ⟨rfl, lRX6_78⟩, trivial, trivial, trivial, trivial, trivial, trivial, ⟨rfl, lRX6_9⟩, trivial, trivial, ⟨rfl, lRX6_78⟩, trivial, trivial, trivial, trivial, trivial, trivial, rfl, trivial⟩
set_option maxRecDepth 20000 in
theorem ekX6_factor : eoks 124 kX6_factor := ⟨trivial, ⟨rfl, lRX6_57⟩, rfl, rfl, trivial, lRX6_61, trivial, trivial, trivial, rfl, trivial, trivial, rfl, trivial, trivial, ⟨rfl, lRX6_81⟩, trivial, rfl, trivial, rfl, trivial, ⟨rfl, lRX6_57⟩, trivial, trivial, ⟨rfl, lRX6_81⟩, trivial, trivial, ⟨rfl, lRX6_81⟩, trivial, trivial, ⟨rfl, lRX6_51⟩, trivial, ⟨rfl, lRX6_57⟩, rfl, trivial, rfl, trivial, trivial, ⟨rfl, lRX6_51⟩, trivial, trivial, rfl, trivial, lRX6_84, trivial, trivial, lRX6_87, rfl, trivial, lRX6_90, trivial, trivial, lRX6_74, trivial, trivial, ⟨rfl, lRX6_81⟩, trivial, trivial, ⟨rfl, lRX6_81⟩, rfl, trivial, lRX6_93, lRX6_95, trivial, trivial, trivial, trivial, rfl, trivial, rfl, trivial, ⟨rfl, lRX6_57⟩, trivial, ⟨rfl, lRX6_57⟩, rfl, trivial, rfl, trivial, lRX6_99, lRX6_95, trivial, trivial, trivial, ⟨rfl, lRX6_57⟩, rfl, trivial, trivial, rfl, trivial, rfl, trivial, ⟨rfl, lRX6_57⟩, trivial, lRX6_101, trivial, trivial, trivial, trivial, trivial, trivial, trivial, trivial, trivial, trivial, trivial, lRX6_87, rfl, trivial⟩
set_option maxRecDepth 20000 in
theorem ekX6_every : eoks 125 kX6_every := ⟨trivial, lRX6_84, trivial, ⟨rfl, lRX6_57⟩, rfl, trivial, lRX6_61, trivial, rfl, trivial, trivial, ⟨rfl, lRX6_51⟩, trivial, trivial, ⟨rfl, lRX6_51⟩, trivial, lRX6_84, trivial, trivial, lRX6_87, rfl, rfl, trivial⟩
set_option maxRecDepth 20000 in
theorem ekX6_some : eoks 126 kX6_some := ⟨trivial, lRX6_104, trivial, ⟨rfl, lRX6_57⟩, rfl, trivial, lRX6_61, trivial, rfl, trivial, trivial, ⟨rfl, lRX6_51⟩, trivial, trivial, ⟨rfl, lRX6_51⟩, trivial, lRX6_104, trivial, trivial, lRX6_87, rfl, rfl, trivial⟩
set_option maxRecDepth 20000 in
theorem ekX6_much : eoks 127 kX6_much := ⟨trivial, trivial, lRX6_107, trivial, lRX6_101, trivial, trivial, trivial, lRX6_74, trivial, lRX6_90, trivial, trivial, trivial, trivial, lRX6_87, rfl, trivial⟩
set_option maxRecDepth 20000 in
theorem ekX6_tellsHere : eoks 128 kX6_tellsHere := ⟨trivial, trivial, lRX6_107, trivial, lRX6_101, trivial, trivial, ⟨rfl, lRX6_57⟩, rfl, trivial, ⟨rfl, lRX6_9⟩, trivial, trivial, ⟨rfl, lRX6_78⟩, trivial, trivial, trivial, rfl, trivial⟩
set_option maxRecDepth 20000 in
theorem ekX6_clauseHere : eoks 129 kX6_clauseHere := ⟨trivial, lRX6_61, rfl, trivial, trivial, lRX6_111, lRX6_113, rfl, trivial, trivial, lRX6_117, lRX6_113, rfl, trivial, trivial, lRX6_119, lRX6_121, rfl, trivial, trivial, lRX6_124, lRX6_121, rfl, trivial, trivial, ⟨rfl, lRX6_57⟩, rfl, trivial⟩
set_option maxRecDepth 20000 in
theorem ekX6_setting : eoks 130 kX6_setting := ⟨trivial, ⟨rfl, lRX6_9⟩, trivial, trivial, trivial, rfl, trivial, rfl, trivial, trivial, ⟨rfl, lRX6_9⟩, trivial, trivial, ⟨rfl, lRX6_78⟩, trivial, trivial, ⟨rfl, lRX6_9⟩, trivial, trivial, ⟨rfl, lRX6_54⟩, trivial, ⟨rfl, lRX6_9⟩, trivial, trivial, trivial, trivial, ⟨rfl, lRX6_9⟩, trivial, trivial, ⟨rfl, lRX6_78⟩, trivial, trivial, trivial, trivial, ⟨rfl, lRX6_9⟩, trivial, trivial, ⟨rfl, lRX6_78⟩, trivial, trivial, trivial, trivial, ⟨rfl, lRX6_9⟩, trivial, trivial, ⟨rfl, lRX6_78⟩, trivial, trivial, trivial, trivial, trivial, ⟨rfl, lRX6_51⟩, trivial, trivial, ⟨rfl, lRX6_57⟩, trivial, trivial, ⟨rfl, lRX6_81⟩, trivial, trivial, trivial, lRX6_126, trivial, ⟨rfl, lRX6_57⟩, rfl, trivial, trivial, rfl, trivial, lRX6_61, trivial, rfl, trivial, trivial, ⟨rfl, lRX6_51⟩, trivial, trivial, ⟨rfl, lRX6_51⟩, trivial, lRX6_126, trivial, rfl, trivial, ⟨rfl, lRX6_57⟩, rfl, trivial, ⟨rfl, lRX6_51⟩, trivial, ⟨rfl, lRX6_54⟩, rfl, trivial, trivial, ⟨rfl, lRX6_51⟩, trivial, rfl, trivial, ⟨rfl, lRX6_9⟩, trivial, trivial, trivial, trivial, trivial, trivial, trivial, ⟨rfl, lRX6_9⟩, trivial, trivial, ⟨rfl, lRX6_78⟩, trivial, trivial, ⟨rfl, lRX6_78⟩, rfl, trivial⟩
set_option maxRecDepth 20000 in
theorem ekX6_tellsOf : eoks 131 kX6_tellsOf := ⟨trivial, ⟨rfl, lRX6_9⟩, trivial, trivial, trivial, rfl, trivial, rfl, trivial, ⟨rfl, lRX6_9⟩, trivial, trivial, ⟨rfl, lRX6_9⟩, trivial, trivial, trivial, trivial, rfl, trivial⟩
set_option maxRecDepth 20000 in
theorem ekX6_looks : eoks 132 kX6_looks := ⟨trivial, ⟨rfl, lRX6_21⟩, trivial, trivial, trivial, trivial, ⟨rfl, lRX6_21⟩, trivial, trivial, ⟨rfl, lRX6_9⟩, trivial, trivial, trivial, trivial, trivial, trivial, ⟨rfl, lRX6_21⟩, trivial, trivial, ⟨rfl, lRX6_9⟩, trivial, trivial, trivial, trivial, trivial, trivial, ⟨rfl, lRX6_21⟩, trivial, trivial, ⟨rfl, lRX6_9⟩, trivial, trivial, trivial, trivial, trivial, trivial, ⟨rfl, lRX6_21⟩, trivial, trivial, ⟨rfl, lRX6_9⟩, trivial, trivial, trivial, trivial, trivial, trivial, trivial, trivial, ⟨rfl, lRX6_21⟩, trivial, trivial, ⟨rfl, lRX6_9⟩, trivial, trivial, trivial, trivial, trivial, trivial, trivial, trivial, trivial, trivial, lRX6_129, trivial, trivial, trivial, trivial, ⟨rfl, lRX6_9⟩, trivial, trivial, trivial, trivial, trivial, trivial, trivial, trivial, trivial, trivial, trivial, trivial, trivial, rfl, trivial, ⟨rfl, lRX6_9⟩, trivial, trivial, trivial, trivial, rfl, trivial, ⟨rfl, lRX6_21⟩, trivial, trivial, trivial, trivial, trivial, trivial, trivial, trivial, trivial, trivial, trivial, trivial, trivial, trivial, trivial, trivial, ⟨rfl, lRX6_24⟩, trivial, trivial, rfl, trivial, trivial, rfl, trivial, rfl, trivial, rfl, trivial, trivial, rfl, trivial, trivial, rfl, trivial, rfl, trivial, rfl, trivial, trivial, rfl, trivial, rfl, trivial, trivial, trivial, rfl, trivial, trivial, rfl, trivial, ⟨rfl, lRX6_24⟩, trivial, trivial, trivial, trivial, ⟨rfl, lRX6_24⟩, trivial, trivial, trivial, trivial, rfl, trivial, rfl, trivial, trivial, rfl, trivial, trivial, rfl, trivial, trivial, ⟨rfl, lRX6_24⟩, trivial, trivial, trivial, trivial, trivial, rfl, trivial, ⟨rfl, lRX6_24⟩, trivial, trivial, trivial, trivial, rfl, trivial, ⟨rfl, lRX6_24⟩, trivial, trivial, rfl, trivial, rfl, trivial, rfl, trivial, ⟨rfl, lRX6_24⟩, trivial, trivial, trivial, trivial, rfl, trivial, ⟨rfl, lRX6_24⟩, trivial, trivial, rfl, trivial, rfl, trivial, trivial, rfl, trivial, trivial, trivial, ⟨rfl, lRX6_24⟩, trivial, trivial, trivial, trivial, trivial, rfl, trivial, trivial, rfl, trivial, trivial, trivial, rfl, trivial, trivial, trivial, trivial, trivial, rfl, trivial, trivial, rfl, trivial, trivial, trivial, rfl, trivial, trivial, trivial, trivial, rfl, trivial, rfl, trivial⟩
set_option maxRecDepth 20000 in
theorem ekX6_strengthOf : eoks 133 kX6_strengthOf := ⟨trivial, ⟨rfl, lRX6_9⟩, trivial, trivial, trivial, trivial, trivial, trivial, ⟨rfl, lRX6_9⟩, trivial, trivial, trivial, trivial, trivial, trivial, ⟨rfl, lRX6_9⟩, trivial, trivial, trivial, trivial, rfl, trivial, trivial, rfl, trivial, rfl, trivial, rfl, trivial, trivial, trivial, trivial, trivial, rfl, trivial, trivial, trivial, rfl, trivial, trivial, rfl, trivial, rfl, trivial, trivial, trivial, trivial, trivial, trivial, trivial, rfl, trivial, ⟨rfl, lRX6_9⟩, trivial, trivial, trivial, trivial, trivial, trivial, trivial, trivial, rfl, trivial, rfl, trivial, trivial, trivial, trivial, trivial, rfl, trivial, trivial, trivial, trivial, ⟨rfl, lRX6_9⟩, trivial, trivial, trivial, trivial, trivial, trivial, ⟨rfl, lRX6_9⟩, trivial, trivial, trivial, trivial, trivial, trivial, trivial, rfl, trivial, rfl, trivial⟩
set_option maxRecDepth 20000 in
theorem ekX6_forceOf : eoks 134 kX6_forceOf := ⟨trivial, trivial, lRX6_133, rfl, trivial, rfl, trivial, trivial, lRX6_137, trivial, trivial, lRX6_141, trivial, trivial, ⟨rfl, lRX6_9⟩, trivial, trivial, trivial, trivial, trivial, trivial, trivial, trivial, trivial, rfl, trivial, rfl, trivial, rfl, trivial⟩
set_option maxRecDepth 20000 in
theorem ekX6_isTune : eoks 135 kX6_isTune := ⟨trivial, trivial, rfl, trivial, trivial, trivial, rfl, trivial, trivial, trivial, trivial, trivial, trivial, trivial, trivial, trivial, rfl, trivial, trivial, rfl, trivial, trivial, rfl, trivial, trivial, rfl, trivial, trivial, rfl, trivial, trivial, rfl, trivial, trivial, rfl, trivial, rfl, trivial, rfl, trivial⟩
set_option maxRecDepth 20000 in
theorem ekX6_looksForForces : eoks 136 kX6_looksForForces := ⟨trivial, trivial, trivial, trivial, ⟨rfl, lRX6_9⟩, trivial, trivial, rfl, trivial, ⟨rfl, lRX6_28⟩, trivial, trivial, trivial, lRX6_144, trivial, trivial, rfl, rfl, trivial⟩
set_option maxRecDepth 20000 in
theorem ekX6_isOf : eoks 137 kX6_isOf := ⟨trivial, trivial, trivial, trivial, trivial, trivial, rfl, trivial, trivial, lRX6_133, rfl, trivial, rfl, trivial, rfl, trivial⟩
set_option maxRecDepth 20000 in
theorem ekX6_tunesOf : eoks 138 kX6_tunesOf := ⟨trivial, trivial, trivial, trivial, trivial, trivial, ⟨rfl, lRX6_9⟩, trivial, trivial, rfl, trivial, trivial, trivial, rfl, trivial, trivial, trivial, lRX6_147, rfl, trivial, ⟨rfl, lRX6_9⟩, trivial, trivial, trivial, trivial, trivial, ⟨rfl, lRX6_9⟩, trivial, trivial, trivial, trivial, lRX6_151, rfl, trivial, rfl, trivial, trivial, trivial, trivial, rfl, trivial, rfl, trivial⟩
set_option maxRecDepth 20000 in
theorem ekX6_bearsOf : eoks 139 kX6_bearsOf := ⟨trivial, trivial, trivial, lRX6_147, rfl, trivial, rfl, trivial, trivial, trivial, lRX6_154, trivial, trivial, rfl, trivial, ⟨rfl, lRX6_28⟩, trivial, trivial, trivial, trivial, rfl, trivial, ⟨rfl, lRX6_28⟩, trivial, trivial, trivial, trivial, rfl, trivial⟩
set_option maxRecDepth 20000 in
theorem ekX6_allBy : eoks 140 kX6_allBy := ⟨trivial, trivial, trivial, trivial, trivial, trivial, ⟨rfl, lRX6_9⟩, trivial, trivial, rfl, trivial, trivial, trivial, trivial, lRX6_157, trivial, trivial, trivial, rfl, trivial, rfl, trivial⟩
set_option maxRecDepth 20000 in
theorem ekX6_singing : eoks 141 kX6_singing := ⟨trivial, trivial, trivial, trivial, trivial, trivial, ⟨rfl, lRX6_9⟩, trivial, trivial, rfl, trivial, trivial, trivial, lRX6_133, rfl, trivial, trivial, trivial, rfl, trivial, trivial, trivial, trivial, rfl, trivial, rfl, trivial⟩
set_option maxRecDepth 20000 in
theorem ekX6_allNow : eoks 142 kX6_allNow := ⟨trivial, lRX6_160, trivial, trivial, lRX6_163, rfl, trivial⟩
set_option maxRecDepth 20000 in
theorem ekX6_doesHang : eoks 143 kX6_doesHang := ⟨trivial, ⟨rfl, lRX6_9⟩, trivial, trivial, trivial, trivial, rfl, trivial, ⟨rfl, lRX6_9⟩, trivial, trivial, trivial, trivial, rfl, trivial, rfl, trivial, rfl, trivial⟩
set_option maxRecDepth 20000 in
theorem ekX6_looseBy : eoks 144 kX6_looseBy := ⟨trivial, trivial, trivial, trivial, trivial, trivial, trivial, trivial, ⟨rfl, lRX6_9⟩, trivial, trivial, rfl, trivial, trivial, lRX6_166, rfl, trivial, trivial, ⟨rfl, lRX6_9⟩, trivial, trivial, trivial, trivial, trivial, trivial, trivial, trivial, trivial, rfl, trivial, trivial, trivial, rfl, trivial, trivial, trivial, trivial, rfl, trivial, rfl, trivial⟩
set_option maxRecDepth 20000 in
theorem ekX6_fallenMany : eoks 145 kX6_fallenMany := ⟨trivial, trivial, trivial, trivial, trivial, trivial, ⟨rfl, lRX6_9⟩, trivial, trivial, rfl, trivial, trivial, ⟨rfl, lRX6_9⟩, trivial, trivial, trivial, trivial, trivial, trivial, trivial, rfl, trivial, rfl, trivial⟩
set_option maxRecDepth 20000 in
theorem ekX6_sizeOf : eoks 146 kX6_sizeOf := ⟨trivial, trivial, trivial, trivial, trivial, trivial, rfl, trivial, trivial, trivial, trivial, trivial, trivial, trivial, trivial, trivial, rfl, trivial, rfl, trivial⟩
set_option maxRecDepth 20000 in
theorem ekX6_hangingWeight : eoks 147 kX6_hangingWeight := ⟨trivial, trivial, trivial, trivial, trivial, trivial, ⟨rfl, lRX6_9⟩, trivial, trivial, rfl, trivial, trivial, trivial, lRX6_166, rfl, trivial, ⟨rfl, lRX6_9⟩, trivial, trivial, trivial, trivial, rfl, trivial, trivial, trivial, trivial, rfl, trivial, rfl, trivial⟩
set_option maxRecDepth 20000 in
theorem ekX6_singer : eoks 148 kX6_singer := ⟨trivial, trivial, trivial, lRX6_47, rfl, trivial, rfl, trivial, trivial, trivial, lRX6_47, rfl, trivial, trivial, trivial, lRX6_47, rfl, trivial, rfl, trivial, ⟨rfl, lRX6_9⟩, trivial, trivial, trivial, rfl, trivial, rfl, trivial, ⟨rfl, lRX6_9⟩, trivial, trivial, trivial, trivial, ⟨rfl, lRX6_9⟩, trivial, trivial, trivial, trivial, trivial, trivial, ⟨rfl, lRX6_9⟩, trivial, trivial, trivial, trivial, trivial, trivial, ⟨rfl, lRX6_9⟩, trivial, trivial, trivial, trivial, trivial, trivial, ⟨rfl, lRX6_9⟩, trivial, trivial, trivial, trivial, trivial, trivial, ⟨rfl, lRX6_9⟩, trivial, trivial, trivial, trivial, trivial, trivial, trivial, trivial, trivial, rfl, trivial, ⟨rfl, lRX6_9⟩, trivial, trivial, trivial, trivial, trivial, trivial, trivial, trivial, trivial, trivial, rfl, trivial, ⟨rfl, lRX6_9⟩, trivial, trivial, trivial, trivial, trivial, trivial, trivial, rfl, trivial⟩
set_option maxRecDepth 20000 in
theorem ekX6_highOf : eoks 149 kX6_highOf := ⟨trivial, ⟨rfl, lRX6_9⟩, trivial, trivial, trivial, trivial, trivial, rfl, trivial, rfl, trivial, ⟨rfl, lRX6_9⟩, trivial, trivial, trivial, trivial, trivial, trivial, rfl, trivial⟩
set_option maxRecDepth 20000 in
theorem ekX6_canSing : eoks 150 kX6_canSing := ⟨trivial, trivial, ⟨rfl, lRX6_9⟩, trivial, trivial, trivial, trivial, trivial, trivial, lRX6_169, lRX6_47, rfl, trivial⟩
set_option maxRecDepth 20000 in
theorem ekX6_of : eoks 151 kX6_of := ⟨trivial, trivial, lRX6_172, rfl, trivial, trivial, trivial, lRX6_47, rfl, trivial, rfl, trivial, rfl, trivial, ⟨rfl, lRX6_9⟩, trivial, trivial, trivial, trivial, rfl, trivial, ⟨rfl, lRX6_9⟩, trivial, trivial, trivial, trivial, rfl, trivial, ⟨rfl, lRX6_9⟩, trivial, trivial, trivial, trivial, rfl, trivial, trivial, lRX6_133, rfl, trivial, ⟨rfl, lRX6_9⟩, trivial, trivial, trivial, trivial, rfl, trivial, rfl, trivial, ⟨rfl, lRX6_9⟩, trivial, trivial, trivial, trivial, rfl, trivial, trivial, lRX6_144, rfl, trivial, lRX6_160, trivial, trivial, trivial, lRX6_157, rfl, trivial, trivial, lRX6_133, rfl, trivial, trivial, trivial, lRX6_154, rfl, trivial, rfl, trivial⟩
set_option maxRecDepth 20000 in
theorem ekX6_row : eoks 152 kX6_row := ⟨trivial, trivial, lRX6_172, rfl, trivial, trivial, trivial, lRX6_47, rfl, trivial, rfl, trivial, trivial, trivial, lRX6_47, rfl, trivial, rfl, trivial, ⟨rfl, lRX6_9⟩, trivial, trivial, trivial, trivial, trivial, rfl, trivial, rfl, trivial, ⟨rfl, lRX6_9⟩, trivial, trivial, trivial, trivial, trivial, trivial, trivial, trivial, trivial, trivial, ⟨rfl, lRX6_9⟩, trivial, trivial, trivial, trivial, trivial, trivial, trivial, trivial, trivial, trivial, rfl, trivial⟩
set_option maxRecDepth 20000 in
theorem ekX6_sing : eoks 153 kX6_sing := ⟨trivial, trivial, lRX6_172, rfl, trivial, rfl, trivial, trivial, rfl, trivial, trivial, trivial, lRX6_175, rfl, trivial, rfl, trivial, trivial, lRX6_133, rfl, trivial, ⟨rfl, lRX6_9⟩, trivial, trivial, trivial, trivial, rfl, trivial, trivial, trivial, ⟨rfl, lRX6_9⟩, trivial, trivial, trivial, trivial, trivial, trivial, rfl, trivial⟩
set_option maxRecDepth 20000 in
theorem ekX6_tire : eoks 154 kX6_tire := ⟨trivial, trivial, lRX6_172, rfl, trivial, rfl, trivial, trivial, trivial, lRX6_47, rfl, trivial, rfl, trivial, ⟨rfl, lRX6_9⟩, trivial, trivial, trivial, trivial, trivial, trivial, ⟨rfl, lRX6_9⟩, trivial, trivial, trivial, trivial, trivial, trivial, rfl, trivial⟩
set_option maxRecDepth 20000 in
theorem ekX6_stone : eoks 155 kX6_stone := ⟨trivial, trivial, trivial, lRX6_47, rfl, trivial, rfl, trivial, ⟨rfl, lRX6_9⟩, trivial, trivial, trivial, rfl, trivial, rfl, trivial, ⟨rfl, lRX6_9⟩, trivial, trivial, trivial, trivial, ⟨rfl, lRX6_9⟩, trivial, trivial, trivial, trivial, trivial, trivial, ⟨rfl, lRX6_9⟩, trivial, trivial, trivial, trivial, trivial, trivial, ⟨rfl, lRX6_9⟩, trivial, trivial, trivial, trivial, trivial, trivial, ⟨rfl, lRX6_9⟩, trivial, trivial, trivial, trivial, trivial, trivial, trivial, rfl, trivial⟩
set_option maxRecDepth 20000 in
theorem ekX6_at : eoks 156 kX6_at := ⟨trivial, trivial, lRX6_178, rfl, trivial, trivial, trivial, lRX6_47, rfl, trivial, rfl, trivial, rfl, trivial, ⟨rfl, lRX6_9⟩, trivial, trivial, trivial, trivial, rfl, trivial, trivial, rfl, trivial, ⟨rfl, lRX6_9⟩, trivial, trivial, trivial, trivial, rfl, trivial, trivial, rfl, trivial, ⟨rfl, lRX6_9⟩, trivial, trivial, trivial, trivial, rfl, trivial, trivial, lRX6_181, lRX6_184, trivial, trivial, trivial, trivial, rfl, trivial⟩
set_option maxRecDepth 20000 in
theorem ekX6_prop : eoks 157 kX6_prop := ⟨trivial, trivial, lRX6_178, rfl, trivial, rfl, trivial, ⟨rfl, lRX6_9⟩, trivial, trivial, trivial, trivial, trivial, rfl, trivial, rfl, trivial, ⟨rfl, lRX6_9⟩, trivial, trivial, trivial, trivial, trivial, trivial, ⟨rfl, lRX6_9⟩, trivial, trivial, trivial, trivial, rfl, trivial, rfl, trivial, trivial, trivial, rfl, trivial⟩
set_option maxRecDepth 20000 in
theorem ekX6_told : eoks 158 kX6_told := ⟨trivial, rfl, trivial, ⟨rfl, lRX6_9⟩, trivial, trivial, rfl, trivial, trivial, trivial, lRX6_129, rfl, trivial, trivial, trivial, lRX6_129, rfl, trivial, lRX6_181, rfl, trivial, trivial, lRX6_181, lRX6_184, rfl, trivial, lRX6_187, rfl, trivial, rfl, trivial⟩
set_option maxRecDepth 20000 in
theorem ekX6_goesBy : eoks 159 kX6_goesBy := ⟨trivial, lRX6_160, trivial, trivial, trivial, lRX6_163, lRX6_184, trivial, trivial, trivial, trivial, trivial, ⟨rfl, lRX6_9⟩, trivial, trivial, rfl, trivial, ⟨rfl, lRX6_9⟩, trivial, trivial, trivial, trivial, trivial, trivial, trivial, trivial, trivial, trivial, trivial, trivial, trivial, rfl, trivial, trivial, trivial, trivial, ⟨rfl, lRX6_9⟩, trivial, trivial, rfl, trivial, ⟨rfl, lRX6_9⟩, trivial, trivial, trivial, trivial, trivial, trivial, trivial, lRX6_147, rfl, trivial, trivial, trivial, lRX6_129, rfl, trivial, trivial, trivial, lRX6_129, trivial, trivial, trivial, trivial, ⟨rfl, lRX6_9⟩, trivial, trivial, trivial, trivial, rfl, trivial, rfl, trivial, trivial, rfl, trivial, rfl, trivial, trivial, trivial, rfl, trivial, ⟨rfl, lRX6_9⟩, trivial, trivial, trivial, trivial, trivial, trivial, trivial, lRX6_190, rfl, trivial⟩
set_option maxRecDepth 20000 in
theorem ekX6_goes : eoks 160 kX6_goes := ⟨trivial, trivial, lRX6_193, rfl, trivial⟩
set_option maxRecDepth 20000 in
theorem ekX6_beat : eoks 161 kX6_beat := ⟨trivial, ⟨rfl, lRX6_9⟩, trivial, trivial, lRX6_196, rfl, trivial, rfl, trivial, lRX6_197, rfl, trivial⟩
set_option maxRecDepth 20000 in
theorem ekX6_on : eoks 162 kX6_on := ⟨trivial, trivial, trivial, lRX6_47, rfl, trivial, trivial, trivial, trivial, lRX6_172, rfl, trivial, rfl, trivial, trivial, trivial, lRX6_47, rfl, trivial, rfl, trivial, lRX6_200, trivial, trivial, trivial, trivial, trivial, trivial, rfl, trivial, lRX6_197, trivial, trivial, trivial, rfl, trivial, rfl, trivial, rfl, trivial, trivial, trivial, rfl, trivial, rfl, trivial, lRX6_187, rfl, trivial, trivial, rfl, trivial, rfl, trivial, trivial, rfl, trivial, lRX6_181, rfl, trivial, ⟨rfl, lRX6_9⟩, trivial, trivial, trivial, trivial, trivial, trivial, trivial, trivial, lRX6_203, trivial, rfl, trivial⟩
set_option maxRecDepth 20000 in
theorem ekX6_steady : eoks 163 kX6_steady := ⟨trivial, lRX6_200, trivial, trivial, trivial, trivial, trivial, trivial, rfl, trivial, trivial, rfl, trivial, trivial, lRX6_181, lRX6_184, rfl, trivial, rfl, trivial, trivial, trivial, lRX6_197, trivial, trivial, rfl, trivial, lRX6_203, trivial, rfl, trivial⟩
set_option maxRecDepth 20000 in
theorem ekX6_looksForNote : eoks 164 kX6_looksForNote := ⟨trivial, ⟨rfl, lRX6_9⟩, trivial, trivial, trivial, trivial, trivial, trivial, trivial, ⟨rfl, lRX6_206⟩, trivial, trivial, ⟨rfl, lRX6_209⟩, trivial, ⟨rfl, lRX6_9⟩, trivial, trivial, trivial, trivial, trivial, trivial, trivial, trivial, lRX6_169, rfl, trivial, ⟨rfl, lRX6_9⟩, trivial, trivial, trivial, trivial, trivial, trivial, lRX6_181, trivial, trivial, trivial, trivial, ⟨rfl, lRX6_209⟩, rfl, trivial, rfl, trivial, ⟨rfl, lRX6_206⟩, ⟨rfl, lRX6_206⟩, trivial, trivial, trivial, ⟨rfl, lRX6_209⟩, rfl, trivial, rfl, trivial, ⟨rfl, lRX6_209⟩, ⟨rfl, lRX6_209⟩, trivial, rfl, trivial, ⟨rfl, lRX6_9⟩, trivial, trivial, trivial, trivial, trivial, rfl, trivial⟩
set_option maxRecDepth 20000 in
theorem ekX6_best : eoks 165 kX6_best := ⟨trivial, trivial, lRX6_172, rfl, trivial, trivial, trivial, lRX6_47, rfl, trivial, rfl, trivial, trivial, lRX6_212, trivial, rfl, trivial, ⟨rfl, lRX6_206⟩, rfl, trivial, ⟨rfl, lRX6_209⟩, rfl, trivial⟩
set_option maxRecDepth 20000 in
theorem ekX6_noteAbove : eoks 166 kX6_noteAbove := ⟨trivial, ⟨rfl, lRX6_9⟩, trivial, trivial, trivial, trivial, trivial, rfl, trivial, rfl, trivial, trivial, rfl, trivial, rfl, trivial, trivial, rfl, trivial, rfl, trivial, trivial, rfl, trivial, rfl, trivial, trivial, trivial, trivial, trivial, rfl, trivial, rfl, trivial, rfl, trivial⟩
set_option maxRecDepth 20000 in
theorem ekX6_chordsFrom : eoks 167 kX6_chordsFrom := ⟨trivial, trivial, ⟨rfl, lRX6_9⟩, trivial, trivial, rfl, trivial, trivial, lRX6_163, trivial, trivial, trivial, ⟨rfl, lRX6_209⟩, rfl, trivial, trivial, ⟨rfl, lRX6_209⟩, trivial, trivial, trivial, trivial, rfl, trivial, ⟨rfl, lRX6_34⟩, trivial, trivial, ⟨rfl, lRX6_9⟩, trivial, trivial, trivial, trivial, trivial, trivial, rfl, rfl, trivial, trivial, trivial, trivial, rfl, trivial, ⟨rfl, lRX6_9⟩, trivial, trivial, trivial, trivial, trivial, trivial, lRX6_215, trivial, trivial, ⟨rfl, lRX6_28⟩, trivial, trivial, ⟨rfl, lRX6_31⟩, trivial, trivial, trivial, trivial, trivial, trivial, trivial, trivial, trivial, trivial, trivial, lRX6_218, trivial, rfl, rfl, trivial⟩
set_option maxRecDepth 20000 in
theorem ekX6_chord : eoks 168 kX6_chord := ⟨trivial, trivial, trivial, lRX6_47, rfl, trivial, rfl, trivial, ⟨rfl, lRX6_9⟩, trivial, trivial, trivial, rfl, trivial, rfl, trivial, lRX6_200, trivial, trivial, trivial, trivial, ⟨rfl, lRX6_9⟩, trivial, trivial, rfl, trivial, trivial, trivial, trivial, rfl, trivial, ⟨rfl, lRX6_9⟩, trivial, trivial, trivial, trivial, trivial, trivial, lRX6_215, trivial, trivial, ⟨rfl, lRX6_31⟩, trivial, trivial, trivial, trivial, trivial, trivial, trivial, lRX6_144, trivial, trivial, rfl, trivial, rfl, trivial, trivial, ⟨rfl, lRX6_209⟩, trivial, trivial, lRX6_218, trivial, lRX6_203, trivial, trivial, rfl, trivial, ⟨rfl, lRX6_209⟩, rfl, trivial, trivial, ⟨rfl, lRX6_9⟩, trivial, trivial, rfl, trivial, ⟨rfl, lRX6_34⟩, trivial, trivial, rfl, trivial, rfl, trivial⟩
set_option maxRecDepth 20000 in
theorem ekX6_needed : eoks 169 kX6_needed := ⟨trivial, lRX6_160, lRX6_221, trivial, trivial, trivial, trivial, trivial, trivial, trivial, ⟨rfl, lRX6_9⟩, trivial, trivial, rfl, trivial, trivial, lRX6_133, rfl, trivial, trivial, trivial, trivial, trivial, trivial, trivial, trivial, lRX6_163, rfl, lRX6_221, trivial, trivial, trivial, rfl, trivial, rfl, trivial, trivial, trivial, trivial, rfl, trivial, rfl, trivial, trivial, trivial, rfl, trivial, rfl, trivial⟩
set_option maxRecDepth 20000 in
theorem ekX6_looseMany : eoks 170 kX6_looseMany := ⟨trivial, trivial, trivial, lRX6_163, lRX6_184, lRX6_190, rfl, trivial⟩
set_option maxRecDepth 20000 in
theorem ekX6_spare : eoks 171 kX6_spare := ⟨trivial, lRX6_160, trivial, trivial, lRX6_222, trivial, trivial, trivial, trivial, trivial, trivial, trivial, ⟨rfl, lRX6_9⟩, trivial, trivial, rfl, trivial, trivial, trivial, lRX6_133, rfl, trivial, trivial, trivial, trivial, trivial, trivial, trivial, trivial, lRX6_222, trivial, rfl, trivial, trivial, trivial, rfl, trivial, trivial, trivial, trivial, rfl, trivial, rfl, trivial⟩
set_option maxRecDepth 20000 in
theorem ekX6_fewestOf : eoks 172 kX6_fewestOf := ⟨trivial, lRX6_160, trivial, trivial, trivial, trivial, trivial, trivial, rfl, trivial, trivial, trivial, trivial, trivial, rfl, trivial, trivial, lRX6_222, rfl, trivial, trivial, rfl, trivial, lRX6_190, trivial, lRX6_190, rfl, trivial, trivial, trivial, rfl, trivial, trivial, rfl, trivial, rfl, trivial, rfl, trivial⟩
set_option maxRecDepth 20000 in
theorem ekX6_shift : eoks 173 kX6_shift := ⟨trivial, trivial, trivial, lRX6_47, rfl, trivial, rfl, trivial, trivial, trivial, lRX6_47, rfl, trivial, rfl, trivial, lRX6_200, trivial, lRX6_225, trivial, trivial, trivial, trivial, trivial, trivial, trivial, rfl, trivial, trivial, lRX6_228, trivial, trivial, trivial, lRX6_193, trivial, trivial, rfl, trivial, trivial, trivial, trivial, trivial, trivial, ⟨rfl, lRX6_9⟩, trivial, trivial, rfl, trivial, trivial, ⟨rfl, lRX6_9⟩, trivial, trivial, trivial, trivial, trivial, trivial, trivial, rfl, trivial, rfl, trivial, rfl, trivial, trivial, rfl, trivial, lRX6_187, rfl, trivial, trivial, trivial, lRX6_203, trivial, rfl, trivial⟩
set_option maxRecDepth 20000 in
theorem ekX6_ill : eoks 174 kX6_ill := ⟨trivial, trivial, lRX6_172, rfl, trivial, rfl, trivial, trivial, lRX6_133, rfl, trivial, rfl, trivial, ⟨rfl, lRX6_9⟩, trivial, trivial, trivial, trivial, trivial, trivial, ⟨rfl, lRX6_9⟩, trivial, trivial, trivial, trivial, trivial, trivial, trivial, trivial, trivial, trivial, trivial, trivial, trivial, ⟨rfl, lRX6_9⟩, trivial, trivial, rfl, trivial, trivial, rfl, trivial, trivial, lRX6_133, rfl, trivial, trivial, lRX6_212, trivial, ⟨rfl, lRX6_209⟩, trivial, rfl, trivial, trivial, trivial, trivial, ⟨rfl, lRX6_206⟩, trivial, rfl, trivial, trivial, trivial, ⟨rfl, lRX6_209⟩, trivial, rfl, trivial, ⟨rfl, lRX6_209⟩, rfl, trivial, trivial, trivial, rfl, trivial, ⟨rfl, lRX6_9⟩, trivial, trivial, trivial, trivial, trivial, trivial, rfl, trivial⟩
set_option maxRecDepth 20000 in
theorem ekX6_goesRound : eoks 175 kX6_goesRound := ⟨trivial, ⟨rfl, lRX6_9⟩, trivial, trivial, trivial, trivial, trivial, trivial, trivial, rfl, trivial, ⟨rfl, lRX6_37⟩, trivial, trivial, ⟨rfl, lRX6_9⟩, trivial, trivial, trivial, trivial, trivial, trivial, rfl, trivial, trivial, trivial, trivial, rfl, trivial, ⟨rfl, lRX6_37⟩, trivial, trivial, trivial, trivial, trivial, trivial, trivial, trivial, trivial, trivial, ⟨rfl, lRX6_9⟩, trivial, trivial, trivial, trivial, trivial, trivial, lRX6_175, rfl, trivial, rfl, trivial, trivial, trivial, rfl, rfl, trivial⟩
set_option maxRecDepth 20000 in
theorem ekX6_canon : eoks 176 kX6_canon := ⟨trivial, trivial, trivial, lRX6_47, rfl, trivial, rfl, trivial, trivial, trivial, lRX6_47, rfl, trivial, rfl, trivial, lRX6_200, lRX6_221, trivial, trivial, trivial, trivial, trivial, rfl, trivial, lRX6_181, trivial, trivial, trivial, rfl, trivial, rfl, trivial, trivial, trivial, lRX6_197, trivial, trivial, lRX6_231, trivial, rfl, trivial, lRX6_187, trivial, trivial, lRX6_203, trivial, rfl, trivial, rfl, trivial, rfl, trivial⟩
set_option maxRecDepth 20000 in
theorem ekX6_weightOf : eoks 177 kX6_weightOf := ⟨trivial, trivial, trivial, trivial, trivial, trivial, ⟨rfl, lRX6_9⟩, trivial, trivial, rfl, trivial, trivial, trivial, lRX6_166, rfl, trivial, trivial, trivial, trivial, trivial, rfl, trivial, ⟨rfl, lRX6_9⟩, trivial, trivial, trivial, trivial, rfl, trivial, trivial, trivial, trivial, rfl, trivial, rfl, trivial⟩
set_option maxRecDepth 20000 in
theorem ekX6_props : eoks 178 kX6_props := ⟨trivial, trivial, trivial, lRX6_47, rfl, trivial, rfl, trivial, lRX6_181, trivial, lRX6_221, trivial, trivial, trivial, trivial, trivial, rfl, trivial, trivial, lRX6_234, trivial, rfl, trivial, lRX6_190, trivial, rfl, trivial, lRX6_190, rfl, trivial, trivial, trivial, rfl, trivial, trivial, rfl, trivial, rfl, trivial, rfl, trivial⟩
set_option maxRecDepth 20000 in
theorem ekX6_critical : eoks 179 kX6_critical := ⟨trivial, trivial, trivial, lRX6_47, rfl, trivial, rfl, trivial, lRX6_237, trivial, trivial, trivial, lRX6_222, trivial, trivial, trivial, trivial, trivial, trivial, trivial, trivial, trivial, ⟨rfl, lRX6_9⟩, trivial, trivial, rfl, trivial, trivial, trivial, trivial, trivial, trivial, ⟨rfl, lRX6_9⟩, trivial, trivial, rfl, trivial, trivial, trivial, trivial, trivial, trivial, rfl, trivial, trivial, trivial, trivial, trivial, trivial, rfl, trivial, trivial, trivial, trivial, trivial, trivial, trivial, trivial, trivial, trivial, trivial, trivial, trivial, trivial, lRX6_222, trivial, rfl, trivial, rfl, trivial, trivial, trivial, rfl, trivial, rfl, trivial, trivial, trivial, trivial, trivial, rfl, trivial, trivial, trivial, trivial, rfl, trivial, rfl, trivial, trivial, trivial, trivial, rfl, trivial, rfl, trivial, rfl, trivial, rfl, trivial, rfl, trivial⟩
set_option maxRecDepth 20000 in
theorem ekX6_load : eoks 180 kX6_load := ⟨trivial, lRX6_240, trivial, lRX6_181, trivial, rfl, trivial⟩
set_option maxRecDepth 20000 in
theorem ekX6_dust : eoks 181 kX6_dust := ⟨trivial, trivial, rfl, trivial, ⟨rfl, lRX6_9⟩, trivial, trivial, trivial, trivial, rfl, trivial, trivial, trivial, lRX6_47, rfl, trivial, trivial, trivial, lRX6_47, rfl, trivial, rfl, trivial, ⟨rfl, lRX6_9⟩, trivial, trivial, trivial, rfl, trivial, rfl, trivial, ⟨rfl, lRX6_9⟩, trivial, trivial, ⟨rfl, lRX6_9⟩, trivial, trivial, trivial, trivial, trivial, trivial, ⟨rfl, lRX6_9⟩, trivial, trivial, ⟨rfl, lRX6_9⟩, trivial, trivial, trivial, trivial, trivial, trivial, ⟨rfl, lRX6_9⟩, trivial, trivial, trivial, trivial, trivial, trivial, trivial, ⟨rfl, lRX6_9⟩, trivial, trivial, rfl, trivial⟩
set_option maxRecDepth 20000 in
theorem ekX6_isDust : eoks 182 kX6_isDust := ⟨trivial, trivial, trivial, trivial, trivial, trivial, ⟨rfl, lRX6_9⟩, trivial, trivial, rfl, trivial, rfl, trivial, ⟨rfl, lRX6_9⟩, trivial, trivial, trivial, trivial, trivial, rfl, trivial, ⟨rfl, lRX6_9⟩, trivial, trivial, trivial, trivial, trivial, lRX6_187, rfl, trivial, rfl, trivial, trivial, trivial, rfl, trivial, rfl, trivial⟩
set_option maxRecDepth 20000 in
theorem ekX6_isFlat : eoks 183 kX6_isFlat := ⟨trivial, lRX6_200, trivial, ⟨rfl, lRX6_9⟩, trivial, trivial, trivial, trivial, trivial, trivial, ⟨rfl, lRX6_9⟩, trivial, trivial, trivial, trivial, rfl, trivial, rfl, trivial, trivial, trivial, trivial, trivial, trivial, trivial, trivial, trivial, rfl, trivial, rfl, trivial, trivial, lRX6_243, trivial, trivial, lRX6_197, trivial, trivial, rfl, trivial, lRX6_203, trivial, rfl, trivial⟩
set_option maxRecDepth 20000 in
theorem ekX6_flat : eoks 184 kX6_flat := ⟨trivial, trivial, trivial, trivial, trivial, trivial, ⟨rfl, lRX6_9⟩, trivial, trivial, rfl, trivial, trivial, trivial, lRX6_133, rfl, trivial, ⟨rfl, lRX6_9⟩, trivial, trivial, rfl, trivial, trivial, lRX6_246, rfl, trivial, trivial, trivial, rfl, trivial, trivial, trivial, trivial, rfl, trivial, rfl, trivial⟩
set_option maxRecDepth 20000 in
theorem ekX6_lightest : eoks 185 kX6_lightest := ⟨trivial, trivial, trivial, trivial, ⟨rfl, lRX6_9⟩, trivial, trivial, rfl, trivial, trivial, trivial, trivial, trivial, trivial, ⟨rfl, lRX6_9⟩, trivial, trivial, rfl, trivial, trivial, trivial, lRX6_166, rfl, trivial, ⟨rfl, lRX6_9⟩, trivial, trivial, trivial, trivial, trivial, ⟨rfl, lRX6_9⟩, trivial, trivial, trivial, trivial, rfl, trivial, ⟨rfl, lRX6_9⟩, trivial, trivial, trivial, trivial, trivial, ⟨rfl, lRX6_9⟩, trivial, trivial, trivial, trivial, rfl, trivial, trivial, rfl, trivial, rfl, trivial, trivial, trivial, trivial, rfl, trivial, trivial, lRX6_166, rfl, trivial, trivial, rfl, trivial, rfl, trivial, rfl, trivial, rfl, trivial⟩
set_option maxRecDepth 20000 in
theorem ekX6_order : eoks 186 kX6_order := ⟨trivial, trivial, trivial, lRX6_47, rfl, trivial, rfl, trivial, trivial, rfl, trivial, trivial, lRX6_249, rfl, trivial, lRX6_181, trivial, trivial, trivial, trivial, trivial, trivial, trivial, trivial, trivial, rfl, trivial, trivial, lRX6_249, trivial, trivial, trivial, rfl, trivial, trivial, ⟨rfl, lRX6_9⟩, trivial, trivial, trivial, trivial, trivial, trivial, trivial, trivial, trivial, rfl, trivial, rfl, trivial, trivial, trivial, trivial, rfl, trivial, rfl, trivial⟩
set_option maxRecDepth 20000 in
theorem ekX6_lowest : eoks 187 kX6_lowest := ⟨trivial, trivial, trivial, rfl, trivial, trivial, rfl, trivial, trivial, trivial, trivial, trivial, trivial, trivial, rfl, trivial, trivial, trivial, trivial, trivial, trivial, trivial, trivial, rfl, trivial, rfl, trivial, rfl, trivial, trivial, trivial, rfl, trivial⟩
set_option maxRecDepth 20000 in
theorem ekX6_odds : eoks 188 kX6_odds := ⟨trivial, trivial, trivial, lRX6_47, rfl, trivial, ⟨rfl, lRX6_9⟩, trivial, trivial, rfl, lRX6_252, rfl, trivial, lRX6_160, trivial, trivial, trivial, trivial, trivial, trivial, ⟨rfl, lRX6_9⟩, trivial, trivial, rfl, trivial, trivial, trivial, trivial, trivial, trivial, trivial, trivial, trivial, lRX6_222, rfl, trivial, rfl, trivial, trivial, trivial, trivial, rfl, trivial, trivial, ⟨rfl, lRX6_9⟩, trivial, trivial, trivial, trivial, lRX6_254, rfl, trivial⟩
set_option maxRecDepth 20000 in
theorem ekX6_mean : eoks 189 kX6_mean := ⟨trivial, trivial, trivial, lRX6_47, rfl, trivial, trivial, trivial, lRX6_47, rfl, lRX6_252, rfl, trivial, lRX6_200, trivial, trivial, trivial, trivial, trivial, trivial, rfl, trivial, trivial, lRX6_181, trivial, trivial, trivial, trivial, lRX6_197, trivial, trivial, rfl, trivial, lRX6_203, trivial, trivial, trivial, trivial, lRX6_254, rfl, trivial⟩
set_option maxRecDepth 20000 in
theorem ekX6_wage : eoks 190 kX6_wage := ⟨trivial, trivial, lRX6_172, rfl, trivial, trivial, trivial, lRX6_47, rfl, lRX6_252, rfl, trivial, trivial, lRX6_133, rfl, trivial, trivial, trivial, lRX6_254, rfl, trivial, lRX6_160, trivial, lRX6_225, trivial, trivial, trivial, trivial, trivial, trivial, trivial, trivial, trivial, trivial, trivial, trivial, trivial, trivial, trivial, rfl, trivial, trivial, trivial, trivial, trivial, rfl, trivial, trivial, trivial, trivial, trivial, trivial, trivial, lRX6_163, trivial, trivial, lRX6_163, trivial, trivial, trivial, trivial, trivial, trivial, trivial, trivial, trivial, rfl, trivial, trivial, trivial, lRX6_254, rfl, trivial⟩
set_option maxRecDepth 20000 in
theorem ekX6_plan : eoks 191 kX6_plan := ⟨trivial, trivial, rfl, trivial, ⟨rfl, lRX6_9⟩, trivial, trivial, trivial, trivial, rfl, trivial, trivial, lRX6_172, rfl, trivial, rfl, trivial, trivial, trivial, lRX6_47, rfl, trivial, rfl, trivial, ⟨rfl, lRX6_9⟩, trivial, trivial, trivial, rfl, trivial, rfl, trivial, ⟨rfl, lRX6_9⟩, trivial, trivial, ⟨rfl, lRX6_9⟩, trivial, trivial, trivial, trivial, trivial, trivial, ⟨rfl, lRX6_9⟩, trivial, trivial, ⟨rfl, lRX6_9⟩, trivial, trivial, trivial, trivial, trivial, trivial, ⟨rfl, lRX6_9⟩, trivial, trivial, trivial, trivial, trivial, trivial, trivial, ⟨rfl, lRX6_9⟩, trivial, trivial, rfl, trivial⟩
set_option maxRecDepth 20000 in
theorem ekX6_planned : eoks 192 kX6_planned := ⟨trivial, trivial, trivial, lRX6_47, rfl, trivial, rfl, trivial, lRX6_200, trivial, trivial, trivial, trivial, ⟨rfl, lRX6_9⟩, trivial, trivial, rfl, trivial, ⟨rfl, lRX6_9⟩, trivial, trivial, trivial, trivial, trivial, trivial, ⟨rfl, lRX6_9⟩, trivial, trivial, trivial, trivial, trivial, trivial, ⟨rfl, lRX6_9⟩, trivial, trivial, trivial, trivial, trivial, trivial, lRX6_175, rfl, trivial, rfl, trivial, trivial, trivial, lRX6_197, trivial, trivial, rfl, trivial, rfl, trivial, lRX6_187, rfl, trivial, lRX6_181, trivial, trivial, lRX6_203, trivial, rfl, trivial⟩
set_option maxRecDepth 20000 in
theorem ekX6_book : eoks 193 kX6_book := ⟨trivial, trivial, rfl, trivial, ⟨rfl, lRX6_9⟩, trivial, trivial, trivial, trivial, rfl, trivial, trivial, lRX6_172, rfl, trivial, rfl, trivial, trivial, trivial, lRX6_47, rfl, trivial, rfl, trivial, ⟨rfl, lRX6_9⟩, trivial, trivial, trivial, rfl, trivial, rfl, trivial, ⟨rfl, lRX6_9⟩, trivial, trivial, ⟨rfl, lRX6_9⟩, trivial, trivial, trivial, trivial, trivial, trivial, ⟨rfl, lRX6_9⟩, trivial, trivial, ⟨rfl, lRX6_9⟩, trivial, trivial, trivial, trivial, trivial, trivial, ⟨rfl, lRX6_9⟩, trivial, trivial, trivial, trivial, trivial, trivial, trivial, ⟨rfl, lRX6_9⟩, trivial, trivial, rfl, trivial⟩
set_option maxRecDepth 20000 in
theorem ekX6_looked : eoks 194 kX6_looked := ⟨trivial, lRX6_160, trivial, trivial, trivial, trivial, ⟨rfl, lRX6_9⟩, trivial, trivial, rfl, trivial, trivial, trivial, ⟨rfl, lRX6_9⟩, trivial, trivial, trivial, trivial, lRX6_157, trivial, ⟨rfl, lRX6_9⟩, trivial, trivial, trivial, trivial, rfl, trivial, rfl, trivial, rfl, trivial, rfl, trivial⟩
set_option maxRecDepth 20000 in
theorem ekX6_ranBody : eoks 195 kX6_ranBody := ⟨trivial, ⟨rfl, lRX6_258⟩, trivial, rfl, trivial, ⟨rfl, lRX6_40⟩, trivial, ⟨rfl, lRX6_258⟩, trivial, trivial, trivial, trivial, ⟨rfl, lRX6_258⟩, trivial, trivial, ⟨rfl, lRX6_258⟩, rfl, trivial⟩
set_option maxRecDepth 20000 in
theorem ekX6_isUnder : eoks 196 kX6_isUnder := ⟨trivial, rfl, trivial, trivial, rfl, trivial, rfl, trivial, trivial, rfl, trivial, trivial, trivial, trivial, rfl, trivial, rfl, trivial, rfl, trivial⟩
set_option maxRecDepth 20000 in
theorem ekX6_plainSings : eoks 197 kX6_plainSings := ⟨trivial, trivial, lRX6_261, trivial, trivial, ⟨rfl, lRX6_264⟩, trivial, rfl, trivial⟩
set_option maxRecDepth 20000 in
theorem ekX6_singsActs : eoks 198 kX6_singsActs := ⟨trivial, ⟨rfl, lRX6_267⟩, trivial, lRX6_270, rfl, trivial, trivial, lRX6_261, trivial, trivial, trivial, trivial, lRX6_273, rfl, trivial, ⟨rfl, lRX6_267⟩, trivial, rfl, trivial, trivial, lRX6_261, trivial, trivial, lRX6_273, trivial, ⟨rfl, lRX6_264⟩, trivial, rfl, trivial, trivial, lRX6_273, rfl, trivial⟩
set_option maxRecDepth 20000 in
theorem ekX6_plainBears : eoks 199 kX6_plainBears := ⟨trivial, trivial, lRX6_261, trivial, trivial, lRX6_276, trivial, ⟨rfl, lRX6_279⟩, trivial, rfl, trivial⟩
set_option maxRecDepth 20000 in
theorem ekX6_bearsActs : eoks 200 kX6_bearsActs := ⟨trivial, ⟨rfl, lRX6_267⟩, trivial, lRX6_270, rfl, trivial, trivial, lRX6_261, trivial, trivial, lRX6_282, trivial, rfl, trivial, ⟨rfl, lRX6_267⟩, trivial, rfl, trivial, trivial, lRX6_261, trivial, trivial, lRX6_282, trivial, ⟨rfl, lRX6_279⟩, trivial, rfl, trivial, trivial, lRX6_282, rfl, trivial⟩
set_option maxRecDepth 20000 in
theorem ekX6_plainTells : eoks 201 kX6_plainTells := ⟨trivial, trivial, lRX6_261, trivial, trivial, lRX6_285, trivial, trivial, rfl, trivial⟩
set_option maxRecDepth 20000 in
theorem ekX6_tellsActs : eoks 202 kX6_tellsActs := ⟨trivial, ⟨rfl, lRX6_267⟩, trivial, lRX6_270, rfl, trivial, trivial, lRX6_261, trivial, trivial, lRX6_288, trivial, trivial, rfl, trivial, ⟨rfl, lRX6_267⟩, trivial, rfl, trivial, trivial, lRX6_261, trivial, trivial, trivial, trivial, lRX6_288, trivial, trivial, trivial, trivial, lRX6_276, trivial, rfl, trivial, trivial, lRX6_288, rfl, trivial⟩
set_option maxRecDepth 20000 in
theorem ekX6_act : eoks 203 kX6_act := ⟨trivial, trivial, ⟨rfl, lRX6_258⟩, trivial, trivial, lRX6_172, rfl, trivial, trivial, trivial, lRX6_47, rfl, trivial, rfl, trivial, trivial, ⟨rfl, lRX6_9⟩, trivial, trivial, trivial, trivial, ⟨rfl, lRX6_267⟩, trivial, trivial, ⟨rfl, lRX6_264⟩, trivial, trivial, ⟨rfl, lRX6_9⟩, trivial, trivial, trivial, trivial, ⟨rfl, lRX6_279⟩, trivial, rfl, trivial, trivial, lRX6_276, rfl, trivial, trivial, rfl, trivial, trivial, lRX6_285, rfl, trivial, trivial, lRX6_291, rfl, trivial⟩
set_option maxRecDepth 20000 in
theorem ekX6_trace : eoks 204 kX6_trace := ⟨trivial, trivial, trivial, ⟨rfl, lRX6_258⟩, trivial, rfl, trivial, ⟨rfl, lRX6_258⟩, rfl, trivial, trivial, trivial, lRX6_47, rfl, trivial, ⟨rfl, lRX6_40⟩, trivial, trivial, rfl, trivial, rfl, trivial⟩
set_option maxRecDepth 20000 in
theorem ekX6_as : eoks 205 kX6_as := ⟨trivial, trivial, lRX6_172, rfl, trivial, trivial, trivial, lRX6_47, rfl, trivial, rfl, trivial, ⟨rfl, lRX6_9⟩, trivial, trivial, trivial, trivial, trivial, lRX6_270, rfl, trivial, ⟨rfl, lRX6_9⟩, trivial, trivial, trivial, trivial, rfl, trivial, rfl, trivial⟩
set_option maxRecDepth 20000 in
theorem ekX6_image : eoks 206 kX6_image := ⟨trivial, trivial, trivial, trivial, rfl, trivial, ⟨rfl, lRX6_15⟩, trivial, trivial, ⟨rfl, lRX6_9⟩, trivial, trivial, trivial, trivial, rfl, trivial, trivial, ⟨rfl, lRX6_294⟩, trivial, ⟨rfl, lRX6_9⟩, trivial, trivial, rfl, trivial⟩
set_option maxRecDepth 20000 in
theorem ekX6_undo : eoks 207 kX6_undo := ⟨trivial, ⟨rfl, lRX6_294⟩, rfl, trivial, rfl, trivial, trivial, trivial, trivial, rfl, trivial, ⟨rfl, lRX6_9⟩, trivial, trivial, ⟨rfl, lRX6_15⟩, trivial, trivial, trivial, trivial, rfl, trivial, ⟨rfl, lRX6_9⟩, trivial, trivial, rfl, trivial⟩
set_option maxRecDepth 20000 in
theorem ekX6_count : eoks 208 kX6_count := ⟨trivial, trivial, rfl, trivial, ⟨rfl, lRX6_258⟩, rfl, trivial, trivial, trivial, lRX6_47, rfl, trivial, ⟨rfl, lRX6_9⟩, trivial, trivial, trivial, trivial, rfl, trivial, rfl, trivial⟩
set_option maxRecDepth 20000 in
theorem ekL_law : eoks 209 kL_law := ⟨trivial, trivial, trivial, trivial, trivial, trivial, trivial, trivial, trivial, trivial, trivial, trivial, trivial, trivial, trivial, rfl, trivial, trivial, trivial, trivial, trivial, rfl, trivial, trivial, trivial, trivial, trivial, trivial, lRL_13, trivial, trivial, trivial, trivial, trivial, trivial, lRL_17, rfl, trivial, rfl, trivial, lRL_18, trivial, lRL_22, rfl, trivial, rfl, trivial, trivial, trivial, trivial, trivial, trivial, trivial, trivial, trivial, trivial, trivial, trivial, trivial, trivial, trivial, trivial, lRL_23, trivial, trivial, trivial, trivial, trivial, trivial, trivial, trivial, trivial, trivial, trivial, trivial, trivial, trivial, trivial, trivial, lRL_27, rfl, trivial, rfl, trivial, trivial, trivial, trivial, trivial, trivial, trivial, trivial, trivial, trivial, trivial, lRL_28, trivial, trivial, trivial, trivial, trivial, trivial, trivial, trivial, trivial, trivial, trivial, lRL_32, rfl, trivial, rfl, trivial, trivial, trivial, trivial, trivial, trivial, trivial, trivial, trivial, trivial, trivial, trivial, trivial, trivial, trivial, trivial, lRL_33, trivial, trivial, trivial, trivial, trivial, trivial, trivial, trivial, trivial, trivial, trivial, trivial, trivial, trivial, trivial, trivial, lRL_36, rfl, trivial, rfl, trivial, trivial, trivial, trivial, trivial, trivial, trivial, trivial, trivial, trivial, trivial, lRL_37, trivial, trivial, trivial, trivial, trivial, trivial, trivial, trivial, trivial, trivial, trivial, lRL_40, rfl, trivial, rfl, trivial, trivial, trivial, trivial, trivial, trivial, trivial, trivial, trivial, trivial, trivial, lRL_41, trivial, trivial, trivial, trivial, trivial, trivial, trivial, trivial, trivial, trivial, trivial, lRL_44, rfl, trivial, rfl, trivial, trivial, trivial, trivial, trivial, trivial, lRL_45, trivial, trivial, trivial, trivial, trivial, trivial, lRL_48, rfl, trivial, rfl, trivial, trivial, trivial, trivial, trivial, trivial, trivial, trivial, trivial, trivial, trivial, lRL_49, trivial, trivial, trivial, trivial, trivial, trivial, trivial, trivial, trivial, trivial, trivial, lRL_52, rfl, trivial, rfl, trivial, trivial, trivial, trivial, trivial, trivial, trivial, trivial, trivial, trivial, trivial, rfl, trivial, rfl, trivial, lRL_53, trivial, trivial, trivial, trivial, trivial, trivial, trivial, trivial, trivial, trivial, trivial, rfl, trivial, rfl, trivial, lRL_57, rfl, trivial, rfl, trivial, trivial, trivial, trivial, trivial, trivial, lRL_58, trivial, trivial, trivial, trivial, trivial, trivial, lRL_61, rfl, trivial, rfl, trivial, lRL_62, trivial, lRL_65, rfl, trivial, rfl, trivial, trivial, trivial, trivial, trivial, trivial, trivial, trivial, trivial, trivial, trivial, lRL_66, trivial, trivial, trivial, trivial, trivial, trivial, trivial, trivial, trivial, trivial, trivial, lRL_69, rfl, trivial, rfl, trivial, lRL_70, trivial, lRL_73, rfl, trivial, rfl, trivial, trivial, trivial, trivial, trivial, trivial, trivial, trivial, trivial, trivial, trivial, lRL_74, trivial, trivial, trivial, trivial, trivial, trivial, trivial, trivial, trivial, trivial, trivial, lRL_77, rfl, trivial, rfl, trivial, trivial, trivial, trivial, trivial, trivial, lRL_78, trivial, trivial, trivial, trivial, trivial, trivial, lRL_81, rfl, trivial, rfl, trivial, lRL_82, trivial, lRL_85, rfl, trivial, rfl, trivial, lRL_86, trivial, lRL_89, rfl, trivial, rfl, trivial, trivial, trivial, trivial, trivial, trivial, trivial, trivial, trivial, trivial, trivial, lRL_90, trivial, trivial, trivial, trivial, trivial, trivial, trivial, trivial, trivial, trivial, trivial, lRL_93, rfl, trivial, rfl, trivial, trivial, trivial, trivial, trivial, trivial, lRL_94, trivial, trivial, trivial, trivial, trivial, trivial, lRL_97, rfl, trivial, rfl, trivial, trivial, trivial, trivial, trivial, trivial, trivial, trivial, trivial, trivial, trivial, lRL_98, trivial, trivial, trivial, trivial, trivial, trivial, trivial, trivial, trivial, trivial, trivial, lRL_101, rfl, trivial, rfl, trivial, trivial, trivial, trivial, trivial, trivial, lRL_102, trivial, trivial, trivial, trivial, trivial, trivial, lRL_105, rfl, trivial, rfl, trivial, trivial, trivial, trivial, trivial, trivial, lRL_106, trivial, trivial, trivial, trivial, trivial, trivial, lRL_109, rfl, trivial, rfl, trivial, lRL_110, trivial, lRL_113, rfl, trivial, rfl, trivial, trivial, trivial, trivial, trivial, trivial, trivial, trivial, trivial, trivial, trivial, lRL_114, trivial, trivial, trivial, trivial, trivial, trivial, trivial, trivial, trivial, trivial, trivial, lRL_117, rfl, trivial, rfl, trivial, lRL_118, trivial, lRL_121, rfl, trivial, rfl, trivial, trivial, trivial, trivial, trivial, trivial, lRL_122, trivial, trivial, trivial, trivial, trivial, trivial, lRL_125, rfl, trivial, rfl, trivial, trivial, trivial, trivial, trivial, trivial, lRL_126, trivial, trivial, trivial, trivial, trivial, trivial, lRL_130, trivial, rfl, trivial, rfl, trivial, trivial, trivial, trivial, trivial, trivial, trivial, trivial, trivial, trivial, trivial, lRL_131, trivial, trivial, trivial, trivial, trivial, trivial, trivial, trivial, trivial, trivial, trivial, lRL_135, trivial, rfl, trivial, rfl, trivial, trivial, trivial, trivial, trivial, trivial, trivial, trivial, trivial, trivial, trivial, lRL_136, trivial, trivial, trivial, trivial, trivial, trivial, trivial, trivial, trivial, trivial, trivial, lRL_139, trivial, rfl, trivial, rfl, trivial, trivial, trivial, trivial, trivial, trivial, trivial, trivial, trivial, trivial, trivial, lRL_140, trivial, trivial, trivial, trivial, trivial, trivial, trivial, trivial, trivial, trivial, trivial, lRL_143, rfl, trivial, rfl, trivial, trivial, trivial, trivial, trivial, trivial, lRL_144, trivial, trivial, trivial, trivial, trivial, trivial, lRL_147, rfl, trivial, rfl, trivial, trivial, trivial, trivial, trivial, trivial, trivial, trivial, trivial, trivial, trivial, lRL_148, trivial, trivial, trivial, trivial, trivial, trivial, trivial, trivial, trivial, trivial, trivial, lRL_151, rfl, trivial, rfl, trivial, lRL_152, trivial, lRL_155, rfl, trivial, rfl, trivial, trivial, trivial, trivial, trivial, trivial, trivial, trivial, trivial, trivial, trivial, trivial, trivial, trivial, trivial, trivial, lRL_156, trivial, trivial, trivial, trivial, trivial, trivial, trivial, trivial, trivial, trivial, trivial, trivial, trivial, trivial, trivial, trivial, lRL_159, rfl, trivial, rfl, trivial, trivial, trivial, trivial, trivial, trivial, lRL_160, trivial, trivial, trivial, trivial, trivial, trivial, lRL_163, rfl, trivial, rfl, trivial, trivial, trivial, trivial, trivial, trivial, trivial, trivial, trivial, trivial, trivial, lRL_164, trivial, trivial, trivial, trivial, trivial, trivial, trivial, trivial, trivial, trivial, trivial, lRL_167, rfl, trivial, rfl, trivial, lRL_168, trivial, lRL_171, rfl, trivial, rfl, trivial, lRL_172, trivial, lRL_175, rfl, trivial, rfl, trivial, trivial, trivial, trivial, trivial, trivial, lRL_176, trivial, trivial, trivial, trivial, trivial, trivial, lRL_179, rfl, trivial, rfl, trivial, rfl, trivial, rfl, trivial⟩
theorem wm_min : Cond.static Lib.Math.min.name ∈ wBig ∧ Cond.code Lib.Math.min.name Lib.Math.min.code 2 (some .int) ∈ wBig := ⟨wb2 (i := 43) rfl rfl, wb2 (i := 44) rfl rfl⟩
theorem wm_max : Cond.static Lib.Math.max.name ∈ wBig ∧ Cond.code Lib.Math.max.name Lib.Math.max.code 2 (some .int) ∈ wBig := ⟨wb2 (i := 156) rfl rfl, wb2 (i := 157) rfl rfl⟩
theorem wm_abs : Cond.static Lib.Math.abs.name ∈ wBig ∧ Cond.code Lib.Math.abs.name Lib.Math.abs.code 1 (some .int) ∈ wBig := ⟨wb3 (i := 24) rfl rfl, wb3 (i := 25) rfl rfl⟩
theorem wm_ini : Cond.initialized "java/lang/Math" ∈ wBig := wb1 (i := 8) rfl rfl
theorem wm_copy : Cond.native arraycopyName ∈ wBig ∧ Cond.static arraycopyName ∈ wBig ∧ Cond.initialized "java/lang/System" ∈ wBig := ⟨wb3 (i := 124) rfl rfl, wb3 (i := 123) rfl rfl, wb1 (i := 15) rfl rfl⟩
/-- what the tables say of a method -/
def mok (j : Nat) : Prop := Cond.code (yO j) (bO j) (mlO j) (reO j) ∈ wBig ∧ Cond.initialized (yO j).cls ∈ wBig ∧ (if stO j = true then Cond.static (yO j) ∈ wBig else Cond.instanceMethod (yO j) ∈ wBig ∧ Cond.selects (yO j).cls (yO j) (yO j) ∈ wBig) ∧ plainName (yO j).cls = true ∧ ((yO j).cls ≠ "java/lang/invoke/MethodHandle" ∧ (yO j).cls ≠ "java/lang/invoke/VarHandle" ∧ (parseMethodDescriptor (yO j).desc).map (fun d => d.parameters.length) = some (naO j)) ∧ owO j = (yO j).cls ∧ chB (bO j) 0 (kO j) = true ∧ eoks j (kO j) ∧ mlO j ≤ 20 ∧ lnB (kO j) = true
theorem mkJ6_compare_7cf53 : mok 0 := ⟨wb3 (i := 9) rfl rfl, wb1 (i := 14) rfl rfl, wb3 (i := 8) rfl rfl, by decide +kernel, by decide +kernel, rfl, chJ6_compare_7cf53, ekJ6_compare_7cf53, by decide, lnJ6_compare_7cf53⟩
theorem mkJ6_bitCount_0f7a4 : mok 1 := ⟨wb3 (i := 110) rfl rfl, wb1 (i := 14) rfl rfl, wb3 (i := 109) rfl rfl, by decide +kernel, by decide +kernel, rfl, chJ6_bitCount_0f7a4, ekJ6_bitCount_0f7a4, by decide, lnJ6_bitCount_0f7a4⟩
theorem mkJ0_length_8abf5 : mok 2 := ⟨wb2 (i := 62) rfl rfl, wb1 (i := 9) rfl rfl, ⟨wb2 (i := 60) rfl rfl, wb2 (i := 61) rfl rfl⟩, by decide +kernel, by decide +kernel, rfl, chJ0_length_8abf5, ekJ0_length_8abf5, by decide, lnJ0_length_8abf5⟩
theorem mkJ0_charAt_5068e : mok 3 := ⟨wb2 (i := 72) rfl rfl, wb1 (i := 9) rfl rfl, ⟨wb2 (i := 70) rfl rfl, wb2 (i := 71) rfl rfl⟩, by decide +kernel, by decide +kernel, rfl, chJ0_charAt_5068e, ekJ0_charAt_5068e, by decide, lnJ0_charAt_5068e⟩
theorem mkJ0_indexOf_0f7a4 : mok 4 := ⟨wb2 (i := 143) rfl rfl, wb1 (i := 9) rfl rfl, ⟨wb2 (i := 141) rfl rfl, wb2 (i := 142) rfl rfl⟩, by decide +kernel, by decide +kernel, rfl, chJ0_indexOf_0f7a4, ekJ0_indexOf_0f7a4, by decide, lnJ0_indexOf_0f7a4⟩
theorem mkJ0_indexOf_7cf53 : mok 5 := ⟨wb2 (i := 147) rfl rfl, wb1 (i := 9) rfl rfl, ⟨wb2 (i := 145) rfl rfl, wb2 (i := 146) rfl rfl⟩, by decide +kernel, by decide +kernel, rfl, chJ0_indexOf_7cf53, ekJ0_indexOf_7cf53, by decide, lnJ0_indexOf_7cf53⟩
theorem mkJ0_coder_7d493 : mok 6 := ⟨wb2 (i := 66) rfl rfl, wb1 (i := 9) rfl rfl, ⟨wb2 (i := 64) rfl rfl, wb2 (i := 65) rfl rfl⟩, by decide +kernel, by decide +kernel, rfl, chJ0_coder_7d493, ekJ0_coder_7d493, by decide, lnJ0_coder_7d493⟩
theorem mkJ0_isLatin1_aae02 : mok 7 := ⟨wb2 (i := 76) rfl rfl, wb1 (i := 9) rfl rfl, ⟨wb2 (i := 74) rfl rfl, wb2 (i := 75) rfl rfl⟩, by decide +kernel, by decide +kernel, rfl, chJ0_isLatin1_aae02, ekJ0_isLatin1_aae02, by decide, lnJ0_isLatin1_aae02⟩
theorem mkJ0_checkIndex_df160 : mok 8 := ⟨wb2 (i := 82) rfl rfl, wb1 (i := 9) rfl rfl, wb2 (i := 81) rfl rfl, by decide +kernel, by decide +kernel, rfl, chJ0_checkIndex_df160, ekJ0_checkIndex_df160, by decide, lnJ0_checkIndex_df160⟩
theorem mkJ1_charAt_3b067 : mok 9 := ⟨wb2 (i := 79) rfl rfl, wb1 (i := 10) rfl rfl, wb2 (i := 78) rfl rfl, by decide +kernel, by decide +kernel, rfl, chJ1_charAt_3b067, ekJ1_charAt_3b067, by decide, lnJ1_charAt_3b067⟩
theorem mkJ1_canEncode_9a6ad : mok 10 := ⟨wb2 (i := 154) rfl rfl, wb1 (i := 10) rfl rfl, wb2 (i := 153) rfl rfl, by decide +kernel, by decide +kernel, rfl, chJ1_canEncode_9a6ad, ekJ1_canEncode_9a6ad, by decide, lnJ1_canEncode_9a6ad⟩
theorem mkJ1_indexOf_4cfef : mok 11 := ⟨wb2 (i := 151) rfl rfl, wb1 (i := 10) rfl rfl, wb2 (i := 150) rfl rfl, by decide +kernel, by decide +kernel, rfl, chJ1_indexOf_4cfef, ekJ1_indexOf_4cfef, by decide, lnJ1_indexOf_4cfef⟩
theorem mkJ1_indexOfChar_4cfef : mok 12 := ⟨wb2 (i := 161) rfl rfl, wb1 (i := 10) rfl rfl, wb2 (i := 160) rfl rfl, by decide +kernel, by decide +kernel, rfl, chJ1_indexOfChar_4cfef, ekJ1_indexOfChar_4cfef, by decide, lnJ1_indexOfChar_4cfef⟩
theorem mkJ3_checkIndex_8e157 : mok 13 := ⟨wb2 (i := 87) rfl rfl, wb1 (i := 11) rfl rfl, wb2 (i := 86) rfl rfl, by decide +kernel, by decide +kernel, rfl, chJ3_checkIndex_8e157, ekJ3_checkIndex_8e157, by decide, lnJ3_checkIndex_8e157⟩
theorem mkX0_perform : mok 14 := ⟨wb4 (i := 51) rfl rfl, wb1 (i := 3) rfl rfl, ⟨wb4 (i := 49) rfl rfl, wb4 (i := 50) rfl rfl⟩, by decide +kernel, by decide +kernel, rfl, chX0_perform, ekX0_perform, by decide, lnX0_perform⟩
theorem mkX0_callFrom : mok 15 := ⟨wb4 (i := 55) rfl rfl, wb1 (i := 3) rfl rfl, ⟨wb4 (i := 54) rfl rfl, wbP (i := 26) rfl⟩, by decide +kernel, by decide +kernel, rfl, chX0_callFrom, ekX0_callFrom, by decide, lnX0_callFrom⟩
theorem mkX0_runBody : mok 16 := ⟨wb4 (i := 61) rfl rfl, wb1 (i := 3) rfl rfl, ⟨wb4 (i := 60) rfl rfl, wbP (i := 27) rfl⟩, by decide +kernel, by decide +kernel, rfl, chX0_runBody, ekX0_runBody, by decide, lnX0_runBody⟩
theorem mkX1_become : mok 17 := ⟨wb3 (i := 121) rfl rfl, wb1 (i := 6) rfl rfl, ⟨wb3 (i := 119) rfl rfl, wb3 (i := 120) rfl rfl⟩, by decide +kernel, by decide +kernel, rfl, chX1_become, ekX1_become, by decide, lnX1_become⟩
theorem mkX1_addSinger : mok 18 := ⟨wb2 (i := 217) rfl rfl, wb1 (i := 6) rfl rfl, ⟨wb2 (i := 215) rfl rfl, wb2 (i := 216) rfl rfl⟩, by decide +kernel, by decide +kernel, rfl, chX1_addSinger, ekX1_addSinger, by decide, lnX1_addSinger⟩
theorem mkX1_addStone : mok 19 := ⟨wb3 (i := 58) rfl rfl, wb1 (i := 6) rfl rfl, ⟨wb3 (i := 56) rfl rfl, wb3 (i := 57) rfl rfl⟩, by decide +kernel, by decide +kernel, rfl, chX1_addStone, ekX1_addStone, by decide, lnX1_addStone⟩
theorem mkX1_highOf : mok 20 := ⟨wb3 (i := 45) rfl rfl, wb1 (i := 6) rfl rfl, ⟨wb3 (i := 43) rfl rfl, wb3 (i := 44) rfl rfl⟩, by decide +kernel, by decide +kernel, rfl, chX1_highOf, ekX1_highOf, by decide, lnX1_highOf⟩
theorem mkX1_canSing : mok 21 := ⟨wb3 (i := 41) rfl rfl, wb1 (i := 6) rfl rfl, ⟨wb3 (i := 39) rfl rfl, wb3 (i := 40) rfl rfl⟩, by decide +kernel, by decide +kernel, rfl, chX1_canSing, ekX1_canSing, by decide, lnX1_canSing⟩
theorem mkX1_singing : mok 22 := ⟨wb3 (i := 14) rfl rfl, wb1 (i := 6) rfl rfl, ⟨wb3 (i := 12) rfl rfl, wb3 (i := 13) rfl rfl⟩, by decide +kernel, by decide +kernel, rfl, chX1_singing, ekX1_singing, by decide, lnX1_singing⟩
theorem mkX1_measure : mok 23 := ⟨wb2 (i := 229) rfl rfl, wb1 (i := 6) rfl rfl, ⟨wb2 (i := 227) rfl rfl, wb2 (i := 228) rfl rfl⟩, by decide +kernel, by decide +kernel, rfl, chX1_measure, ekX1_measure, by decide, lnX1_measure⟩
theorem mkX1_forceOf : mok 24 := ⟨wb2 (i := 233) rfl rfl, wb1 (i := 6) rfl rfl, ⟨wb2 (i := 231) rfl rfl, wb2 (i := 232) rfl rfl⟩, by decide +kernel, by decide +kernel, rfl, chX1_forceOf, ekX1_forceOf, by decide, lnX1_forceOf⟩
theorem mkX1_strengthOf : mok 25 := ⟨wb2 (i := 237) rfl rfl, wb1 (i := 6) rfl rfl, ⟨wb2 (i := 236) rfl rfl, wbP (i := 13) rfl⟩, by decide +kernel, by decide +kernel, rfl, chX1_strengthOf, ekX1_strengthOf, by decide, lnX1_strengthOf⟩
theorem mkX1_partners : mok 26 := ⟨wb3 (i := 22) rfl rfl, wb1 (i := 6) rfl rfl, ⟨wb3 (i := 20) rfl rfl, wb3 (i := 21) rfl rfl⟩, by decide +kernel, by decide +kernel, rfl, chX1_partners, ekX1_partners, by decide, lnX1_partners⟩
theorem mkX1_bearing : mok 27 := ⟨wb3 (i := 18) rfl rfl, wb1 (i := 6) rfl rfl, ⟨wb3 (i := 16) rfl rfl, wb3 (i := 17) rfl rfl⟩, by decide +kernel, by decide +kernel, rfl, chX1_bearing, ekX1_bearing, by decide, lnX1_bearing⟩
theorem mkX1_allOf : mok 28 := ⟨wb3 (i := 76) rfl rfl, wb1 (i := 6) rfl rfl, ⟨wb3 (i := 74) rfl rfl, wb3 (i := 75) rfl rfl⟩, by decide +kernel, by decide +kernel, rfl, chX1_allOf, ekX1_allOf, by decide, lnX1_allOf⟩
theorem mkX1_allNow : mok 29 := ⟨wb3 (i := 70) rfl rfl, wb1 (i := 6) rfl rfl, ⟨wb3 (i := 68) rfl rfl, wb3 (i := 69) rfl rfl⟩, by decide +kernel, by decide +kernel, rfl, chX1_allNow, ekX1_allNow, by decide, lnX1_allNow⟩
theorem mkX1_hangs : mok 30 := ⟨wb3 (i := 85) rfl rfl, wb1 (i := 6) rfl rfl, ⟨wb3 (i := 83) rfl rfl, wb3 (i := 84) rfl rfl⟩, by decide +kernel, by decide +kernel, rfl, chX1_hangs, ekX1_hangs, by decide, lnX1_hangs⟩
theorem mkX1_sumHanging : mok 31 := ⟨wb3 (i := 222) rfl rfl, wb1 (i := 6) rfl rfl, ⟨wb3 (i := 220) rfl rfl, wb3 (i := 221) rfl rfl⟩, by decide +kernel, by decide +kernel, rfl, chX1_sumHanging, ekX1_sumHanging, by decide, lnX1_sumHanging⟩
theorem mkX1_looseBits : mok 32 := ⟨wb3 (i := 81) rfl rfl, wb1 (i := 6) rfl rfl, ⟨wb3 (i := 79) rfl rfl, wb3 (i := 80) rfl rfl⟩, by decide +kernel, by decide +kernel, rfl, chX1_looseBits, ekX1_looseBits, by decide, lnX1_looseBits⟩
theorem mkX1_countFallen : mok 33 := ⟨wb3 (i := 97) rfl rfl, wb1 (i := 6) rfl rfl, ⟨wb3 (i := 95) rfl rfl, wb3 (i := 96) rfl rfl⟩, by decide +kernel, by decide +kernel, rfl, chX1_countFallen, ekX1_countFallen, by decide, lnX1_countFallen⟩
theorem mkX1_sumTired : mok 34 := ⟨wb3 (i := 196) rfl rfl, wb1 (i := 6) rfl rfl, ⟨wb3 (i := 194) rfl rfl, wb3 (i := 195) rfl rfl⟩, by decide +kernel, by decide +kernel, rfl, chX1_sumTired, ekX1_sumTired, by decide, lnX1_sumTired⟩
theorem mkX1_goBeat : mok 35 := ⟨wb3 (i := 106) rfl rfl, wb1 (i := 6) rfl rfl, ⟨wb3 (i := 104) rfl rfl, wb3 (i := 105) rfl rfl⟩, by decide +kernel, by decide +kernel, rfl, chX1_goBeat, ekX1_goBeat, by decide, lnX1_goBeat⟩
theorem mkX1_goRound : mok 36 := ⟨wb3 (i := 208) rfl rfl, wb1 (i := 6) rfl rfl, ⟨wb3 (i := 206) rfl rfl, wb3 (i := 207) rfl rfl⟩, by decide +kernel, by decide +kernel, rfl, chX1_goRound, ekX1_goRound, by decide, lnX1_goRound⟩
theorem mkX1_keepNotes : mok 37 := ⟨wb3 (i := 192) rfl rfl, wb1 (i := 6) rfl rfl, ⟨wb3 (i := 190) rfl rfl, wb3 (i := 191) rfl rfl⟩, by decide +kernel, by decide +kernel, rfl, chX1_keepNotes, ekX1_keepNotes, by decide, lnX1_keepNotes⟩
theorem mkX2_read : mok 38 := ⟨wb2 (i := 41) rfl rfl, wb1 (i := 2) rfl rfl, ⟨wb2 (i := 39) rfl rfl, wb2 (i := 40) rfl rfl⟩, by decide +kernel, by decide +kernel, rfl, chX2_read, ekX2_read, by decide, lnX2_read⟩
theorem mkX2_peek : mok 39 := ⟨wb2 (i := 53) rfl rfl, wb1 (i := 2) rfl rfl, ⟨wb2 (i := 52) rfl rfl, wbP (i := 2) rfl⟩, by decide +kernel, by decide +kernel, rfl, chX2_peek, ekX2_peek, by decide, lnX2_peek⟩
theorem mkX2_take : mok 40 := ⟨wb2 (i := 110) rfl rfl, wb1 (i := 2) rfl rfl, ⟨wb2 (i := 109) rfl rfl, wbP (i := 4) rfl⟩, by decide +kernel, by decide +kernel, rfl, chX2_take, ekX2_take, by decide, lnX2_take⟩
theorem mkX2_readClause : mok 41 := ⟨wb2 (i := 49) rfl rfl, wb1 (i := 2) rfl rfl, ⟨wb2 (i := 48) rfl rfl, wbP (i := 1) rfl⟩, by decide +kernel, by decide +kernel, rfl, chX2_readClause, ekX2_readClause, by decide, lnX2_readClause⟩
theorem mkX2_readWord : mok 42 := ⟨wb2 (i := 58) rfl rfl, wb1 (i := 2) rfl rfl, ⟨wb2 (i := 57) rfl rfl, wbP (i := 3) rfl⟩, by decide +kernel, by decide +kernel, rfl, chX2_readWord, ekX2_readWord, by decide, lnX2_readWord⟩
theorem mkX2_readRest : mok 43 := ⟨wb2 (i := 114) rfl rfl, wb1 (i := 2) rfl rfl, ⟨wb2 (i := 113) rfl rfl, wbP (i := 5) rfl⟩, by decide +kernel, by decide +kernel, rfl, chX2_readRest, ekX2_readRest, by decide, lnX2_readRest⟩
theorem mkX2_readNumber : mok 44 := ⟨wb2 (i := 118) rfl rfl, wb1 (i := 2) rfl rfl, ⟨wb2 (i := 117) rfl rfl, wbP (i := 6) rfl⟩, by decide +kernel, by decide +kernel, rfl, chX2_readNumber, ekX2_readNumber, by decide, lnX2_readNumber⟩
theorem mkX2_readEither : mok 45 := ⟨wb2 (i := 122) rfl rfl, wb1 (i := 2) rfl rfl, ⟨wb2 (i := 121) rfl rfl, wbP (i := 7) rfl⟩, by decide +kernel, by decide +kernel, rfl, chX2_readEither, ekX2_readEither, by decide, lnX2_readEither⟩
theorem mkX2_readBoth : mok 46 := ⟨wb2 (i := 126) rfl rfl, wb1 (i := 2) rfl rfl, ⟨wb2 (i := 125) rfl rfl, wbP (i := 8) rfl⟩, by decide +kernel, by decide +kernel, rfl, chX2_readBoth, ekX2_readBoth, by decide, lnX2_readBoth⟩
theorem mkX2_readFactor : mok 47 := ⟨wb2 (i := 130) rfl rfl, wb1 (i := 2) rfl rfl, ⟨wb2 (i := 129) rfl rfl, wbP (i := 9) rfl⟩, by decide +kernel, by decide +kernel, rfl, chX2_readFactor, ekX2_readFactor, by decide, lnX2_readFactor⟩
theorem mkX2_readTest : mok 48 := ⟨wb2 (i := 134) rfl rfl, wb1 (i := 2) rfl rfl, ⟨wb2 (i := 133) rfl rfl, wbP (i := 10) rfl⟩, by decide +kernel, by decide +kernel, rfl, chX2_readTest, ekX2_readTest, by decide, lnX2_readTest⟩
theorem mkX2_indexOfNext : mok 49 := ⟨wb2 (i := 139) rfl rfl, wb1 (i := 2) rfl rfl, ⟨wb2 (i := 138) rfl rfl, wbP (i := 11) rfl⟩, by decide +kernel, by decide +kernel, rfl, chX2_indexOfNext, ekX2_indexOfNext, by decide, lnX2_indexOfNext⟩
theorem mkX3_clear : mok 50 := ⟨wb1 (i := 136) rfl rfl, wb1 (i := 5) rfl rfl, ⟨wb1 (i := 135) rfl rfl, wbP (i := 0) rfl⟩, by decide +kernel, by decide +kernel, rfl, chX3_clear, ekX3_clear, by decide, lnX3_clear⟩
theorem mkX3_addToken : mok 51 := ⟨wb2 (i := 201) rfl rfl, wb1 (i := 5) rfl rfl, ⟨wb2 (i := 199) rfl rfl, wb2 (i := 200) rfl rfl⟩, by decide +kernel, by decide +kernel, rfl, chX3_addToken, ekX3_addToken, by decide, lnX3_addToken⟩
theorem mkX3_addClause : mok 52 := ⟨wb2 (i := 205) rfl rfl, wb1 (i := 5) rfl rfl, ⟨wb2 (i := 203) rfl rfl, wb2 (i := 204) rfl rfl⟩, by decide +kernel, by decide +kernel, rfl, chX3_addClause, ekX3_addClause, by decide, lnX3_addClause⟩
theorem mkX3_gainOf : mok 53 := ⟨wb3 (i := 1) rfl rfl, wb1 (i := 5) rfl rfl, ⟨wb2 (i := 239) rfl rfl, wb3 (i := 0) rfl rfl⟩, by decide +kernel, by decide +kernel, rfl, chX3_gainOf, ekX3_gainOf, by decide, lnX3_gainOf⟩
theorem mkX3_holds : mok 54 := ⟨wb3 (i := 5) rfl rfl, wb1 (i := 5) rfl rfl, ⟨wb3 (i := 4) rfl rfl, wbP (i := 14) rfl⟩, by decide +kernel, by decide +kernel, rfl, chX3_holds, ekX3_holds, by decide, lnX3_holds⟩
theorem mkX4_become : mok 55 := ⟨wb4 (i := 80) rfl rfl, wb1 (i := 4) rfl rfl, ⟨wb4 (i := 78) rfl rfl, wb4 (i := 79) rfl rfl⟩, by decide +kernel, by decide +kernel, rfl, chX4_become, ekX4_become, by decide, lnX4_become⟩
theorem mkX5_feed : mok 56 := ⟨wb2 (i := 33) rfl rfl, wb1 (i := 1) rfl rfl, ⟨wb2 (i := 31) rfl rfl, wb2 (i := 32) rfl rfl⟩, by decide +kernel, by decide +kernel, rfl, chX5_feed, ekX5_feed, by decide, lnX5_feed⟩
theorem mkX5_setting : mok 57 := ⟨wb2 (i := 37) rfl rfl, wb1 (i := 1) rfl rfl, ⟨wb2 (i := 35) rfl rfl, wb2 (i := 36) rfl rfl⟩, by decide +kernel, by decide +kernel, rfl, chX5_setting, ekX5_setting, by decide, lnX5_setting⟩
theorem mkX5_singer : mok 58 := ⟨wb2 (i := 213) rfl rfl, wb1 (i := 1) rfl rfl, ⟨wb2 (i := 211) rfl rfl, wb2 (i := 212) rfl rfl⟩, by decide +kernel, by decide +kernel, rfl, chX5_singer, ekX5_singer, by decide, lnX5_singer⟩
theorem mkX5_of : mok 59 := ⟨wb2 (i := 221) rfl rfl, wb1 (i := 1) rfl rfl, ⟨wb2 (i := 219) rfl rfl, wb2 (i := 220) rfl rfl⟩, by decide +kernel, by decide +kernel, rfl, chX5_of, ekX5_of, by decide, lnX5_of⟩
theorem mkX5_row : mok 60 := ⟨wb3 (i := 33) rfl rfl, wb1 (i := 1) rfl rfl, ⟨wb3 (i := 31) rfl rfl, wb3 (i := 32) rfl rfl⟩, by decide +kernel, by decide +kernel, rfl, chX5_row, ekX5_row, by decide, lnX5_row⟩
theorem mkX5_sing : mok 61 := ⟨wb3 (i := 37) rfl rfl, wb1 (i := 1) rfl rfl, ⟨wb3 (i := 35) rfl rfl, wb3 (i := 36) rfl rfl⟩, by decide +kernel, by decide +kernel, rfl, chX5_sing, ekX5_sing, by decide, lnX5_sing⟩
theorem mkX5_tire : mok 62 := ⟨wb3 (i := 50) rfl rfl, wb1 (i := 1) rfl rfl, ⟨wb3 (i := 48) rfl rfl, wb3 (i := 49) rfl rfl⟩, by decide +kernel, by decide +kernel, rfl, chX5_tire, ekX5_tire, by decide, lnX5_tire⟩
theorem mkX5_stone : mok 63 := ⟨wb3 (i := 54) rfl rfl, wb1 (i := 1) rfl rfl, ⟨wb3 (i := 52) rfl rfl, wb3 (i := 53) rfl rfl⟩, by decide +kernel, by decide +kernel, rfl, chX5_stone, ekX5_stone, by decide, lnX5_stone⟩
theorem mkX5_at : mok 64 := ⟨wb3 (i := 62) rfl rfl, wb1 (i := 1) rfl rfl, ⟨wb3 (i := 60) rfl rfl, wb3 (i := 61) rfl rfl⟩, by decide +kernel, by decide +kernel, rfl, chX5_at, ekX5_at, by decide, lnX5_at⟩
theorem mkX5_prop : mok 65 := ⟨wb3 (i := 89) rfl rfl, wb1 (i := 1) rfl rfl, ⟨wb3 (i := 87) rfl rfl, wb3 (i := 88) rfl rfl⟩, by decide +kernel, by decide +kernel, rfl, chX5_prop, ekX5_prop, by decide, lnX5_prop⟩
theorem mkX5_told : mok 66 := ⟨wb3 (i := 93) rfl rfl, wb1 (i := 1) rfl rfl, ⟨wb3 (i := 91) rfl rfl, wb3 (i := 92) rfl rfl⟩, by decide +kernel, by decide +kernel, rfl, chX5_told, ekX5_told, by decide, lnX5_told⟩
theorem mkX5_beat : mok 67 := ⟨wb3 (i := 101) rfl rfl, wb1 (i := 1) rfl rfl, ⟨wb3 (i := 99) rfl rfl, wb3 (i := 100) rfl rfl⟩, by decide +kernel, by decide +kernel, rfl, chX5_beat, ekX5_beat, by decide, lnX5_beat⟩
theorem mkX5_on : mok 68 := ⟨wb3 (i := 117) rfl rfl, wb1 (i := 1) rfl rfl, ⟨wb3 (i := 115) rfl rfl, wb3 (i := 116) rfl rfl⟩, by decide +kernel, by decide +kernel, rfl, chX5_on, ekX5_on, by decide, lnX5_on⟩
theorem mkX5_steady : mok 69 := ⟨wb3 (i := 128) rfl rfl, wb1 (i := 1) rfl rfl, ⟨wb3 (i := 126) rfl rfl, wb3 (i := 127) rfl rfl⟩, by decide +kernel, by decide +kernel, rfl, chX5_steady, ekX5_steady, by decide, lnX5_steady⟩
theorem mkX5_best : mok 70 := ⟨wb3 (i := 132) rfl rfl, wb1 (i := 1) rfl rfl, ⟨wb3 (i := 130) rfl rfl, wb3 (i := 131) rfl rfl⟩, by decide +kernel, by decide +kernel, rfl, chX5_best, ekX5_best, by decide, lnX5_best⟩
theorem mkX5_chord : mok 71 := ⟨wb3 (i := 141) rfl rfl, wb1 (i := 1) rfl rfl, ⟨wb3 (i := 139) rfl rfl, wb3 (i := 140) rfl rfl⟩, by decide +kernel, by decide +kernel, rfl, chX5_chord, ekX5_chord, by decide, lnX5_chord⟩
theorem mkX5_needed : mok 72 := ⟨wb3 (i := 166) rfl rfl, wb1 (i := 1) rfl rfl, ⟨wb3 (i := 164) rfl rfl, wb3 (i := 165) rfl rfl⟩, by decide +kernel, by decide +kernel, rfl, chX5_needed, ekX5_needed, by decide, lnX5_needed⟩
theorem mkX5_spare : mok 73 := ⟨wb3 (i := 171) rfl rfl, wb1 (i := 1) rfl rfl, ⟨wb3 (i := 169) rfl rfl, wb3 (i := 170) rfl rfl⟩, by decide +kernel, by decide +kernel, rfl, chX5_spare, ekX5_spare, by decide, lnX5_spare⟩
theorem mkX5_shift : mok 74 := ⟨wb3 (i := 184) rfl rfl, wb1 (i := 1) rfl rfl, ⟨wb3 (i := 182) rfl rfl, wb3 (i := 183) rfl rfl⟩, by decide +kernel, by decide +kernel, rfl, chX5_shift, ekX5_shift, by decide, lnX5_shift⟩
theorem mkX5_ill : mok 75 := ⟨wb3 (i := 200) rfl rfl, wb1 (i := 1) rfl rfl, ⟨wb3 (i := 198) rfl rfl, wb3 (i := 199) rfl rfl⟩, by decide +kernel, by decide +kernel, rfl, chX5_ill, ekX5_ill, by decide, lnX5_ill⟩
theorem mkX5_canon : mok 76 := ⟨wb3 (i := 204) rfl rfl, wb1 (i := 1) rfl rfl, ⟨wb3 (i := 202) rfl rfl, wb3 (i := 203) rfl rfl⟩, by decide +kernel, by decide +kernel, rfl, chX5_canon, ekX5_canon, by decide, lnX5_canon⟩
theorem mkX5_props : mok 77 := ⟨wb3 (i := 213) rfl rfl, wb1 (i := 1) rfl rfl, ⟨wb3 (i := 211) rfl rfl, wb3 (i := 212) rfl rfl⟩, by decide +kernel, by decide +kernel, rfl, chX5_props, ekX5_props, by decide, lnX5_props⟩
theorem mkX5_critical : mok 78 := ⟨wb3 (i := 226) rfl rfl, wb1 (i := 1) rfl rfl, ⟨wb3 (i := 224) rfl rfl, wb3 (i := 225) rfl rfl⟩, by decide +kernel, by decide +kernel, rfl, chX5_critical, ekX5_critical, by decide, lnX5_critical⟩
theorem mkX5_load : mok 79 := ⟨wb3 (i := 230) rfl rfl, wb1 (i := 1) rfl rfl, ⟨wb3 (i := 228) rfl rfl, wb3 (i := 229) rfl rfl⟩, by decide +kernel, by decide +kernel, rfl, chX5_load, ekX5_load, by decide, lnX5_load⟩
theorem mkX5_dust : mok 80 := ⟨wb3 (i := 234) rfl rfl, wb1 (i := 1) rfl rfl, ⟨wb3 (i := 232) rfl rfl, wb3 (i := 233) rfl rfl⟩, by decide +kernel, by decide +kernel, rfl, chX5_dust, ekX5_dust, by decide, lnX5_dust⟩
theorem mkX5_flat : mok 81 := ⟨wb3 (i := 238) rfl rfl, wb1 (i := 1) rfl rfl, ⟨wb3 (i := 236) rfl rfl, wb3 (i := 237) rfl rfl⟩, by decide +kernel, by decide +kernel, rfl, chX5_flat, ekX5_flat, by decide, lnX5_flat⟩
theorem mkX5_order : mok 82 := ⟨wb4 (i := 7) rfl rfl, wb1 (i := 1) rfl rfl, ⟨wb4 (i := 5) rfl rfl, wb4 (i := 6) rfl rfl⟩, by decide +kernel, by decide +kernel, rfl, chX5_order, ekX5_order, by decide, lnX5_order⟩
theorem mkX5_odds : mok 83 := ⟨wb4 (i := 11) rfl rfl, wb1 (i := 1) rfl rfl, ⟨wb4 (i := 9) rfl rfl, wb4 (i := 10) rfl rfl⟩, by decide +kernel, by decide +kernel, rfl, chX5_odds, ekX5_odds, by decide, lnX5_odds⟩
theorem mkX5_mean : mok 84 := ⟨wb4 (i := 23) rfl rfl, wb1 (i := 1) rfl rfl, ⟨wb4 (i := 21) rfl rfl, wb4 (i := 22) rfl rfl⟩, by decide +kernel, by decide +kernel, rfl, chX5_mean, ekX5_mean, by decide, lnX5_mean⟩
theorem mkX5_wage : mok 85 := ⟨wb4 (i := 27) rfl rfl, wb1 (i := 1) rfl rfl, ⟨wb4 (i := 25) rfl rfl, wb4 (i := 26) rfl rfl⟩, by decide +kernel, by decide +kernel, rfl, chX5_wage, ekX5_wage, by decide, lnX5_wage⟩
theorem mkX5_plan : mok 86 := ⟨wb4 (i := 31) rfl rfl, wb1 (i := 1) rfl rfl, ⟨wb4 (i := 29) rfl rfl, wb4 (i := 30) rfl rfl⟩, by decide +kernel, by decide +kernel, rfl, chX5_plan, ekX5_plan, by decide, lnX5_plan⟩
theorem mkX5_planned : mok 87 := ⟨wb4 (i := 35) rfl rfl, wb1 (i := 1) rfl rfl, ⟨wb4 (i := 33) rfl rfl, wb4 (i := 34) rfl rfl⟩, by decide +kernel, by decide +kernel, rfl, chX5_planned, ekX5_planned, by decide, lnX5_planned⟩
theorem mkX5_book : mok 88 := ⟨wb4 (i := 39) rfl rfl, wb1 (i := 1) rfl rfl, ⟨wb4 (i := 37) rfl rfl, wb4 (i := 38) rfl rfl⟩, by decide +kernel, by decide +kernel, rfl, chX5_book, ekX5_book, by decide, lnX5_book⟩
theorem mkX5_looked : mok 89 := ⟨wb4 (i := 43) rfl rfl, wb1 (i := 1) rfl rfl, ⟨wb4 (i := 41) rfl rfl, wb4 (i := 42) rfl rfl⟩, by decide +kernel, by decide +kernel, rfl, chX5_looked, ekX5_looked, by decide, lnX5_looked⟩
theorem mkX5_act : mok 90 := ⟨wb4 (i := 47) rfl rfl, wb1 (i := 1) rfl rfl, ⟨wb4 (i := 45) rfl rfl, wb4 (i := 46) rfl rfl⟩, by decide +kernel, by decide +kernel, rfl, chX5_act, ekX5_act, by decide, lnX5_act⟩
theorem mkX5_trace : mok 91 := ⟨wb4 (i := 67) rfl rfl, wb1 (i := 1) rfl rfl, ⟨wb4 (i := 65) rfl rfl, wb4 (i := 66) rfl rfl⟩, by decide +kernel, by decide +kernel, rfl, chX5_trace, ekX5_trace, by decide, lnX5_trace⟩
theorem mkX5_as : mok 92 := ⟨wb4 (i := 71) rfl rfl, wb1 (i := 1) rfl rfl, ⟨wb4 (i := 69) rfl rfl, wb4 (i := 70) rfl rfl⟩, by decide +kernel, by decide +kernel, rfl, chX5_as, ekX5_as, by decide, lnX5_as⟩
theorem mkX5_image : mok 93 := ⟨wb4 (i := 76) rfl rfl, wb1 (i := 1) rfl rfl, ⟨wb4 (i := 74) rfl rfl, wb4 (i := 75) rfl rfl⟩, by decide +kernel, by decide +kernel, rfl, chX5_image, ekX5_image, by decide, lnX5_image⟩
theorem mkX5_undo : mok 94 := ⟨wb4 (i := 85) rfl rfl, wb1 (i := 1) rfl rfl, ⟨wb4 (i := 83) rfl rfl, wb4 (i := 84) rfl rfl⟩, by decide +kernel, by decide +kernel, rfl, chX5_undo, ekX5_undo, by decide, lnX5_undo⟩
theorem mkX5_count : mok 95 := ⟨wb4 (i := 89) rfl rfl, wb1 (i := 1) rfl rfl, ⟨wb4 (i := 87) rfl rfl, wb4 (i := 88) rfl rfl⟩, by decide +kernel, by decide +kernel, rfl, chX5_count, ekX5_count, by decide, lnX5_count⟩
theorem mkX5_isSinger : mok 96 := ⟨wb2 (i := 225) rfl rfl, wb1 (i := 1) rfl rfl, ⟨wb2 (i := 224) rfl rfl, wbP (i := 12) rfl⟩, by decide +kernel, by decide +kernel, rfl, chX5_isSinger, ekX5_isSinger, by decide, lnX5_isSinger⟩
theorem mkX5_isStone : mok 97 := ⟨wb3 (i := 66) rfl rfl, wb1 (i := 1) rfl rfl, ⟨wb3 (i := 65) rfl rfl, wbP (i := 15) rfl⟩, by decide +kernel, by decide +kernel, rfl, chX5_isStone, ekX5_isStone, by decide, lnX5_isStone⟩
theorem mkX5_hasBit : mok 98 := ⟨wb3 (i := 28) rfl rfl, wb1 (i := 1) rfl rfl, wb3 (i := 27) rfl rfl, by decide +kernel, by decide +kernel, rfl, chX5_hasBit, ekX5_hasBit, by decide, lnX5_hasBit⟩
theorem mkX5_bestNote : mok 99 := ⟨wb3 (i := 136) rfl rfl, wb1 (i := 1) rfl rfl, ⟨wb3 (i := 135) rfl rfl, wbP (i := 16) rfl⟩, by decide +kernel, by decide +kernel, rfl, chX5_bestNote, ekX5_bestNote, by decide, lnX5_bestNote⟩
theorem mkX5_measureChords : mok 100 := ⟨wb3 (i := 145) rfl rfl, wb1 (i := 1) rfl rfl, ⟨wb3 (i := 144) rfl rfl, wbP (i := 17) rfl⟩, by decide +kernel, by decide +kernel, rfl, chX5_measureChords, ekX5_measureChords, by decide, lnX5_measureChords⟩
theorem mkX5_chordNote : mok 101 := ⟨wb3 (i := 149) rfl rfl, wb1 (i := 1) rfl rfl, ⟨wb3 (i := 148) rfl rfl, wbP (i := 18) rfl⟩, by decide +kernel, by decide +kernel, rfl, chX5_chordNote, ekX5_chordNote, by decide, lnX5_chordNote⟩
theorem mkX5_bestChord : mok 102 := ⟨wb3 (i := 157) rfl rfl, wb1 (i := 1) rfl rfl, ⟨wb3 (i := 156) rfl rfl, wbP (i := 19) rfl⟩, by decide +kernel, by decide +kernel, rfl, chX5_bestChord, ekX5_bestChord, by decide, lnX5_bestChord⟩
theorem mkX5_singChord : mok 103 := ⟨wb3 (i := 161) rfl rfl, wb1 (i := 1) rfl rfl, ⟨wb3 (i := 160) rfl rfl, wbP (i := 20) rfl⟩, by decide +kernel, by decide +kernel, rfl, chX5_singChord, ekX5_singChord, by decide, lnX5_singChord⟩
theorem mkX5_looseOf : mok 104 := ⟨wb3 (i := 179) rfl rfl, wb1 (i := 1) rfl rfl, ⟨wb3 (i := 178) rfl rfl, wbP (i := 22) rfl⟩, by decide +kernel, by decide +kernel, rfl, chX5_looseOf, ekX5_looseOf, by decide, lnX5_looseOf⟩
theorem mkX5_spareBits : mok 105 := ⟨wb3 (i := 175) rfl rfl, wb1 (i := 1) rfl rfl, ⟨wb3 (i := 174) rfl rfl, wbP (i := 21) rfl⟩, by decide +kernel, by decide +kernel, rfl, chX5_spareBits, ekX5_spareBits, by decide, lnX5_spareBits⟩
theorem mkX5_setShift : mok 106 := ⟨wb3 (i := 188) rfl rfl, wb1 (i := 1) rfl rfl, ⟨wb3 (i := 187) rfl rfl, wbP (i := 23) rfl⟩, by decide +kernel, by decide +kernel, rfl, chX5_setShift, ekX5_setShift, by decide, lnX5_setShift⟩
theorem mkX5_isDustBy : mok 107 := ⟨wb4 (i := 2) rfl rfl, wb1 (i := 1) rfl rfl, ⟨wb4 (i := 1) rfl rfl, wbP (i := 25) rfl⟩, by decide +kernel, by decide +kernel, rfl, chX5_isDustBy, ekX5_isDustBy, by decide, lnX5_isDustBy⟩
theorem mkX5_sortHanging : mok 108 := ⟨wb3 (i := 217) rfl rfl, wb1 (i := 1) rfl rfl, ⟨wb3 (i := 216) rfl rfl, wbP (i := 24) rfl⟩, by decide +kernel, by decide +kernel, rfl, chX5_sortHanging, ekX5_sortHanging, by decide, lnX5_sortHanging⟩
theorem mkX5_inLowestTerms : mok 109 := ⟨wb4 (i := 15) rfl rfl, wb1 (i := 1) rfl rfl, wb4 (i := 14) rfl rfl, by decide +kernel, by decide +kernel, rfl, chX5_inLowestTerms, ekX5_inLowestTerms, by decide, lnX5_inLowestTerms⟩
theorem mkX5_commonDivisor : mok 110 := ⟨wb4 (i := 19) rfl rfl, wb1 (i := 1) rfl rfl, wb4 (i := 18) rfl rfl, by decide +kernel, by decide +kernel, rfl, chX5_commonDivisor, ekX5_commonDivisor, by decide, lnX5_commonDivisor⟩
theorem mkX6_in : mok 111 := ⟨wb4 (i := 172) rfl rfl, wb1 (i := 7) rfl rfl, wb4 (i := 171) rfl rfl, by decide +kernel, by decide +kernel, rfl, chX6_in, ekX6_in, by decide, lnX6_in⟩
theorem mkX6_isSinger : mok 112 := ⟨wb5 (i := 4) rfl rfl, wb1 (i := 7) rfl rfl, ⟨wb5 (i := 3) rfl rfl, wbP (i := 40) rfl⟩, by decide +kernel, by decide +kernel, rfl, chX6_isSinger, ekX6_isSinger, by decide, lnX6_isSinger⟩
theorem mkX6_isStone : mok 113 := ⟨wb5 (i := 75) rfl rfl, wb1 (i := 7) rfl rfl, ⟨wb5 (i := 74) rfl rfl, wbP (i := 52) rfl⟩, by decide +kernel, by decide +kernel, rfl, chX6_isStone, ekX6_isStone, by decide, lnX6_isStone⟩
theorem mkX6_doesSing : mok 114 := ⟨wb5 (i := 8) rfl rfl, wb1 (i := 7) rfl rfl, ⟨wb5 (i := 7) rfl rfl, wbP (i := 41) rfl⟩, by decide +kernel, by decide +kernel, rfl, chX6_doesSing, ekX6_doesSing, by decide, lnX6_doesSing⟩
theorem mkX6_keeps : mok 115 := ⟨wb5 (i := 127) rfl rfl, wb1 (i := 7) rfl rfl, ⟨wb5 (i := 126) rfl rfl, wbP (i := 60) rfl⟩, by decide +kernel, by decide +kernel, rfl, chX6_keeps, ekX6_keeps, by decide, lnX6_keeps⟩
theorem mkX6_goesBack : mok 116 := ⟨wb5 (i := 131) rfl rfl, wb1 (i := 7) rfl rfl, ⟨wb5 (i := 130) rfl rfl, wbP (i := 61) rfl⟩, by decide +kernel, by decide +kernel, rfl, chX6_goesBack, ekX6_goesBack, by decide, lnX6_goesBack⟩
theorem mkX6_feed : mok 117 := ⟨wb4 (i := 169) rfl rfl, wb1 (i := 7) rfl rfl, ⟨wb4 (i := 167) rfl rfl, wb4 (i := 168) rfl rfl⟩, by decide +kernel, by decide +kernel, rfl, chX6_feed, ekX6_feed, by decide, lnX6_feed⟩
theorem mkX6_here : mok 118 := ⟨wb4 (i := 184) rfl rfl, wb1 (i := 7) rfl rfl, ⟨wb4 (i := 183) rfl rfl, wbP (i := 29) rfl⟩, by decide +kernel, by decide +kernel, rfl, chX6_here, ekX6_here, by decide, lnX6_here⟩
theorem mkX6_must : mok 119 := ⟨wb4 (i := 199) rfl rfl, wb1 (i := 7) rfl rfl, ⟨wb4 (i := 198) rfl rfl, wbP (i := 32) rfl⟩, by decide +kernel, by decide +kernel, rfl, chX6_must, ekX6_must, by decide, lnX6_must⟩
theorem mkX6_spells : mok 120 := ⟨wb4 (i := 193) rfl rfl, wb1 (i := 7) rfl rfl, ⟨wb4 (i := 192) rfl rfl, wbP (i := 31) rfl⟩, by decide +kernel, by decide +kernel, rfl, chX6_spells, ekX6_spells, by decide, lnX6_spells⟩
theorem mkX6_figures : mok 121 := ⟨wb4 (i := 203) rfl rfl, wb1 (i := 7) rfl rfl, ⟨wb4 (i := 202) rfl rfl, wbP (i := 33) rfl⟩, by decide +kernel, by decide +kernel, rfl, chX6_figures, ekX6_figures, by decide, lnX6_figures⟩
theorem mkX6_among : mok 122 := ⟨wb4 (i := 230) rfl rfl, wb1 (i := 7) rfl rfl, ⟨wb4 (i := 229) rfl rfl, wbP (i := 39) rfl⟩, by decide +kernel, by decide +kernel, rfl, chX6_among, ekX6_among, by decide, lnX6_among⟩
theorem mkX6_emits : mok 123 := ⟨wb4 (i := 225) rfl rfl, wb1 (i := 7) rfl rfl, ⟨wb4 (i := 224) rfl rfl, wbP (i := 38) rfl⟩, by decide +kernel, by decide +kernel, rfl, chX6_emits, ekX6_emits, by decide, lnX6_emits⟩
theorem mkX6_factor : mok 124 := ⟨wb4 (i := 221) rfl rfl, wb1 (i := 7) rfl rfl, ⟨wb4 (i := 220) rfl rfl, wbP (i := 37) rfl⟩, by decide +kernel, by decide +kernel, rfl, chX6_factor, ekX6_factor, by decide, lnX6_factor⟩
theorem mkX6_every : mok 125 := ⟨wb4 (i := 217) rfl rfl, wb1 (i := 7) rfl rfl, ⟨wb4 (i := 216) rfl rfl, wbP (i := 36) rfl⟩, by decide +kernel, by decide +kernel, rfl, chX6_every, ekX6_every, by decide, lnX6_every⟩
theorem mkX6_some : mok 126 := ⟨wb4 (i := 213) rfl rfl, wb1 (i := 7) rfl rfl, ⟨wb4 (i := 212) rfl rfl, wbP (i := 35) rfl⟩, by decide +kernel, by decide +kernel, rfl, chX6_some, ekX6_some, by decide, lnX6_some⟩
theorem mkX6_much : mok 127 := ⟨wb4 (i := 209) rfl rfl, wb1 (i := 7) rfl rfl, ⟨wb4 (i := 208) rfl rfl, wbP (i := 34) rfl⟩, by decide +kernel, by decide +kernel, rfl, chX6_much, ekX6_much, by decide, lnX6_much⟩
theorem mkX6_tellsHere : mok 128 := ⟨wb4 (i := 189) rfl rfl, wb1 (i := 7) rfl rfl, ⟨wb4 (i := 188) rfl rfl, wbP (i := 30) rfl⟩, by decide +kernel, by decide +kernel, rfl, chX6_tellsHere, ekX6_tellsHere, by decide, lnX6_tellsHere⟩
theorem mkX6_clauseHere : mok 129 := ⟨wb4 (i := 180) rfl rfl, wb1 (i := 7) rfl rfl, ⟨wb4 (i := 179) rfl rfl, wbP (i := 28) rfl⟩, by decide +kernel, by decide +kernel, rfl, chX6_clauseHere, ekX6_clauseHere, by decide, lnX6_clauseHere⟩
theorem mkX6_setting : mok 130 := ⟨wb4 (i := 176) rfl rfl, wb1 (i := 7) rfl rfl, ⟨wb4 (i := 174) rfl rfl, wb4 (i := 175) rfl rfl⟩, by decide +kernel, by decide +kernel, rfl, chX6_setting, ekX6_setting, by decide, lnX6_setting⟩
theorem mkX6_tellsOf : mok 131 := ⟨wb5 (i := 24) rfl rfl, wb1 (i := 7) rfl rfl, ⟨wb5 (i := 23) rfl rfl, wbP (i := 45) rfl⟩, by decide +kernel, by decide +kernel, rfl, chX6_tellsOf, ekX6_tellsOf, by decide, lnX6_tellsOf⟩
theorem mkX6_looks : mok 132 := ⟨wb5 (i := 20) rfl rfl, wb1 (i := 7) rfl rfl, ⟨wb5 (i := 19) rfl rfl, wbP (i := 44) rfl⟩, by decide +kernel, by decide +kernel, rfl, chX6_looks, ekX6_looks, by decide, lnX6_looks⟩
theorem mkX6_strengthOf : mok 133 := ⟨wb5 (i := 16) rfl rfl, wb1 (i := 7) rfl rfl, ⟨wb5 (i := 15) rfl rfl, wbP (i := 43) rfl⟩, by decide +kernel, by decide +kernel, rfl, chX6_strengthOf, ekX6_strengthOf, by decide, lnX6_strengthOf⟩
theorem mkX6_forceOf : mok 134 := ⟨wb5 (i := 12) rfl rfl, wb1 (i := 7) rfl rfl, ⟨wb5 (i := 11) rfl rfl, wbP (i := 42) rfl⟩, by decide +kernel, by decide +kernel, rfl, chX6_forceOf, ekX6_forceOf, by decide, lnX6_forceOf⟩
theorem mkX6_isTune : mok 135 := ⟨wb5 (i := 43) rfl rfl, wb1 (i := 7) rfl rfl, wb5 (i := 42) rfl rfl, by decide +kernel, by decide +kernel, rfl, chX6_isTune, ekX6_isTune, by decide, lnX6_isTune⟩
theorem mkX6_looksForForces : mok 136 := ⟨wb5 (i := 28) rfl rfl, wb1 (i := 7) rfl rfl, ⟨wb5 (i := 27) rfl rfl, wbP (i := 46) rfl⟩, by decide +kernel, by decide +kernel, rfl, chX6_looksForForces, ekX6_looksForForces, by decide, lnX6_looksForForces⟩
theorem mkX6_isOf : mok 137 := ⟨wb5 (i := 36) rfl rfl, wb1 (i := 7) rfl rfl, ⟨wb5 (i := 35) rfl rfl, wbP (i := 48) rfl⟩, by decide +kernel, by decide +kernel, rfl, chX6_isOf, ekX6_isOf, by decide, lnX6_isOf⟩
theorem mkX6_tunesOf : mok 138 := ⟨wb5 (i := 40) rfl rfl, wb1 (i := 7) rfl rfl, ⟨wb5 (i := 39) rfl rfl, wbP (i := 49) rfl⟩, by decide +kernel, by decide +kernel, rfl, chX6_tunesOf, ekX6_tunesOf, by decide, lnX6_tunesOf⟩
theorem mkX6_bearsOf : mok 139 := ⟨wb5 (i := 32) rfl rfl, wb1 (i := 7) rfl rfl, ⟨wb5 (i := 31) rfl rfl, wbP (i := 47) rfl⟩, by decide +kernel, by decide +kernel, rfl, chX6_bearsOf, ekX6_bearsOf, by decide, lnX6_bearsOf⟩
theorem mkX6_allBy : mok 140 := ⟨wb5 (i := 83) rfl rfl, wb1 (i := 7) rfl rfl, ⟨wb5 (i := 82) rfl rfl, wbP (i := 54) rfl⟩, by decide +kernel, by decide +kernel, rfl, chX6_allBy, ekX6_allBy, by decide, lnX6_allBy⟩
theorem mkX6_singing : mok 141 := ⟨wb5 (i := 176) rfl rfl, wb1 (i := 7) rfl rfl, ⟨wb5 (i := 175) rfl rfl, wbP (i := 66) rfl⟩, by decide +kernel, by decide +kernel, rfl, chX6_singing, ekX6_singing, by decide, lnX6_singing⟩
theorem mkX6_allNow : mok 142 := ⟨wb5 (i := 79) rfl rfl, wb1 (i := 7) rfl rfl, ⟨wb5 (i := 78) rfl rfl, wbP (i := 53) rfl⟩, by decide +kernel, by decide +kernel, rfl, chX6_allNow, ekX6_allNow, by decide, lnX6_allNow⟩
theorem mkX6_doesHang : mok 143 := ⟨wb5 (i := 91) rfl rfl, wb1 (i := 7) rfl rfl, ⟨wb5 (i := 90) rfl rfl, wbP (i := 56) rfl⟩, by decide +kernel, by decide +kernel, rfl, chX6_doesHang, ekX6_doesHang, by decide, lnX6_doesHang⟩
theorem mkX6_looseBy : mok 144 := ⟨wb5 (i := 87) rfl rfl, wb1 (i := 7) rfl rfl, ⟨wb5 (i := 86) rfl rfl, wbP (i := 55) rfl⟩, by decide +kernel, by decide +kernel, rfl, chX6_looseBy, ekX6_looseBy, by decide, lnX6_looseBy⟩
theorem mkX6_fallenMany : mok 145 := ⟨wb5 (i := 103) rfl rfl, wb1 (i := 7) rfl rfl, ⟨wb5 (i := 102) rfl rfl, wbP (i := 57) rfl⟩, by decide +kernel, by decide +kernel, rfl, chX6_fallenMany, ekX6_fallenMany, by decide, lnX6_fallenMany⟩
theorem mkX6_sizeOf : mok 146 := ⟨wb5 (i := 119) rfl rfl, wb1 (i := 7) rfl rfl, wb5 (i := 118) rfl rfl, by decide +kernel, by decide +kernel, rfl, chX6_sizeOf, ekX6_sizeOf, by decide, lnX6_sizeOf⟩
theorem mkX6_hangingWeight : mok 147 := ⟨wb5 (i := 213) rfl rfl, wb1 (i := 7) rfl rfl, ⟨wb5 (i := 212) rfl rfl, wbP (i := 70) rfl⟩, by decide +kernel, by decide +kernel, rfl, chX6_hangingWeight, ekX6_hangingWeight, by decide, lnX6_hangingWeight⟩
theorem mkX6_singer : mok 148 := ⟨wb4 (i := 236) rfl rfl, wb1 (i := 7) rfl rfl, ⟨wb4 (i := 234) rfl rfl, wb4 (i := 235) rfl rfl⟩, by decide +kernel, by decide +kernel, rfl, chX6_singer, ekX6_singer, by decide, lnX6_singer⟩
theorem mkX6_highOf : mok 149 := ⟨wb5 (i := 59) rfl rfl, wb1 (i := 7) rfl rfl, ⟨wb5 (i := 58) rfl rfl, wbP (i := 51) rfl⟩, by decide +kernel, by decide +kernel, rfl, chX6_highOf, ekX6_highOf, by decide, lnX6_highOf⟩
theorem mkX6_canSing : mok 150 := ⟨wb5 (i := 55) rfl rfl, wb1 (i := 7) rfl rfl, ⟨wb5 (i := 54) rfl rfl, wbP (i := 50) rfl⟩, by decide +kernel, by decide +kernel, rfl, chX6_canSing, ekX6_canSing, by decide, lnX6_canSing⟩
theorem mkX6_of : mok 151 := ⟨wb5 (i := 0) rfl rfl, wb1 (i := 7) rfl rfl, ⟨wb4 (i := 238) rfl rfl, wb4 (i := 239) rfl rfl⟩, by decide +kernel, by decide +kernel, rfl, chX6_of, ekX6_of, by decide, lnX6_of⟩
theorem mkX6_row : mok 152 := ⟨wb5 (i := 47) rfl rfl, wb1 (i := 7) rfl rfl, ⟨wb5 (i := 45) rfl rfl, wb5 (i := 46) rfl rfl⟩, by decide +kernel, by decide +kernel, rfl, chX6_row, ekX6_row, by decide, lnX6_row⟩
theorem mkX6_sing : mok 153 := ⟨wb5 (i := 51) rfl rfl, wb1 (i := 7) rfl rfl, ⟨wb5 (i := 49) rfl rfl, wb5 (i := 50) rfl rfl⟩, by decide +kernel, by decide +kernel, rfl, chX6_sing, ekX6_sing, by decide, lnX6_sing⟩
theorem mkX6_tire : mok 154 := ⟨wb5 (i := 63) rfl rfl, wb1 (i := 7) rfl rfl, ⟨wb5 (i := 61) rfl rfl, wb5 (i := 62) rfl rfl⟩, by decide +kernel, by decide +kernel, rfl, chX6_tire, ekX6_tire, by decide, lnX6_tire⟩
theorem mkX6_stone : mok 155 := ⟨wb5 (i := 67) rfl rfl, wb1 (i := 7) rfl rfl, ⟨wb5 (i := 65) rfl rfl, wb5 (i := 66) rfl rfl⟩, by decide +kernel, by decide +kernel, rfl, chX6_stone, ekX6_stone, by decide, lnX6_stone⟩
theorem mkX6_at : mok 156 := ⟨wb5 (i := 71) rfl rfl, wb1 (i := 7) rfl rfl, ⟨wb5 (i := 69) rfl rfl, wb5 (i := 70) rfl rfl⟩, by decide +kernel, by decide +kernel, rfl, chX6_at, ekX6_at, by decide, lnX6_at⟩
theorem mkX6_prop : mok 157 := ⟨wb5 (i := 95) rfl rfl, wb1 (i := 7) rfl rfl, ⟨wb5 (i := 93) rfl rfl, wb5 (i := 94) rfl rfl⟩, by decide +kernel, by decide +kernel, rfl, chX6_prop, ekX6_prop, by decide, lnX6_prop⟩
theorem mkX6_told : mok 158 := ⟨wb5 (i := 99) rfl rfl, wb1 (i := 7) rfl rfl, ⟨wb5 (i := 97) rfl rfl, wb5 (i := 98) rfl rfl⟩, by decide +kernel, by decide +kernel, rfl, chX6_told, ekX6_told, by decide, lnX6_told⟩
theorem mkX6_goesBy : mok 159 := ⟨wb5 (i := 116) rfl rfl, wb1 (i := 7) rfl rfl, ⟨wb5 (i := 115) rfl rfl, wbP (i := 59) rfl⟩, by decide +kernel, by decide +kernel, rfl, chX6_goesBy, ekX6_goesBy, by decide, lnX6_goesBy⟩
theorem mkX6_goes : mok 160 := ⟨wb5 (i := 112) rfl rfl, wb1 (i := 7) rfl rfl, ⟨wb5 (i := 111) rfl rfl, wbP (i := 58) rfl⟩, by decide +kernel, by decide +kernel, rfl, chX6_goes, ekX6_goes, by decide, lnX6_goes⟩
theorem mkX6_beat : mok 161 := ⟨wb5 (i := 107) rfl rfl, wb1 (i := 7) rfl rfl, ⟨wb5 (i := 105) rfl rfl, wb5 (i := 106) rfl rfl⟩, by decide +kernel, by decide +kernel, rfl, chX6_beat, ekX6_beat, by decide, lnX6_beat⟩
theorem mkX6_on : mok 162 := ⟨wb5 (i := 123) rfl rfl, wb1 (i := 7) rfl rfl, ⟨wb5 (i := 121) rfl rfl, wb5 (i := 122) rfl rfl⟩, by decide +kernel, by decide +kernel, rfl, chX6_on, ekX6_on, by decide, lnX6_on⟩
theorem mkX6_steady : mok 163 := ⟨wb5 (i := 135) rfl rfl, wb1 (i := 7) rfl rfl, ⟨wb5 (i := 133) rfl rfl, wb5 (i := 134) rfl rfl⟩, by decide +kernel, by decide +kernel, rfl, chX6_steady, ekX6_steady, by decide, lnX6_steady⟩
theorem mkX6_looksForNote : mok 164 := ⟨wb5 (i := 143) rfl rfl, wb1 (i := 7) rfl rfl, ⟨wb5 (i := 142) rfl rfl, wbP (i := 62) rfl⟩, by decide +kernel, by decide +kernel, rfl, chX6_looksForNote, ekX6_looksForNote, by decide, lnX6_looksForNote⟩
theorem mkX6_best : mok 165 := ⟨wb5 (i := 139) rfl rfl, wb1 (i := 7) rfl rfl, ⟨wb5 (i := 137) rfl rfl, wb5 (i := 138) rfl rfl⟩, by decide +kernel, by decide +kernel, rfl, chX6_best, ekX6_best, by decide, lnX6_best⟩
theorem mkX6_noteAbove : mok 166 := ⟨wb5 (i := 151) rfl rfl, wb1 (i := 7) rfl rfl, ⟨wb5 (i := 150) rfl rfl, wbP (i := 63) rfl⟩, by decide +kernel, by decide +kernel, rfl, chX6_noteAbove, ekX6_noteAbove, by decide, lnX6_noteAbove⟩
theorem mkX6_chordsFrom : mok 167 := ⟨wb5 (i := 155) rfl rfl, wb1 (i := 7) rfl rfl, ⟨wb5 (i := 154) rfl rfl, wbP (i := 64) rfl⟩, by decide +kernel, by decide +kernel, rfl, chX6_chordsFrom, ekX6_chordsFrom, by decide, lnX6_chordsFrom⟩
theorem mkX6_chord : mok 168 := ⟨wb5 (i := 147) rfl rfl, wb1 (i := 7) rfl rfl, ⟨wb5 (i := 145) rfl rfl, wb5 (i := 146) rfl rfl⟩, by decide +kernel, by decide +kernel, rfl, chX6_chord, ekX6_chord, by decide, lnX6_chord⟩
theorem mkX6_needed : mok 169 := ⟨wb5 (i := 159) rfl rfl, wb1 (i := 7) rfl rfl, ⟨wb5 (i := 157) rfl rfl, wb5 (i := 158) rfl rfl⟩, by decide +kernel, by decide +kernel, rfl, chX6_needed, ekX6_needed, by decide, lnX6_needed⟩
theorem mkX6_looseMany : mok 170 := ⟨wb5 (i := 168) rfl rfl, wb1 (i := 7) rfl rfl, ⟨wb5 (i := 167) rfl rfl, wbP (i := 65) rfl⟩, by decide +kernel, by decide +kernel, rfl, chX6_looseMany, ekX6_looseMany, by decide, lnX6_looseMany⟩
theorem mkX6_spare : mok 171 := ⟨wb5 (i := 164) rfl rfl, wb1 (i := 7) rfl rfl, ⟨wb5 (i := 162) rfl rfl, wb5 (i := 163) rfl rfl⟩, by decide +kernel, by decide +kernel, rfl, chX6_spare, ekX6_spare, by decide, lnX6_spare⟩
theorem mkX6_fewestOf : mok 172 := ⟨wb5 (i := 180) rfl rfl, wb1 (i := 7) rfl rfl, ⟨wb5 (i := 179) rfl rfl, wbP (i := 67) rfl⟩, by decide +kernel, by decide +kernel, rfl, chX6_fewestOf, ekX6_fewestOf, by decide, lnX6_fewestOf⟩
theorem mkX6_shift : mok 173 := ⟨wb5 (i := 172) rfl rfl, wb1 (i := 7) rfl rfl, ⟨wb5 (i := 170) rfl rfl, wb5 (i := 171) rfl rfl⟩, by decide +kernel, by decide +kernel, rfl, chX6_shift, ekX6_shift, by decide, lnX6_shift⟩
theorem mkX6_ill : mok 174 := ⟨wb5 (i := 184) rfl rfl, wb1 (i := 7) rfl rfl, ⟨wb5 (i := 182) rfl rfl, wb5 (i := 183) rfl rfl⟩, by decide +kernel, by decide +kernel, rfl, chX6_ill, ekX6_ill, by decide, lnX6_ill⟩
theorem mkX6_goesRound : mok 175 := ⟨wb5 (i := 192) rfl rfl, wb1 (i := 7) rfl rfl, ⟨wb5 (i := 191) rfl rfl, wbP (i := 68) rfl⟩, by decide +kernel, by decide +kernel, rfl, chX6_goesRound, ekX6_goesRound, by decide, lnX6_goesRound⟩
theorem mkX6_canon : mok 176 := ⟨wb5 (i := 188) rfl rfl, wb1 (i := 7) rfl rfl, ⟨wb5 (i := 186) rfl rfl, wb5 (i := 187) rfl rfl⟩, by decide +kernel, by decide +kernel, rfl, chX6_canon, ekX6_canon, by decide, lnX6_canon⟩
theorem mkX6_weightOf : mok 177 := ⟨wb5 (i := 200) rfl rfl, wb1 (i := 7) rfl rfl, ⟨wb5 (i := 199) rfl rfl, wbP (i := 69) rfl⟩, by decide +kernel, by decide +kernel, rfl, chX6_weightOf, ekX6_weightOf, by decide, lnX6_weightOf⟩
theorem mkX6_props : mok 178 := ⟨wb5 (i := 196) rfl rfl, wb1 (i := 7) rfl rfl, ⟨wb5 (i := 194) rfl rfl, wb5 (i := 195) rfl rfl⟩, by decide +kernel, by decide +kernel, rfl, chX6_props, ekX6_props, by decide, lnX6_props⟩
theorem mkX6_critical : mok 179 := ⟨wb5 (i := 204) rfl rfl, wb1 (i := 7) rfl rfl, ⟨wb5 (i := 202) rfl rfl, wb5 (i := 203) rfl rfl⟩, by decide +kernel, by decide +kernel, rfl, chX6_critical, ekX6_critical, by decide, lnX6_critical⟩
theorem mkX6_load : mok 180 := ⟨wb5 (i := 209) rfl rfl, wb1 (i := 7) rfl rfl, ⟨wb5 (i := 207) rfl rfl, wb5 (i := 208) rfl rfl⟩, by decide +kernel, by decide +kernel, rfl, chX6_load, ekX6_load, by decide, lnX6_load⟩
theorem mkX6_dust : mok 181 := ⟨wb5 (i := 217) rfl rfl, wb1 (i := 7) rfl rfl, ⟨wb5 (i := 215) rfl rfl, wb5 (i := 216) rfl rfl⟩, by decide +kernel, by decide +kernel, rfl, chX6_dust, ekX6_dust, by decide, lnX6_dust⟩
theorem mkX6_isDust : mok 182 := ⟨wb5 (i := 229) rfl rfl, wb1 (i := 7) rfl rfl, ⟨wb5 (i := 228) rfl rfl, wbP (i := 72) rfl⟩, by decide +kernel, by decide +kernel, rfl, chX6_isDust, ekX6_isDust, by decide, lnX6_isDust⟩
theorem mkX6_isFlat : mok 183 := ⟨wb5 (i := 225) rfl rfl, wb1 (i := 7) rfl rfl, ⟨wb5 (i := 224) rfl rfl, wbP (i := 71) rfl⟩, by decide +kernel, by decide +kernel, rfl, chX6_isFlat, ekX6_isFlat, by decide, lnX6_isFlat⟩
theorem mkX6_flat : mok 184 := ⟨wb5 (i := 221) rfl rfl, wb1 (i := 7) rfl rfl, ⟨wb5 (i := 219) rfl rfl, wb5 (i := 220) rfl rfl⟩, by decide +kernel, by decide +kernel, rfl, chX6_flat, ekX6_flat, by decide, lnX6_flat⟩
theorem mkX6_lightest : mok 185 := ⟨wb5 (i := 237) rfl rfl, wb1 (i := 7) rfl rfl, ⟨wb5 (i := 236) rfl rfl, wbP (i := 73) rfl⟩, by decide +kernel, by decide +kernel, rfl, chX6_lightest, ekX6_lightest, by decide, lnX6_lightest⟩
theorem mkX6_order : mok 186 := ⟨wb5 (i := 233) rfl rfl, wb1 (i := 7) rfl rfl, ⟨wb5 (i := 231) rfl rfl, wb5 (i := 232) rfl rfl⟩, by decide +kernel, by decide +kernel, rfl, chX6_order, ekX6_order, by decide, lnX6_order⟩
theorem mkX6_lowest : mok 187 := ⟨wb6 (i := 5) rfl rfl, wb1 (i := 7) rfl rfl, wb6 (i := 4) rfl rfl, by decide +kernel, by decide +kernel, rfl, chX6_lowest, ekX6_lowest, by decide, lnX6_lowest⟩
theorem mkX6_odds : mok 188 := ⟨wb6 (i := 1) rfl rfl, wb1 (i := 7) rfl rfl, ⟨wb5 (i := 239) rfl rfl, wb6 (i := 0) rfl rfl⟩, by decide +kernel, by decide +kernel, rfl, chX6_odds, ekX6_odds, by decide, lnX6_odds⟩
theorem mkX6_mean : mok 189 := ⟨wb6 (i := 9) rfl rfl, wb1 (i := 7) rfl rfl, ⟨wb6 (i := 7) rfl rfl, wb6 (i := 8) rfl rfl⟩, by decide +kernel, by decide +kernel, rfl, chX6_mean, ekX6_mean, by decide, lnX6_mean⟩
theorem mkX6_wage : mok 190 := ⟨wb6 (i := 13) rfl rfl, wb1 (i := 7) rfl rfl, ⟨wb6 (i := 11) rfl rfl, wb6 (i := 12) rfl rfl⟩, by decide +kernel, by decide +kernel, rfl, chX6_wage, ekX6_wage, by decide, lnX6_wage⟩
theorem mkX6_plan : mok 191 := ⟨wb6 (i := 17) rfl rfl, wb1 (i := 7) rfl rfl, ⟨wb6 (i := 15) rfl rfl, wb6 (i := 16) rfl rfl⟩, by decide +kernel, by decide +kernel, rfl, chX6_plan, ekX6_plan, by decide, lnX6_plan⟩
theorem mkX6_planned : mok 192 := ⟨wb6 (i := 21) rfl rfl, wb1 (i := 7) rfl rfl, ⟨wb6 (i := 19) rfl rfl, wb6 (i := 20) rfl rfl⟩, by decide +kernel, by decide +kernel, rfl, chX6_planned, ekX6_planned, by decide, lnX6_planned⟩
theorem mkX6_book : mok 193 := ⟨wb6 (i := 25) rfl rfl, wb1 (i := 7) rfl rfl, ⟨wb6 (i := 23) rfl rfl, wb6 (i := 24) rfl rfl⟩, by decide +kernel, by decide +kernel, rfl, chX6_book, ekX6_book, by decide, lnX6_book⟩
theorem mkX6_looked : mok 194 := ⟨wb6 (i := 29) rfl rfl, wb1 (i := 7) rfl rfl, ⟨wb6 (i := 27) rfl rfl, wb6 (i := 28) rfl rfl⟩, by decide +kernel, by decide +kernel, rfl, chX6_looked, ekX6_looked, by decide, lnX6_looked⟩
theorem mkX6_ranBody : mok 195 := ⟨wb6 (i := 44) rfl rfl, wb1 (i := 7) rfl rfl, ⟨wb6 (i := 43) rfl rfl, wbP (i := 75) rfl⟩, by decide +kernel, by decide +kernel, rfl, chX6_ranBody, ekX6_ranBody, by decide, lnX6_ranBody⟩
theorem mkX6_isUnder : mok 196 := ⟨wb6 (i := 40) rfl rfl, wb1 (i := 7) rfl rfl, wb6 (i := 39) rfl rfl, by decide +kernel, by decide +kernel, rfl, chX6_isUnder, ekX6_isUnder, by decide, lnX6_isUnder⟩
theorem mkX6_plainSings : mok 197 := ⟨wb6 (i := 48) rfl rfl, wb1 (i := 7) rfl rfl, ⟨wb6 (i := 47) rfl rfl, wbP (i := 76) rfl⟩, by decide +kernel, by decide +kernel, rfl, chX6_plainSings, ekX6_plainSings, by decide, lnX6_plainSings⟩
theorem mkX6_singsActs : mok 198 := ⟨wb6 (i := 37) rfl rfl, wb1 (i := 7) rfl rfl, ⟨wb6 (i := 36) rfl rfl, wbP (i := 74) rfl⟩, by decide +kernel, by decide +kernel, rfl, chX6_singsActs, ekX6_singsActs, by decide, lnX6_singsActs⟩
theorem mkX6_plainBears : mok 199 := ⟨wb6 (i := 56) rfl rfl, wb1 (i := 7) rfl rfl, ⟨wb6 (i := 55) rfl rfl, wbP (i := 78) rfl⟩, by decide +kernel, by decide +kernel, rfl, chX6_plainBears, ekX6_plainBears, by decide, lnX6_plainBears⟩
theorem mkX6_bearsActs : mok 200 := ⟨wb6 (i := 52) rfl rfl, wb1 (i := 7) rfl rfl, ⟨wb6 (i := 51) rfl rfl, wbP (i := 77) rfl⟩, by decide +kernel, by decide +kernel, rfl, chX6_bearsActs, ekX6_bearsActs, by decide, lnX6_bearsActs⟩
theorem mkX6_plainTells : mok 201 := ⟨wb6 (i := 64) rfl rfl, wb1 (i := 7) rfl rfl, ⟨wb6 (i := 63) rfl rfl, wbP (i := 80) rfl⟩, by decide +kernel, by decide +kernel, rfl, chX6_plainTells, ekX6_plainTells, by decide, lnX6_plainTells⟩
theorem mkX6_tellsActs : mok 202 := ⟨wb6 (i := 60) rfl rfl, wb1 (i := 7) rfl rfl, ⟨wb6 (i := 59) rfl rfl, wbP (i := 79) rfl⟩, by decide +kernel, by decide +kernel, rfl, chX6_tellsActs, ekX6_tellsActs, by decide, lnX6_tellsActs⟩
theorem mkX6_act : mok 203 := ⟨wb6 (i := 33) rfl rfl, wb1 (i := 7) rfl rfl, ⟨wb6 (i := 31) rfl rfl, wb6 (i := 32) rfl rfl⟩, by decide +kernel, by decide +kernel, rfl, chX6_act, ekX6_act, by decide, lnX6_act⟩
theorem mkX6_trace : mok 204 := ⟨wb6 (i := 68) rfl rfl, wb1 (i := 7) rfl rfl, ⟨wb6 (i := 66) rfl rfl, wb6 (i := 67) rfl rfl⟩, by decide +kernel, by decide +kernel, rfl, chX6_trace, ekX6_trace, by decide, lnX6_trace⟩
theorem mkX6_as : mok 205 := ⟨wb6 (i := 72) rfl rfl, wb1 (i := 7) rfl rfl, ⟨wb6 (i := 70) rfl rfl, wb6 (i := 71) rfl rfl⟩, by decide +kernel, by decide +kernel, rfl, chX6_as, ekX6_as, by decide, lnX6_as⟩
theorem mkX6_image : mok 206 := ⟨wb6 (i := 76) rfl rfl, wb1 (i := 7) rfl rfl, ⟨wb6 (i := 74) rfl rfl, wb6 (i := 75) rfl rfl⟩, by decide +kernel, by decide +kernel, rfl, chX6_image, ekX6_image, by decide, lnX6_image⟩
theorem mkX6_undo : mok 207 := ⟨wb6 (i := 80) rfl rfl, wb1 (i := 7) rfl rfl, ⟨wb6 (i := 78) rfl rfl, wb6 (i := 79) rfl rfl⟩, by decide +kernel, by decide +kernel, rfl, chX6_undo, ekX6_undo, by decide, lnX6_undo⟩
theorem mkX6_count : mok 208 := ⟨wb6 (i := 84) rfl rfl, wb1 (i := 7) rfl rfl, ⟨wb6 (i := 82) rfl rfl, wb6 (i := 83) rfl rfl⟩, by decide +kernel, by decide +kernel, rfl, chX6_count, ekX6_count, by decide, lnX6_count⟩
def jL : List Nat := List.range 209
theorem mokL_0 : ∀ j ∈ [0, 1, 2, 3, 4, 5, 6, 7, 8, 9, 10, 11, 12, 13, 14, 15, 16, 17, 18, 19, 20, 21, 22, 23, 24, 25, 26, 27, 28, 29], mok j := List.forall_mem_cons.mpr ⟨mkJ6_compare_7cf53, List.forall_mem_cons.mpr ⟨mkJ6_bitCount_0f7a4, List.forall_mem_cons.mpr ⟨mkJ0_length_8abf5, List.forall_mem_cons.mpr ⟨mkJ0_charAt_5068e, List.forall_mem_cons.mpr ⟨mkJ0_indexOf_0f7a4, List.forall_mem_cons.mpr ⟨mkJ0_indexOf_7cf53, List.forall_mem_cons.mpr ⟨mkJ0_coder_7d493, List.forall_mem_cons.mpr ⟨mkJ0_isLatin1_aae02, List.forall_mem_cons.mpr ⟨mkJ0_checkIndex_df160, List.forall_mem_cons.mpr ⟨mkJ1_charAt_3b067, List.forall_mem_cons.mpr ⟨mkJ1_canEncode_9a6ad, List.forall_mem_cons.mpr ⟨mkJ1_indexOf_4cfef, List.forall_mem_cons.mpr ⟨mkJ1_indexOfChar_4cfef, List.forall_mem_cons.mpr ⟨mkJ3_checkIndex_8e157, List.forall_mem_cons.mpr ⟨mkX0_perform, List.forall_mem_cons.mpr ⟨mkX0_callFrom, List.forall_mem_cons.mpr ⟨mkX0_runBody, List.forall_mem_cons.mpr ⟨mkX1_become, List.forall_mem_cons.mpr ⟨mkX1_addSinger, List.forall_mem_cons.mpr ⟨mkX1_addStone, List.forall_mem_cons.mpr ⟨mkX1_highOf, List.forall_mem_cons.mpr ⟨mkX1_canSing, List.forall_mem_cons.mpr ⟨mkX1_singing, List.forall_mem_cons.mpr ⟨mkX1_measure, List.forall_mem_cons.mpr ⟨mkX1_forceOf, List.forall_mem_cons.mpr ⟨mkX1_strengthOf, List.forall_mem_cons.mpr ⟨mkX1_partners, List.forall_mem_cons.mpr ⟨mkX1_bearing, List.forall_mem_cons.mpr ⟨mkX1_allOf, List.forall_mem_cons.mpr ⟨mkX1_allNow,  fun _ h => absurd h List.not_mem_nil⟩⟩⟩⟩⟩⟩⟩⟩⟩⟩⟩⟩⟩⟩⟩⟩⟩⟩⟩⟩⟩⟩⟩⟩⟩⟩⟩⟩⟩⟩
theorem mokL_1 : ∀ j ∈ [30, 31, 32, 33, 34, 35, 36, 37, 38, 39, 40, 41, 42, 43, 44, 45, 46, 47, 48, 49, 50, 51, 52, 53, 54, 55, 56, 57, 58, 59], mok j := List.forall_mem_cons.mpr ⟨mkX1_hangs, List.forall_mem_cons.mpr ⟨mkX1_sumHanging, List.forall_mem_cons.mpr ⟨mkX1_looseBits, List.forall_mem_cons.mpr ⟨mkX1_countFallen, List.forall_mem_cons.mpr ⟨mkX1_sumTired, List.forall_mem_cons.mpr ⟨mkX1_goBeat, List.forall_mem_cons.mpr ⟨mkX1_goRound, List.forall_mem_cons.mpr ⟨mkX1_keepNotes, List.forall_mem_cons.mpr ⟨mkX2_read, List.forall_mem_cons.mpr ⟨mkX2_peek, List.forall_mem_cons.mpr ⟨mkX2_take, List.forall_mem_cons.mpr ⟨mkX2_readClause, List.forall_mem_cons.mpr ⟨mkX2_readWord, List.forall_mem_cons.mpr ⟨mkX2_readRest, List.forall_mem_cons.mpr ⟨mkX2_readNumber, List.forall_mem_cons.mpr ⟨mkX2_readEither, List.forall_mem_cons.mpr ⟨mkX2_readBoth, List.forall_mem_cons.mpr ⟨mkX2_readFactor, List.forall_mem_cons.mpr ⟨mkX2_readTest, List.forall_mem_cons.mpr ⟨mkX2_indexOfNext, List.forall_mem_cons.mpr ⟨mkX3_clear, List.forall_mem_cons.mpr ⟨mkX3_addToken, List.forall_mem_cons.mpr ⟨mkX3_addClause, List.forall_mem_cons.mpr ⟨mkX3_gainOf, List.forall_mem_cons.mpr ⟨mkX3_holds, List.forall_mem_cons.mpr ⟨mkX4_become, List.forall_mem_cons.mpr ⟨mkX5_feed, List.forall_mem_cons.mpr ⟨mkX5_setting, List.forall_mem_cons.mpr ⟨mkX5_singer, List.forall_mem_cons.mpr ⟨mkX5_of,  fun _ h => absurd h List.not_mem_nil⟩⟩⟩⟩⟩⟩⟩⟩⟩⟩⟩⟩⟩⟩⟩⟩⟩⟩⟩⟩⟩⟩⟩⟩⟩⟩⟩⟩⟩⟩
theorem mokL_2 : ∀ j ∈ [60, 61, 62, 63, 64, 65, 66, 67, 68, 69, 70, 71, 72, 73, 74, 75, 76, 77, 78, 79, 80, 81, 82, 83, 84, 85, 86, 87, 88, 89], mok j := List.forall_mem_cons.mpr ⟨mkX5_row, List.forall_mem_cons.mpr ⟨mkX5_sing, List.forall_mem_cons.mpr ⟨mkX5_tire, List.forall_mem_cons.mpr ⟨mkX5_stone, List.forall_mem_cons.mpr ⟨mkX5_at, List.forall_mem_cons.mpr ⟨mkX5_prop, List.forall_mem_cons.mpr ⟨mkX5_told, List.forall_mem_cons.mpr ⟨mkX5_beat, List.forall_mem_cons.mpr ⟨mkX5_on, List.forall_mem_cons.mpr ⟨mkX5_steady, List.forall_mem_cons.mpr ⟨mkX5_best, List.forall_mem_cons.mpr ⟨mkX5_chord, List.forall_mem_cons.mpr ⟨mkX5_needed, List.forall_mem_cons.mpr ⟨mkX5_spare, List.forall_mem_cons.mpr ⟨mkX5_shift, List.forall_mem_cons.mpr ⟨mkX5_ill, List.forall_mem_cons.mpr ⟨mkX5_canon, List.forall_mem_cons.mpr ⟨mkX5_props, List.forall_mem_cons.mpr ⟨mkX5_critical, List.forall_mem_cons.mpr ⟨mkX5_load, List.forall_mem_cons.mpr ⟨mkX5_dust, List.forall_mem_cons.mpr ⟨mkX5_flat, List.forall_mem_cons.mpr ⟨mkX5_order, List.forall_mem_cons.mpr ⟨mkX5_odds, List.forall_mem_cons.mpr ⟨mkX5_mean, List.forall_mem_cons.mpr ⟨mkX5_wage, List.forall_mem_cons.mpr ⟨mkX5_plan, List.forall_mem_cons.mpr ⟨mkX5_planned, List.forall_mem_cons.mpr ⟨mkX5_book, List.forall_mem_cons.mpr ⟨mkX5_looked,  fun _ h => absurd h List.not_mem_nil⟩⟩⟩⟩⟩⟩⟩⟩⟩⟩⟩⟩⟩⟩⟩⟩⟩⟩⟩⟩⟩⟩⟩⟩⟩⟩⟩⟩⟩⟩
theorem mokL_3 : ∀ j ∈ [90, 91, 92, 93, 94, 95, 96, 97, 98, 99, 100, 101, 102, 103, 104, 105, 106, 107, 108, 109, 110, 111, 112, 113, 114, 115, 116, 117, 118, 119], mok j := List.forall_mem_cons.mpr ⟨mkX5_act, List.forall_mem_cons.mpr ⟨mkX5_trace, List.forall_mem_cons.mpr ⟨mkX5_as, List.forall_mem_cons.mpr ⟨mkX5_image, List.forall_mem_cons.mpr ⟨mkX5_undo, List.forall_mem_cons.mpr ⟨mkX5_count, List.forall_mem_cons.mpr ⟨mkX5_isSinger, List.forall_mem_cons.mpr ⟨mkX5_isStone, List.forall_mem_cons.mpr ⟨mkX5_hasBit, List.forall_mem_cons.mpr ⟨mkX5_bestNote, List.forall_mem_cons.mpr ⟨mkX5_measureChords, List.forall_mem_cons.mpr ⟨mkX5_chordNote, List.forall_mem_cons.mpr ⟨mkX5_bestChord, List.forall_mem_cons.mpr ⟨mkX5_singChord, List.forall_mem_cons.mpr ⟨mkX5_looseOf, List.forall_mem_cons.mpr ⟨mkX5_spareBits, List.forall_mem_cons.mpr ⟨mkX5_setShift, List.forall_mem_cons.mpr ⟨mkX5_isDustBy, List.forall_mem_cons.mpr ⟨mkX5_sortHanging, List.forall_mem_cons.mpr ⟨mkX5_inLowestTerms, List.forall_mem_cons.mpr ⟨mkX5_commonDivisor, List.forall_mem_cons.mpr ⟨mkX6_in, List.forall_mem_cons.mpr ⟨mkX6_isSinger, List.forall_mem_cons.mpr ⟨mkX6_isStone, List.forall_mem_cons.mpr ⟨mkX6_doesSing, List.forall_mem_cons.mpr ⟨mkX6_keeps, List.forall_mem_cons.mpr ⟨mkX6_goesBack, List.forall_mem_cons.mpr ⟨mkX6_feed, List.forall_mem_cons.mpr ⟨mkX6_here, List.forall_mem_cons.mpr ⟨mkX6_must,  fun _ h => absurd h List.not_mem_nil⟩⟩⟩⟩⟩⟩⟩⟩⟩⟩⟩⟩⟩⟩⟩⟩⟩⟩⟩⟩⟩⟩⟩⟩⟩⟩⟩⟩⟩⟩
theorem mokL_4 : ∀ j ∈ [120, 121, 122, 123, 124, 125, 126, 127, 128, 129, 130, 131, 132, 133, 134, 135, 136, 137, 138, 139, 140, 141, 142, 143, 144, 145, 146, 147, 148, 149], mok j := List.forall_mem_cons.mpr ⟨mkX6_spells, List.forall_mem_cons.mpr ⟨mkX6_figures, List.forall_mem_cons.mpr ⟨mkX6_among, List.forall_mem_cons.mpr ⟨mkX6_emits, List.forall_mem_cons.mpr ⟨mkX6_factor, List.forall_mem_cons.mpr ⟨mkX6_every, List.forall_mem_cons.mpr ⟨mkX6_some, List.forall_mem_cons.mpr ⟨mkX6_much, List.forall_mem_cons.mpr ⟨mkX6_tellsHere, List.forall_mem_cons.mpr ⟨mkX6_clauseHere, List.forall_mem_cons.mpr ⟨mkX6_setting, List.forall_mem_cons.mpr ⟨mkX6_tellsOf, List.forall_mem_cons.mpr ⟨mkX6_looks, List.forall_mem_cons.mpr ⟨mkX6_strengthOf, List.forall_mem_cons.mpr ⟨mkX6_forceOf, List.forall_mem_cons.mpr ⟨mkX6_isTune, List.forall_mem_cons.mpr ⟨mkX6_looksForForces, List.forall_mem_cons.mpr ⟨mkX6_isOf, List.forall_mem_cons.mpr ⟨mkX6_tunesOf, List.forall_mem_cons.mpr ⟨mkX6_bearsOf, List.forall_mem_cons.mpr ⟨mkX6_allBy, List.forall_mem_cons.mpr ⟨mkX6_singing, List.forall_mem_cons.mpr ⟨mkX6_allNow, List.forall_mem_cons.mpr ⟨mkX6_doesHang, List.forall_mem_cons.mpr ⟨mkX6_looseBy, List.forall_mem_cons.mpr ⟨mkX6_fallenMany, List.forall_mem_cons.mpr ⟨mkX6_sizeOf, List.forall_mem_cons.mpr ⟨mkX6_hangingWeight, List.forall_mem_cons.mpr ⟨mkX6_singer, List.forall_mem_cons.mpr ⟨mkX6_highOf,  fun _ h => absurd h List.not_mem_nil⟩⟩⟩⟩⟩⟩⟩⟩⟩⟩⟩⟩⟩⟩⟩⟩⟩⟩⟩⟩⟩⟩⟩⟩⟩⟩⟩⟩⟩⟩
theorem mokL_5 : ∀ j ∈ [150, 151, 152, 153, 154, 155, 156, 157, 158, 159, 160, 161, 162, 163, 164, 165, 166, 167, 168, 169, 170, 171, 172, 173, 174, 175, 176, 177, 178, 179], mok j := List.forall_mem_cons.mpr ⟨mkX6_canSing, List.forall_mem_cons.mpr ⟨mkX6_of, List.forall_mem_cons.mpr ⟨mkX6_row, List.forall_mem_cons.mpr ⟨mkX6_sing, List.forall_mem_cons.mpr ⟨mkX6_tire, List.forall_mem_cons.mpr ⟨mkX6_stone, List.forall_mem_cons.mpr ⟨mkX6_at, List.forall_mem_cons.mpr ⟨mkX6_prop, List.forall_mem_cons.mpr ⟨mkX6_told, List.forall_mem_cons.mpr ⟨mkX6_goesBy, List.forall_mem_cons.mpr ⟨mkX6_goes, List.forall_mem_cons.mpr ⟨mkX6_beat, List.forall_mem_cons.mpr ⟨mkX6_on, List.forall_mem_cons.mpr ⟨mkX6_steady, List.forall_mem_cons.mpr ⟨mkX6_looksForNote, List.forall_mem_cons.mpr ⟨mkX6_best, List.forall_mem_cons.mpr ⟨mkX6_noteAbove, List.forall_mem_cons.mpr ⟨mkX6_chordsFrom, List.forall_mem_cons.mpr ⟨mkX6_chord, List.forall_mem_cons.mpr ⟨mkX6_needed, List.forall_mem_cons.mpr ⟨mkX6_looseMany, List.forall_mem_cons.mpr ⟨mkX6_spare, List.forall_mem_cons.mpr ⟨mkX6_fewestOf, List.forall_mem_cons.mpr ⟨mkX6_shift, List.forall_mem_cons.mpr ⟨mkX6_ill, List.forall_mem_cons.mpr ⟨mkX6_goesRound, List.forall_mem_cons.mpr ⟨mkX6_canon, List.forall_mem_cons.mpr ⟨mkX6_weightOf, List.forall_mem_cons.mpr ⟨mkX6_props, List.forall_mem_cons.mpr ⟨mkX6_critical,  fun _ h => absurd h List.not_mem_nil⟩⟩⟩⟩⟩⟩⟩⟩⟩⟩⟩⟩⟩⟩⟩⟩⟩⟩⟩⟩⟩⟩⟩⟩⟩⟩⟩⟩⟩⟩
theorem mokL_6 : ∀ j ∈ [180, 181, 182, 183, 184, 185, 186, 187, 188, 189, 190, 191, 192, 193, 194, 195, 196, 197, 198, 199, 200, 201, 202, 203, 204, 205, 206, 207, 208], mok j := List.forall_mem_cons.mpr ⟨mkX6_load, List.forall_mem_cons.mpr ⟨mkX6_dust, List.forall_mem_cons.mpr ⟨mkX6_isDust, List.forall_mem_cons.mpr ⟨mkX6_isFlat, List.forall_mem_cons.mpr ⟨mkX6_flat, List.forall_mem_cons.mpr ⟨mkX6_lightest, List.forall_mem_cons.mpr ⟨mkX6_order, List.forall_mem_cons.mpr ⟨mkX6_lowest, List.forall_mem_cons.mpr ⟨mkX6_odds, List.forall_mem_cons.mpr ⟨mkX6_mean, List.forall_mem_cons.mpr ⟨mkX6_wage, List.forall_mem_cons.mpr ⟨mkX6_plan, List.forall_mem_cons.mpr ⟨mkX6_planned, List.forall_mem_cons.mpr ⟨mkX6_book, List.forall_mem_cons.mpr ⟨mkX6_looked, List.forall_mem_cons.mpr ⟨mkX6_ranBody, List.forall_mem_cons.mpr ⟨mkX6_isUnder, List.forall_mem_cons.mpr ⟨mkX6_plainSings, List.forall_mem_cons.mpr ⟨mkX6_singsActs, List.forall_mem_cons.mpr ⟨mkX6_plainBears, List.forall_mem_cons.mpr ⟨mkX6_bearsActs, List.forall_mem_cons.mpr ⟨mkX6_plainTells, List.forall_mem_cons.mpr ⟨mkX6_tellsActs, List.forall_mem_cons.mpr ⟨mkX6_act, List.forall_mem_cons.mpr ⟨mkX6_trace, List.forall_mem_cons.mpr ⟨mkX6_as, List.forall_mem_cons.mpr ⟨mkX6_image, List.forall_mem_cons.mpr ⟨mkX6_undo, List.forall_mem_cons.mpr ⟨mkX6_count,  fun _ h => absurd h List.not_mem_nil⟩⟩⟩⟩⟩⟩⟩⟩⟩⟩⟩⟩⟩⟩⟩⟩⟩⟩⟩⟩⟩⟩⟩⟩⟩⟩⟩⟩⟩
theorem mok_all : ∀ j, j < 209 → mok j := by
  intro j hj
  by_cases h0 : j < 30
  · exact mokL_0 j (by simp only [List.mem_cons, List.not_mem_nil, or_false]; omega)
  by_cases h1 : j < 60
  · exact mokL_1 j (by simp only [List.mem_cons, List.not_mem_nil, or_false]; omega)
  by_cases h2 : j < 90
  · exact mokL_2 j (by simp only [List.mem_cons, List.not_mem_nil, or_false]; omega)
  by_cases h3 : j < 120
  · exact mokL_3 j (by simp only [List.mem_cons, List.not_mem_nil, or_false]; omega)
  by_cases h4 : j < 150
  · exact mokL_4 j (by simp only [List.mem_cons, List.not_mem_nil, or_false]; omega)
  by_cases h5 : j < 180
  · exact mokL_5 j (by simp only [List.mem_cons, List.not_mem_nil, or_false]; omega)
  by_cases h6 : j < 209
  · exact mokL_6 j (by simp only [List.mem_cons, List.not_mem_nil, or_false]; omega)
  exact absurd hj (by omega)
